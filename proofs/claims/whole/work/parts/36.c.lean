/-! ===== one member's money: what is laid to the months ===== -/
abbrev xk (c : Nat) : Prop := c = 11 ∨ c = 12 ∨ c = 15 ∨ c = 21 ∨ c = 23
theorem imc_eq (x y : Int32) : imc x y = imin x y := by
  unfold imc imin
  by_cases h : y < x
  · rw [if_pos h, if_pos (Int32.le_of_lt h)]
  · rw [if_neg h]
    by_cases h2 : y ≤ x
    · rw [if_pos h2]
      exact Int32.le_antisymm h2 (Int32.not_lt.mp h)
    · rw [if_neg h2]
theorem imin_n {a b : Nat} (ha : a < 2 ^ 31) (hb : b < 2 ^ 31) : imin (nI a) (nI b) = nI (if b < a then b else a) := imin_nI ha hb
def MS (C W : Nat) (σ : S3) (i : Nat) : Prop := (∃ c, c ≤ C ∧ σ 5 i 0 = nI c) ∧ ∀ m, ∃ w, w ≤ W ∧ σ 7 i m = nI w
theorem MS.mono {C C' W : Nat} {σ : S3} {i : Nat} (h : MS C W σ i) (hc : C ≤ C') : MS C' W σ i := ⟨h.1.elim fun c q => ⟨c, Nat.le_trans q.1 hc, q.2⟩, h.2⟩
/-- what a member's doings leave as it was -/
def Fr (i : Nat) (σ σ' : S3) : Prop := (∀ c, c ≠ 5 → c ≠ 7 → c ≠ 8 → c ≠ 9 → c ≠ 22 → σ' c = σ c) ∧ ∀ c j, c ≠ 9 → j ≠ i → σ' c j = σ c j
theorem Fr.rf (i : Nat) (σ : S3) : Fr i σ σ := ⟨fun _ _ _ _ _ _ => rfl, fun _ _ _ _ => rfl⟩
theorem Fr.tr {i : Nat} {σ τ υ : S3} (h : Fr i σ τ) (g : Fr i τ υ) : Fr i σ υ := ⟨fun c a b d e f => (g.1 c a b d e f).trans (h.1 c a b d e f), fun c j a b => (g.2 c j a b).trans (h.2 c j a b)⟩
theorem layS_5 (σ : S3) (i m : Nat) : (layS σ i m) 5 i 0 = σ 5 i 0 - imin (σ 5 i 0) (σ 7 i m) := by
  unfold layS
  rw [su_k (by decide), su_k (by decide), su_k (by decide), su_same]
theorem layS_7 (σ : S3) (i m : Nat) : (layS σ i m) 7 i m = σ 7 i m - imin (σ 5 i 0) (σ 7 i m) := by
  unfold layS
  rw [su_k (by decide), su_k (by decide), su_same]
theorem layS_7x (σ : S3) {i m x : Nat} (h : x ≠ m) : (layS σ i m) 7 i x = σ 7 i x := by
  unfold layS
  rw [su_k (by decide), su_k (by decide), su_m h, su_k (by decide)]
theorem layS_22 (σ : S3) (i m : Nat) : (layS σ i m) 22 = σ 22 := by
  unfold layS
  rw [su_fn (by decide), su_fn (by decide), su_fn (by decide), su_fn (by decide)]
theorem layS_Fr (σ : S3) (i m : Nat) : Fr i σ (layS σ i m) := by
  refine ⟨fun c h5 h7 h8 h9 h22 => ?_, fun c j h9 hj => ?_⟩
  · unfold layS
    rw [su_fn h9, su_fn h8, su_fn h7, su_fn h5]
  · unfold layS
    rw [su_fn h9, su_fi hj, su_fi hj, su_fi hj]
def mlG (i : Nat) : Nat → Nat → S3 → S3
  | 0, _, σ => σ
  | k + 1, m, σ => mlG i k (m + 1) (mlS σ i m)
theorem mlG_add (i : Nat) : ∀ (k m : Nat) (σ : S3) (j : Nat), mlG i (k + j) m σ = mlG i j (m + k) (mlG i k m σ)
  | 0, m, σ, j => by
    rw [Nat.zero_add]
    rfl
  | k + 1, m, σ, j => by
    rw [show k + 1 + j = (k + j) + 1 by omega]
    show mlG i (k + j) (m + 1) (mlS σ i m) = mlG i j (m + (k + 1)) (mlG i k (m + 1) (mlS σ i m))
    rw [mlG_add i k (m + 1), show m + 1 + k = m + (k + 1) by omega]
theorem mlF_G (σ : S3) (i : Nat) : ∀ k, mlF σ i k = mlG i k 0 σ
  | 0 => rfl
  | k + 1 => by
    rw [mlG_add i k 0 σ 1, ← mlF_G σ i k, Nat.zero_add]
    rfl
theorem mlS_id {μ : S3} {i m : Nat} (h : imc (μ 5 i 0) (μ 7 i m) = 0) : mlS μ i m = μ := by
  unfold mlS
  rw [h, Int32.sub_zero, su_eta, Int32.sub_zero, su_eta, Int32.add_zero, su_eta, Int32.add_zero, su_eta, Int32.zero_div, Int32.add_zero, su_eta]
theorem mlG_id {μ : S3} {i : Nat} : ∀ k m, (∀ x, m ≤ x → x < m + k → imc (μ 5 i 0) (μ 7 i x) = 0) → mlG i k m μ = μ
  | 0, _, _ => rfl
  | k + 1, m, h => by
    show mlG i k (m + 1) (mlS μ i m) = μ
    rw [mlS_id (h m (Nat.le_refl m) (by omega))]
    exact mlG_id k (m + 1) (fun x h1 h2 => h x (by omega) (by omega))
theorem imc_0 {a b : Int32} {c w : Nat} (ha : a = nI c) (hb : b = nI w) (hc : c < 2 ^ 31) (hw : w < 2 ^ 31) (h : c = 0 ∨ w = 0) : imc a b = 0 := by
  rw [imc_eq, ha, hb, imin_n hc hw]
  rcases h with h | h
  · rw [h, if_neg (Nat.not_lt_zero w)]
    rfl
  · rw [h]
    by_cases h2 : 0 < c
    · rw [if_pos h2]
      rfl
    · rw [if_neg h2, show c = 0 by omega]
      rfl
theorem mlS_E {σ μ : S3} (h : E18 σ μ) (i m : Nat) : E18 (layS σ i m) (mlS μ i m) ∧ (mlS μ i m) 19 0 0 = μ 19 0 0 + imin (σ 5 i 0) (σ 7 i m) / 5 ∧ ∀ c, xk c → (mlS μ i m) c = μ c := by
  unfold mlS layS
  rw [imc_eq, ← h.1 5 i 0 rfl, ← h.1 7 i m rfl, ← h.1 8 i m rfl, E18_br h, ← h.1 9 _ m rfl]
  refine ⟨((((h.su1 5 i 0 _).su1 7 i m _).su1 8 i m _).su1 9 _ m _).suR rfl (by decide), su_same _ _ _ _ _, fun c hc => ?_⟩
  rcases hc with rfl | rfl | rfl | rfl | rfl <;> rw [su_fn (by decide), su_fn (by decide), su_fn (by decide), su_fn (by decide), su_fn (by decide)]
theorem lay_sim (i : Nat) {W : Nat} (hW : W < 2 ^ 31) : ∀ (k m : Nat) (σ μ : S3) (sh z : Int32) (C : Nat), C < 2 ^ 31 → E18 σ μ → μ 19 0 0 = z + sh → MS C W σ i →
    E18 (layL i k m σ sh).1 (mlG i k m μ) ∧ (mlG i k m μ) 19 0 0 = z + (layL i k m σ sh).2 ∧ MS C W (layL i k m σ sh).1 i ∧ Fr i σ (layL i k m σ sh).1 ∧ (layL i k m σ sh).1 22 = σ 22 ∧ ((layL i k m σ sh).1 5 i 0 = 0 ∨ ∀ x, m ≤ x → x < m + k → (layL i k m σ sh).1 7 i x = 0) ∧ (∀ x, σ 7 i x = 0 → (layL i k m σ sh).1 7 i x = 0) ∧ ∀ c, xk c → (mlG i k m μ) c = μ c := by
  intro k
  induction k with
  | zero =>
    intro m σ μ sh z C hC hE h19 hM
    exact ⟨hE, h19, hM, Fr.rf i σ, rfl, Or.inr (fun x h1 h2 => by omega), fun _ h => h, fun _ _ => rfl⟩
  | succ k ih =>
    intro m σ μ sh z C hC hE h19 hM
    obtain ⟨⟨c, hc, e5⟩, hw⟩ := hM
    obtain ⟨w, hwW, e7⟩ := hw m
    by_cases h0 : 0 < σ 5 i 0
    · have e : layL i (k + 1) m σ sh = layL i k (m + 1) (layS σ i m) (sh + imin (σ 5 i 0) (σ 7 i m) / 5) := by
        show (if 0 < σ 5 i 0 then _ else _) = _
        rw [if_pos h0]
      have eg : mlG i (k + 1) m μ = mlG i k (m + 1) (mlS μ i m) := rfl
      rw [e, eg]
      obtain ⟨hE1, hf1, hk1⟩ := mlS_E hE i m
      have ht : imin (σ 5 i 0) (σ 7 i m) = nI (if w < c then w else c) := by rw [e5, e7, imin_n (by omega) (by omega)]
      have hlt : (if w < c then w else c) ≤ c ∧ (if w < c then w else c) ≤ w := by
        by_cases h : w < c
        · rw [if_pos h]; omega
        · rw [if_neg h]; omega
      generalize hteq : (if w < c then w else c) = t at ht hlt
      have n5 : (layS σ i m) 5 i 0 = nI (c - t) := by rw [layS_5, ht, e5, pk_sub hlt.1]
      have n7 : (layS σ i m) 7 i m = nI (w - t) := by rw [layS_7, ht, e7, pk_sub hlt.2]
      have hM1 : MS (c - t) W (layS σ i m) i := by
        refine ⟨⟨c - t, Nat.le_refl _, n5⟩, fun x => ?_⟩
        by_cases hx : x = m
        · rw [hx, n7]
          exact ⟨w - t, by omega, rfl⟩
        · rw [layS_7x σ hx]
          exact hw x
      obtain ⟨r1, r2, r3, r4, r5, r6, r7, r8⟩ := ih (m + 1) (layS σ i m) (mlS μ i m) (sh + imin (σ 5 i 0) (σ 7 i m) / 5) z (c - t) (by omega) hE1 (by rw [hf1, h19, Int32.add_assoc]) hM1
      refine ⟨r1, r2, r3.mono (by omega), (layS_Fr σ i m).tr r4, r5.trans (layS_22 σ i m), ?_, fun x hx => ?_, fun q hq => (r8 q hq).trans (hk1 q hq)⟩
      · by_cases hz : c - t = 0
        · left
          obtain ⟨⟨c2, hc2, e52⟩, -⟩ := r3
          rw [e52, show c2 = 0 by omega]
          rfl
        · have hwt : w - t = 0 := by
            by_cases h : w < c
            · rw [if_pos h] at hteq; omega
            · rw [if_neg h] at hteq; omega
          rcases r6 with h | h
          · exact Or.inl h
          · refine Or.inr (fun x h1 h2 => ?_)
            by_cases hx : x = m
            · rw [hx]
              exact r7 m (by rw [n7, hwt]; rfl)
            · exact h x (by omega) (by omega)
      · by_cases hxm : x = m
        · refine r7 x ?_
          rw [hxm] at hx ⊢
          have hw0 : w = 0 := by
            rw [e7, show (0 : Int32) = nI 0 from rfl, nI_eq (by omega) (by decide)] at hx
            exact hx
          rw [n7, hw0, Nat.zero_sub]
          rfl
        · exact r7 x (by rw [layS_7x σ hxm]; exact hx)
    · have e : layL i (k + 1) m σ sh = (σ, sh) := by
        show (if 0 < σ 5 i 0 then _ else _) = _
        rw [if_neg h0]
      have hc0 : c = 0 := by
        rw [e5, show (0 : Int32) = nI 0 from rfl, nI_ltI (by decide) (by omega)] at h0
        omega
      have eg : mlG i (k + 1) m μ = μ := mlG_id (k + 1) m (fun x _ _ => by
        obtain ⟨w2, hw2, e72⟩ := hw x
        exact imc_0 (c := c) (w := w2) (by rw [← hE.1 5 i 0 rfl]; exact e5) (by rw [← hE.1 7 i x rfl]; exact e72) (by omega) (by omega) (Or.inl hc0))
      rw [e, eg]
      exact ⟨hE, h19, ⟨⟨c, hc, e5⟩, hw⟩, Fr.rf i σ, rfl, Or.inl (by show σ 5 i 0 = 0; rw [e5, hc0]; rfl), fun _ h => h, fun _ _ => rfl⟩
theorem skip_sim (i : Nat) : ∀ (k : Nat) (σ : S3), eo σ i + k = 60 → (∀ m, m < eo σ i → σ 7 i m = 0) → (∀ c, c ≠ 22 → (skipL i k σ) c = σ c) ∧ (∀ j, j ≠ i → (skipL i k σ) 22 j = σ 22 j) ∧ EOi (skipL i k σ) i := by
  intro k
  induction k with
  | zero =>
    intro σ h1 h2
    exact ⟨fun _ _ => rfl, fun _ _ => rfl, h2, fun h => absurd h (by show ¬ eo σ i < 60; omega)⟩
  | succ k ih =>
    intro σ h1 h2
    by_cases hz : σ 7 i (eo σ i) = 0
    · have e : skipL i (k + 1) σ = skipL i k (su σ 22 i 0 (nI (eo σ i + 1))) := by
        show (if σ 7 i (eo σ i) = 0 then _ else _) = _
        rw [if_pos hz]
      have he : eo (su σ 22 i 0 (nI (eo σ i + 1))) i = eo σ i + 1 := eo_su22 (by omega)
      rw [e]
      obtain ⟨r1, r2, r3⟩ := ih (su σ 22 i 0 (nI (eo σ i + 1))) (by rw [he]; omega) (fun m hm => by
        rw [he] at hm
        rw [su_k (by decide)]
        by_cases q : m = eo σ i
        · rw [q]; exact hz
        · exact h2 m (by omega))
      exact ⟨fun c hc => (r1 c hc).trans (su_fn hc), fun j hj => (r2 j hj).trans (su_fi hj), r3⟩
    · have e : skipL i (k + 1) σ = σ := by
        show (if σ 7 i (eo σ i) = 0 then _ else _) = _
        rw [if_neg hz]
      rw [e]
      exact ⟨fun _ _ => rfl, fun _ _ => rfl, h2, fun _ => hz⟩
theorem layA_sim (i : Nat) {C W : Nat} (hC : C < 2 ^ 31) (hW : W < 2 ^ 31) {σ μ : S3} {z : Int32} (hE : E18 σ μ) (h19 : μ 19 0 0 = z) (hM : MS C W σ i) (hz : ∀ m, m < eo σ i → σ 7 i m = 0) (h60 : ∀ m, 60 ≤ m → σ 7 i m = 0) :
    E18 (layA σ i).1 (mlA μ i) ∧ (mlA μ i) 19 0 0 = z + (layA σ i).2 ∧ MS C W (layA σ i).1 i ∧ Fr i σ (layA σ i).1 ∧ EOi (layA σ i).1 i ∧ ((layA σ i).1 5 i 0 = 0 ∨ ∀ x, (layA σ i).1 7 i x = 0) ∧ (∀ x, σ 7 i x = 0 → (layA σ i).1 7 i x = 0) ∧ ∀ c, xk c → (mlA μ i) c = μ c := by
  have hle := eo_le σ i
  have L := lay_sim i hW (60 - eo σ i) (eo σ i) σ μ 0 z C hC hE (by rw [h19, Int32.add_zero]) hM
  obtain ⟨⟨c, hc, e5⟩, hw⟩ := id hM
  have eM : mlA μ i = mlG i (60 - eo σ i) (eo σ i) μ := by
    unfold mlA
    rw [mlF_G]
    have h1 : mlG i 60 0 μ = mlG i (eo σ i + (60 - eo σ i)) 0 μ := by rw [Nat.add_sub_cancel' hle]
    rw [h1, mlG_add, Nat.zero_add, mlG_id (eo σ i) 0 (fun x _ hx => ?_)]
    exact imc_0 (c := c) (w := 0) (by rw [← hE.1 5 i 0 rfl]; exact e5) (by rw [← hE.1 7 i x rfl]; exact hz x (by omega)) (by omega) (by decide) (Or.inr rfl)
  rw [← eM] at L
  have eA : layA σ i = (skipL i (60 - eo (layL i (60 - eo σ i) (eo σ i) σ 0).1 i) (layL i (60 - eo σ i) (eo σ i) σ 0).1, (layL i (60 - eo σ i) (eo σ i) σ 0).2) := rfl
  rw [eA]
  generalize layL i (60 - eo σ i) (eo σ i) σ 0 = r at L
  obtain ⟨r1, r2, r3, r4, r5, r6, r7, r8⟩ := L
  have hr : eo r.1 i = eo σ i := eo_t (by rw [r5])
  obtain ⟨s1, s2, s3⟩ := skip_sim i (60 - eo r.1 i) r.1 (by omega) (fun m hm => r7 m (hz m (by omega)))
  have t7 := s1 7 (by decide)
  have t5 := s1 5 (by decide)
  dsimp only
  refine ⟨⟨fun a b m ho => ?_, fun b hb => ?_⟩, r2, ?_, r4.tr ⟨fun q _ _ _ _ h22 => s1 q h22, fun q j h9 hj => ?_⟩, s3, ?_, fun x hx => ?_, r8⟩
  · rw [s1 a (fun e => by rw [e] at ho; exact absurd ho (by decide))]
    exact r1.1 a b m ho
  · rw [s1 0 (by decide)]
    exact r1.2 b hb
  · unfold MS
    rw [t7, t5]
    exact r3
  · by_cases h22 : q = 22
    · rw [h22]
      exact s2 j hj
    · rw [s1 q h22]
  · rw [t7, t5]
    rcases r6 with h | h
    · exact Or.inl h
    · refine Or.inr (fun x => ?_)
      by_cases hx : x < eo σ i
      · exact r7 x (hz x hx)
      · by_cases hx2 : x < 60
        · exact h x (by omega) (by omega)
        · exact r7 x (h60 x (by omega))
  · rw [t7]
    exact r7 x hx
