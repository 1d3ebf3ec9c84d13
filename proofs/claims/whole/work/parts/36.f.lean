/-! ===== the two answers of one call beside each other ===== -/
section SIM
variable {f : Nat → Int64} {ad : Nat → Nat} {n : Nat} {σ μ : S3} {E1 E2 : String} {P P2 Pm P2m : Prop} {g : Int32 → Int64} {pi : Int32 → S3 → Prop} {pv : S3 → Prop} {RC R : Int32} {UC U : S3} {J : LSt → S3 → Prop}
theorem simI2 (hE : E1 ≠ E2) (hP : P ↔ Pm) (hP2 : P → (P2 ↔ P2m)) (hpi : ∀ v σ1, pi v σ1 → P ∧ P2 ∧ v = RC ∧ σ1 = UC) (h23 : P → P2 → U 23 0 0 = 0) (hret : P → P2 → RC = R) (h0 : P → P2 → J (lU f ad n UC (g RC)) U) (h1 : ∀ v, J (f, ad, n, σ) (su μ 23 0 0 v)) :
    SimI (lP2 f ad n σ E1 E2 (e2 E1 E2 P P2) g pi) (mP2 μ Pm P2m R U) g J := by
  intro r u b μ1 hl hm
  rcases hl with ⟨rfl, v, σ1, hp, rfl⟩ | ⟨rfl, he, rfl⟩ | ⟨rfl, he, rfl⟩
  · obtain ⟨p1, p2, rfl, rfl⟩ := hpi v σ1 hp
    rcases hm with ⟨q, -, -⟩ | ⟨q1, q2, -, -⟩ | ⟨q1, q2, rfl, rfl⟩
    · exact absurd (hP.mp p1) q
    · exact absurd ((hP2 p1).mp p2) q2
    · exact ⟨h23 p1 p2, fun _ => by rw [← hret p1 p2]; exact pk_uLs (f := f) (k := (0 : Int32).toNatClampNeg) (x := g v), h0 p1 p2⟩
  · have np : ¬ P := he.elim (fun h => h.2) (fun h => absurd h.1 hE)
    rcases hm with ⟨-, -, rfl⟩ | ⟨q1, -, -, -⟩ | ⟨q1, -, -, -⟩
    · exact ⟨su_same _ _ _ _ _, fun h => absurd h (by decide), h1 1⟩
    · exact absurd (hP.mpr q1) np
    · exact absurd (hP.mpr q1) np
  · have np : P ∧ ¬ P2 := he.elim (fun h => absurd h.1.symm hE) (fun h => h.2)
    rcases hm with ⟨q1, -, -⟩ | ⟨-, -, -, rfl⟩ | ⟨-, q2, -, -⟩
    · exact absurd (hP.mp np.1) q1
    · exact ⟨su_same _ _ _ _ _, fun h => absurd h (by decide), h1 2⟩
    · exact absurd ((hP2 np.1).mpr q2) np.2
theorem simI1 (hP : P ↔ Pm) (hpi : ∀ v σ1, pi v σ1 → P ∧ v = RC ∧ σ1 = UC) (h23 : P → U 23 0 0 = 0) (hret : P → RC = R) (h0 : P → J (lU f ad n UC (g RC)) U) (h1 : ∀ v, J (f, ad, n, σ) (su μ 23 0 0 v)) :
    SimI (lP1 f ad n σ E1 (e1 E1 P) g pi) (mP1 μ Pm R U) g J := by
  intro r u b μ1 hl hm
  rcases hl with ⟨rfl, v, σ1, hp, rfl⟩ | ⟨rfl, he, rfl⟩
  · obtain ⟨p1, rfl, rfl⟩ := hpi v σ1 hp
    rcases hm with ⟨q, -, -⟩ | ⟨q1, rfl, rfl⟩
    · exact absurd (hP.mp p1) q
    · exact ⟨h23 p1, fun _ => by rw [← hret p1]; exact pk_uLs (f := f) (k := (0 : Int32).toNatClampNeg) (x := g v), h0 p1⟩
  · rcases hm with ⟨-, -, rfl⟩ | ⟨q1, -, -⟩
    · exact ⟨su_same _ _ _ _ _, fun h => absurd h (by decide), h1 1⟩
    · exact absurd (hP.mpr q1) he.2
theorem simV2 (hE : E1 ≠ E2) (hP : P ↔ Pm) (hP2 : P → (P2 ↔ P2m)) (hpi : ∀ σ1, pv σ1 → P ∧ P2 ∧ σ1 = UC) (h23 : P → P2 → U 23 0 0 = 0) (h0 : P → P2 → J (f, ad, n, UC) U) (h1 : ∀ v, J (f, ad, n, σ) (su μ 23 0 0 v)) :
    SimV (lV2 f ad n σ E1 E2 (e2 E1 E2 P P2) pv) (mV2 μ Pm P2m U) J := by
  intro r u μ1 hl hm
  rcases hl with ⟨rfl, σ1, hp, rfl⟩ | ⟨rfl, he, rfl⟩ | ⟨rfl, he, rfl⟩
  · obtain ⟨p1, p2, rfl⟩ := hpi σ1 hp
    rcases hm with ⟨q, -⟩ | ⟨q1, q2, -⟩ | ⟨q1, q2, rfl⟩
    · exact absurd (hP.mp p1) q
    · exact absurd ((hP2 p1).mp p2) q2
    · exact ⟨h23 p1 p2, h0 p1 p2⟩
  · have np : ¬ P := he.elim (fun h => h.2) (fun h => absurd h.1 hE)
    rcases hm with ⟨-, rfl⟩ | ⟨q1, -, -⟩ | ⟨q1, -, -⟩
    · exact ⟨su_same _ _ _ _ _, h1 1⟩
    · exact absurd (hP.mpr q1) np
    · exact absurd (hP.mpr q1) np
  · have np : P ∧ ¬ P2 := he.elim (fun h => absurd h.1.symm hE) (fun h => h.2)
    rcases hm with ⟨q1, -⟩ | ⟨-, -, rfl⟩ | ⟨-, q2, -⟩
    · exact absurd (hP.mp np.1) q1
    · exact ⟨su_same _ _ _ _ _, h1 2⟩
    · exact absurd ((hP2 np.1).mpr q2) np.2
end SIM
section SM2
variable {k n d : Nat} {Z : Nat → Nat} {σ μ : S3}
theorem inv_mk {σ' μ' : S3} (hd : d ≤ 1800) (h18 : σ' 18 0 0 = nI d) (hC : Cor k n (fun _ => d / 30) σ' μ') : Inv (k + 1) n σ' μ' := ⟨d, hd, h18, cor_mono hC (by omega)⟩
theorem inv_23 (hI : Inv k n σ μ) (v : Int32) : Inv (k + 1) n σ (su μ 23 0 0 v) := by
  obtain ⟨d, hd, h18, hC⟩ := hI
  exact inv_mk hd h18 (cor_23 hC v)
theorem sim_none (hI : Inv k n σ μ) : Inv (k + 1) n σ μ := by
  obtain ⟨d, hd, h18, hC⟩ := hI
  exact inv_mk hd h18 hC
theorem simJ2 {f : Nat → Int64} {ad : Nat → Nat} {E1 E2 : String} {P P2 Pm P2m : Prop} {g : Int32 → Int64} {pi : Int32 → S3 → Prop} {RC R : Int32} {UC U : S3} (hE : E1 ≠ E2) (hP : P ↔ Pm) (hP2 : P → (P2 ↔ P2m)) (hpi : ∀ v σ1, pi v σ1 → P ∧ P2 ∧ v = RC ∧ σ1 = UC) (h23 : P → P2 → U 23 0 0 = 0) (hret : P → P2 → RC = R) (h0 : P → P2 → Inv k n UC U) (h1 : ∀ v, Inv k n σ (su μ 23 0 0 v)) :
    SimI (lP2 f ad n σ E1 E2 (e2 E1 E2 P P2) g pi) (mP2 μ Pm P2m R U) g (JJ k (ad 0)) := simI2 hE hP hP2 hpi h23 hret (fun p q => ⟨h0 p q, rfl⟩) (fun v => ⟨h1 v, rfl⟩)
theorem simJ1 {f : Nat → Int64} {ad : Nat → Nat} {E1 : String} {P Pm : Prop} {g : Int32 → Int64} {pi : Int32 → S3 → Prop} {RC R : Int32} {UC U : S3} (hP : P ↔ Pm) (hpi : ∀ v σ1, pi v σ1 → P ∧ v = RC ∧ σ1 = UC) (h23 : P → U 23 0 0 = 0) (hret : P → RC = R) (h0 : P → Inv k n UC U) (h1 : ∀ v, Inv k n σ (su μ 23 0 0 v)) :
    SimI (lP1 f ad n σ E1 (e1 E1 P) g pi) (mP1 μ Pm R U) g (JJ k (ad 0)) := simI1 hP hpi h23 hret (fun p => ⟨h0 p, rfl⟩) (fun v => ⟨h1 v, rfl⟩)
theorem simW2 {f : Nat → Int64} {ad : Nat → Nat} {E1 E2 : String} {P P2 Pm P2m : Prop} {pv : S3 → Prop} {UC U : S3} (hE : E1 ≠ E2) (hP : P ↔ Pm) (hP2 : P → (P2 ↔ P2m)) (hpi : ∀ σ1, pv σ1 → P ∧ P2 ∧ σ1 = UC) (h23 : P → P2 → U 23 0 0 = 0) (h0 : P → P2 → Inv k n UC U) (h1 : ∀ v, Inv k n σ (su μ 23 0 0 v)) :
    SimV (lV2 f ad n σ E1 E2 (e2 E1 E2 P P2) pv) (mV2 μ Pm P2m U) (JJ k (ad 0)) := simV2 hE hP hP2 hpi h23 (fun p q => ⟨h0 p q, rfl⟩) (fun v => ⟨h1 v, rfl⟩)
/-! months -/
theorem fo_of {F : Nat} (hF : F ≤ 60) (h : σ 20 0 0 = nI F) : fo σ = F := by
  unfold fo
  rw [h, nI_clamp (by omega)]
theorem end_iff (hC : Cor k n Z σ μ) (hd : d ≤ 1800) (h18 : σ 18 0 0 = nI d) (x : Int32) : endP σ x ↔ ¬ 60 < x ∧ ehP μ x := by
  have hnw : nw μ = d := nw_of hd (by rw [← hC.E.1.1 18 0 0 rfl]; exact h18)
  show (¬ x < 0 ∧ ¬ 60 ≤ x ∧ ¬ σ 18 0 0 / 30 ≤ x) ↔ (¬ 60 < x ∧ ¬ x < 0 ∧ ¬ nI (nw μ) < 30 * (x + 1))
  by_cases h0 : x < 0
  · exact ⟨fun h => absurd h0 h.1, fun h => absurd h0 h.2.1⟩
  · obtain ⟨j, hj, rfl⟩ := nI_of h0
    rw [h18, hnw, show (60 : Int32) = nI 60 from rfl, show (30 : Int32) = nI 30 from rfl, pk_div (by omega) (by decide) (by decide), nI_leI (by decide) hj, nI_leI (by omega) hj, nI_ltI (by decide) hj]
    by_cases h60 : 60 < j
    · exact ⟨fun h => absurd (by omega) h.2.1, fun h => absurd h60 h.1⟩
    · rw [nI_1, pk_mul, nI_ltI (by omega) (by omega)]
      constructor
      · intro h
        exact ⟨h60, h0, by omega⟩
      · intro h
        have := h.2.2
        exact ⟨h0, by omega, by omega⟩
theorem fold_iff (hC : Cor k n Z σ μ) {x : Int32} (h0 : ¬ x < 0) : ¬ x < nI (fo σ) ↔ nI (fo μ) - 1 < x := by
  obtain ⟨F, hF, e⟩ := hC.hfo
  obtain ⟨j, hj, rfl⟩ := nI_of h0
  rw [E18_fo hC.E.1, fo_of hF e, nI_ltI hj (by omega), Int32.lt_iff_toInt_lt, show (1 : Int32) = nI 1 from rfl, pk_sub_toInt (by omega) (by omega), nI_toInt hj]
  omega
/-! the sums of fold -/
def sK (h : Nat → Int32) : Nat → Int32
  | 0 => 0
  | t + 1 => sK h t + h t
theorem aiF_s (σ : S3) (f b : Nat) (a : Int32) : ∀ t, aiF σ f b a t = a + sK (fun j => σ 9 b (f + j)) t
  | 0 => by
    show a = a + 0
    rw [Int32.add_zero]
  | t + 1 => by
    show aiF σ f b a t + σ 9 b (f + t) = a + (sK (fun j => σ 9 b (f + j)) t + σ 9 b (f + t))
    rw [aiF_s σ f b a t, Int32.add_assoc]
theorem aoF_s (σ : S3) (f t : Nat) : aoF σ f t 4 = sK (fun j => σ 9 0 (f + j)) t + sK (fun j => σ 9 1 (f + j)) t + sK (fun j => σ 9 2 (f + j)) t + sK (fun j => σ 9 3 (f + j)) t := by
  show aiF σ f 3 (aiF σ f 2 (aiF σ f 1 (aiF σ f 0 0 t) t) t) t = _
  rw [aiF_s, aiF_s, aiF_s, aiF_s, Int32.zero_add]
theorem add8 (a b c e p q r s : Int32) : a + b + c + e + (p + q + r + s) = a + p + (b + q) + (c + r) + (e + s) := by ac_rfl
theorem flF_s (σ : S3) (f : Nat) : ∀ t, flF σ f t = sK (fun j => σ 9 0 (f + j)) t + sK (fun j => σ 9 1 (f + j)) t + sK (fun j => σ 9 2 (f + j)) t + sK (fun j => σ 9 3 (f + j)) t
  | 0 => by
    show (0 : Int32) = 0 + 0 + 0 + 0
    decide
  | t + 1 => by
    show flF σ f t + slF σ (f + t) 4 = (sK (fun j => σ 9 0 (f + j)) t + σ 9 0 (f + t)) + (sK (fun j => σ 9 1 (f + j)) t + σ 9 1 (f + t)) + (sK (fun j => σ 9 2 (f + j)) t + σ 9 2 (f + t)) + (sK (fun j => σ 9 3 (f + j)) t + σ 9 3 (f + t))
    have e : slF σ (f + t) 4 = σ 9 0 (f + t) + σ 9 1 (f + t) + σ 9 2 (f + t) + σ 9 3 (f + t) := by
      show 0 + σ 9 0 (f + t) + σ 9 1 (f + t) + σ 9 2 (f + t) + σ 9 3 (f + t) = _
      rw [Int32.zero_add]
    rw [flF_s σ f t, e, add8]
theorem fold_eq (hE : E18 σ μ) (f t : Nat) : flF σ f t = aoF μ f t 4 := by
  have e : ∀ b, μ 9 b = σ 9 b := fun b => funext fun m => (hE.1 9 b m rfl).symm
  rw [flF_s, aoF_s, e 0, e 1, e 2, e 3]
/-! ballots -/
theorem ovF_k (τ : S3) (b : Nat) {c : Nat} (h : c ≠ 15) : ∀ j, (ovF τ b j) c = τ c
  | 0 => rfl
  | j + 1 => (su_fn h).trans (ovF_k τ b h j)
theorem ovF_b (τ : S3) (b : Nat) {x : Nat} (h : x ≠ b) : ∀ j, (ovF τ b j) 15 x = τ 15 x
  | 0 => rfl
  | j + 1 => (su_fi h).trans (ovF_b τ b h j)
theorem ovF_0 (τ : S3) (b i : Nat) : ∀ j, i < j → (ovF τ b j) 15 b i = 0
  | 0, h => absurd h (Nat.not_lt_zero i)
  | j + 1, h => by
    show su (ovF τ b j) 15 b j 0 15 b i = 0
    by_cases e : i = j
    · rw [e, su_same]
    · rw [su_m e]
      exact ovF_0 τ b i j (by omega)
/-- a state that differs in its ballots alone -/
theorem cor_vb {σ' μ' : S3} (hC : Cor k n Z σ μ) (hE : Eq9 σ' μ') (hs : ∀ c, crit c = true → c ≠ 11 → c ≠ 12 → σ' c = σ c) (h21 : μ' 21 = μ 21) (hv : ∀ b, VBb σ' μ' b) : Cor k n Z σ' μ' := by
  exact ⟨hE, ⟨hC.n16, (nm_t h21).trans hC.hnm⟩, hC.hfo.t (hs 20 rfl (by decide) (by decide)), hC.z4.t (hs 4 rfl (by decide) (by decide)), hC.z14.t (hs 14 rfl (by decide) (by decide)), hC.du.t (hs 0 rfl (by decide) (by decide)), fun j => (hC.mn j).t (Nat.le_refl k) (by rw [hs 5 rfl (by decide) (by decide)]) (by rw [hs 7 rfl (by decide) (by decide)]), fun j => (hC.heo j).t (by rw [hs 22 rfl (by decide) (by decide)]) (by rw [hs 7 rfl (by decide) (by decide)]), fun j m hm => by rw [hs 7 rfl (by decide) (by decide)]; exact hC.zf j m hm, fun j hj => (hC.fr j hj).t (by rw [hs 3 rfl (by decide) (by decide)]) (by rw [hs 4 rfl (by decide) (by decide)]) (by rw [hs 5 rfl (by decide) (by decide)]) (by rw [hs 6 rfl (by decide) (by decide)]) (by rw [hs 22 rfl (by decide) (by decide)]) (by rw [hs 7 rfl (by decide) (by decide)]) (by rw [hs 8 rfl (by decide) (by decide)]), hv⟩
theorem cor_open (hC : Cor k n Z σ μ) (b : Nat) : Cor k n Z (bgF σ b) (moF μ b) ∧ (moF μ b) 23 0 0 = 0 := by
  have o : ∀ c, c ≠ 15 → (moF μ b) c = (su (su (su (th0 μ) 10 b 0 1) 11 b 0 0) 12 b 0 0) c := fun c h => ovF_k _ b h 16
  have hE1 : E18 (bgF σ b) (su (su (su (th0 μ) 10 b 0 1) 11 b 0 0) 12 b 0 0) := (((((E18_th hC.E.1).su1 10 b 0 1).suL (a := 12) rfl (by decide)).suL (a := 11) rfl (by decide)).suR (a := 11) rfl (by decide)).suR (a := 12) rfl (by decide)
  have hE : E18 (bgF σ b) (moF μ b) := ⟨fun a i m ho => by rw [o a (fun e => by rw [e] at ho; exact absurd ho (by decide))]; exact hE1.1 a i m ho, fun q hq => by rw [o 0 (by decide)]; exact hE1.2 q hq⟩
  refine ⟨cor_vb hC ⟨hE, ?_⟩ (fun c hc h11 h12 => ?_) ?_ (fun q => ?_), ?_⟩
  · rw [o 19 (by decide)]
    unfold bgF
    rw [su_k (by decide), su_k (by decide), su_k (by decide), su_k (by decide), su_k (by decide), su_k (by decide), th0_k (by decide)]
    exact hC.E.2
  · unfold bgF
    rw [su_fn h11, su_fn h12, su_fn (fun e => by rw [e] at hc; exact absurd hc (by decide))]
  · rw [o 21 (by decide), su_fn (by decide), su_fn (by decide), su_fn (by decide), th0_k (by decide)]
  · by_cases hq : q = b
    · subst hq
      refine ⟨0, 0, by decide, by decide, ?_, ?_, fun i hi => ?_, fun i _ h => h, ?_, ?_⟩
      · unfold bgF
        rw [su_k (by decide), su_same]
        rfl
      · unfold bgF
        rw [su_same]
        rfl
      · rw [Nat.zero_testBit]
        refine ⟨fun h => absurd h (by decide), fun h => absurd (ovF_0 _ q i 16 hi) h⟩
      · rw [o 11 (by decide)]
        unfold bgF
        rw [su_same, su_k (by decide), su_same]
        decide +kernel
      · rw [o 11 (by decide), o 12 (by decide)]
        unfold bgF
        rw [su_k (by decide), su_same, su_k (by decide), su_same, su_same]
        decide +kernel
    · refine (hC.vb q).t ?_ ?_ ?_ ?_ ?_
      · unfold bgF
        rw [su_fi hq, su_fn (by decide), su_fn (by decide)]
      · unfold bgF
        rw [su_fn (by decide), su_fi hq, su_fn (by decide)]
      · rw [o 11 (by decide), su_fn (by decide), su_fi hq, su_fn (by decide), th0_k (by decide)]
      · rw [o 12 (by decide), su_fi hq, su_fn (by decide), su_fn (by decide), th0_k (by decide)]
      · show (ovF _ b 16) 15 q = μ 15 q
        rw [ovF_b _ b hq 16, su_fn (by decide), su_fn (by decide), su_fn (by decide), th0_k (by decide)]
  · rw [o 23 (by decide), su_k (by decide), su_k (by decide), su_k (by decide), th0_23]
theorem hv_iff (hC : Cor k n Z σ μ) (b : Nat) {i : Nat} (hi : i < 16) : hvI σ b i = 0 ↔ μ 15 b i = 0 := by
  obtain ⟨X, Y, hX, hY, e12, e11, hb, -, -, -⟩ := hC.vb b
  unfold hvI
  rw [e12]
  have h1 := bit_and hX hi
  have h2 := hb i hi
  cases hx : X.testBit i
  · rw [if_pos (h1.mpr hx)]
    rw [hx] at h2
    exact ⟨fun _ => Decidable.byContradiction (fun q => absurd (h2.mpr q) (by decide)), fun _ => rfl⟩
  · rw [if_neg (fun q => by have := h1.mp q; rw [hx] at this; cases this)]
    exact ⟨fun q => absurd q (by decide), fun q => absurd q (h2.mp hx)⟩
theorem cor_vote (hC : Cor k n Z σ μ) (b : Nat) {i : Nat} (hi : i < 16) (h15 : μ 15 b i = 0) {y : Int32} (hy : y = 0 ∨ y = 1) : Cor k n Z (tvF σ b i y) (mvF (th0 μ) b i y) ∧ (mvF (th0 μ) b i y) 23 0 0 = 0 := by
  have hE1 : E18 σ (mvF (th0 μ) b i y) := (((E18_th hC.E.1).suR (a := 15) rfl (by decide)).suR (a := 11) rfl (by decide)).suR (a := 12) rfl (by decide)
  have hE : E18 (tvF σ b i y) (mvF (th0 μ) b i y) := by
    unfold tvF
    by_cases h : y = 0
    · rw [if_pos h]
      exact hE1.suL rfl (by decide)
    · rw [if_neg h]
      exact (hE1.suL (a := 12) rfl (by decide)).suL (a := 11) rfl (by decide)
  have ts : ∀ c, c ≠ 11 → c ≠ 12 → (tvF σ b i y) c = σ c := fun c h11 h12 => by
    unfold tvF
    by_cases h : y = 0
    · rw [if_pos h, su_fn h12]
    · rw [if_neg h, su_fn h11, su_fn h12]
  have ms : ∀ c, c ≠ 11 → c ≠ 12 → c ≠ 15 → c ≠ 23 → (mvF (th0 μ) b i y) c = μ c := fun c h11 h12 h15 h23 => by
    unfold mvF
    rw [su_fn h12, su_fn h11, su_fn h15, th0_k h23]
  refine ⟨cor_vb hC ⟨hE, by rw [ts 19 (by decide) (by decide), ms 19 (by decide) (by decide) (by decide) (by decide)]; exact hC.E.2⟩ (fun c _ h11 h12 => ts c h11 h12) (ms 21 (by decide) (by decide) (by decide) (by decide)) (fun q => ?_), ?_⟩
  · by_cases hq : q = b
    · subst hq
      obtain ⟨X, Y, hX, hY, e12, e11, hb, hs, f1, f2⟩ := hC.vb q
      have hxi : X.testBit i = false := by
        cases hx : X.testBit i
        · rfl
        · exact absurd h15 ((hb i hi).mp hx)
      have hyi : Y.testBit i = false := by
        cases hx : Y.testBit i
        · rfl
        · have := hs i hi hx
          rw [hxi] at this
          cases this
      have hX2 : X ||| 2 ^ i < 65536 := Nat.or_lt_two_pow (n := 16) hX (Nat.pow_lt_pow_right (by decide) hi)
      have hY2 : Y ||| 2 ^ i < 65536 := Nat.or_lt_two_pow (n := 16) hY (Nat.pow_lt_pow_right (by decide) hi)
      have s12 : (tvF σ q i y) 12 q 0 = nI (X ||| 2 ^ i) := by
        unfold tvF
        by_cases h : y = 0
        · rw [if_pos h, su_same, e12, bit_nI hi, or_nI]
        · rw [if_neg h, su_k (by decide), su_same, e12, bit_nI hi, or_nI]
      have m15 : ∀ j, (mvF (th0 μ) q i y) 15 q j = if j = i then 1 else μ 15 q j := fun j => by
        unfold mvF
        rw [su_k (by decide), su_k (by decide)]
        by_cases h : j = i
        · rw [if_pos h, h, su_same]
        · rw [if_neg h, su_m h, th0_k (by decide)]
      have hb2 : ∀ j, j < 16 → ((X ||| 2 ^ i).testBit j = true ↔ ¬ (mvF (th0 μ) q i y) 15 q j = 0) := fun j hj => by
        rw [m15 j, tb_or]
        by_cases h : j = i
        · rw [if_pos h, decide_eq_true h.symm, Bool.or_true]
          exact ⟨fun _ => by decide, fun _ => rfl⟩
        · rw [if_neg h, decide_eq_false (Ne.symm h), Bool.or_false]
          exact hb j hj
      have g12 : bcF (nI (X ||| 2 ^ i)) = μ 11 q 0 + μ 12 q 0 + 1 := by rw [bc_bit hX hi hxi, ← e12, f2]
      rcases hy with rfl | rfl
      · have s11 : (tvF σ q i 0) 11 q 0 = nI Y := by
          unfold tvF
          rw [if_pos rfl, su_k (by decide), e11]
        have m11 : (mvF (th0 μ) q i 0) 11 q 0 = μ 11 q 0 := by
          unfold mvF
          rw [su_k (by decide), su_same, th0_k (by decide), if_pos rfl, Int32.add_zero]
        have m12 : (mvF (th0 μ) q i 0) 12 q 0 = μ 12 q 0 + 1 := by
          unfold mvF
          rw [su_same, th0_k (by decide), if_pos rfl]
        exact ⟨X ||| 2 ^ i, Y, hX2, hY, s12, s11, hb2, fun j hj h => by rw [tb_or, hs j hj h, Bool.true_or], by rw [s11, m11, ← e11]; exact f1, by rw [s12, m11, m12, g12, Int32.add_assoc]⟩
      · have s11 : (tvF σ q i 1) 11 q 0 = nI (Y ||| 2 ^ i) := by
          unfold tvF
          rw [if_neg (by decide), su_same, e11, bit_nI hi, or_nI]
        have m11 : (mvF (th0 μ) q i 1) 11 q 0 = μ 11 q 0 + 1 := by
          unfold mvF
          rw [su_k (by decide), su_same, th0_k (by decide), if_neg (by decide)]
        have m12 : (mvF (th0 μ) q i 1) 12 q 0 = μ 12 q 0 := by
          unfold mvF
          rw [su_same, th0_k (by decide), if_neg (by decide), Int32.add_zero]
        refine ⟨X ||| 2 ^ i, Y ||| 2 ^ i, hX2, hY2, s12, s11, hb2, fun j hj h => ?_, ?_, ?_⟩
        · rw [tb_or] at h ⊢
          by_cases hj2 : i = j
          · rw [decide_eq_true hj2, Bool.or_true]
          · rw [decide_eq_false hj2, Bool.or_false] at h ⊢
            exact hs j hj h
        · rw [s11, m11, bc_bit hY hi hyi, ← e11, f1]
        · rw [s12, m11, m12, g12]
          ac_rfl
    · refine (hC.vb q).t ?_ ?_ ?_ ?_ ?_
      · unfold tvF
        by_cases h : y = 0
        · rw [if_pos h, su_fn (by decide)]
        · rw [if_neg h, su_fi hq, su_fn (by decide)]
      · unfold tvF
        by_cases h : y = 0
        · rw [if_pos h, su_fi hq]
        · rw [if_neg h, su_fn (by decide), su_fi hq]
      · unfold mvF
        rw [su_fn (by decide), su_fi hq, su_fn (by decide), th0_k (by decide)]
      · unfold mvF
        rw [su_fi hq, su_fn (by decide), su_fn (by decide), th0_k (by decide)]
      · unfold mvF
        rw [su_fn (by decide), su_fn (by decide), su_fi hq, th0_k (by decide)]
  · unfold mvF
    rw [su_k (by decide), su_k (by decide), su_k (by decide), th0_23]
theorem won_eq (hC : Cor k n Z σ μ) {x : Int32} {b : Nat} {τ : S3} (h11 : τ 11 b 0 = μ 11 b 0) (h12 : τ 12 b 0 = μ 12 b 0) (hx : x = cntM τ (nI b) (nm τ)) : wonI σ b x = wnM τ b := by
  obtain ⟨X, Y, -, -, -, -, -, -, f1, f2⟩ := hC.vb b
  unfold wonI wnM
  rw [f1, f2, h11, h12, hx, show ∀ p q : Int32, p + q - p = q from fun p q => by rw [Int32.add_comm, Int32.add_sub_cancel]]
theorem cntF_t {σ' : S3} (n b : Nat) (x : Int32) (h1 : σ' 1 = σ 1) (h3 : σ' 3 = σ 3) (h22 : σ' 22 = σ 22) : ∀ j, cntF σ' n b x j = cntF σ n b x j
  | 0 => rfl
  | j + 1 => by
    have eb : br σ' j = br σ j := by
      unfold br
      rw [h1]
    have es : Stands σ' j x ↔ Stands σ j x := by
      show (σ' 3 j 0 = 0 ∧ _) ↔ _
      rw [h3, eo_t (σ := σ) (σ' := σ') (i := j) (by rw [h22])]
    show (if j < n ∧ br σ' j = b ∧ Stands σ' j x then cntF σ' n b x j + 1 else cntF σ' n b x j) = (if j < n ∧ br σ j = b ∧ Stands σ j x then cntF σ n b x j + 1 else cntF σ n b x j)
    rw [cntF_t n b x h1 h3 h22 j, eb]
    by_cases h : j < n ∧ br σ j = b ∧ Stands σ j x
    · rw [if_pos h, if_pos ⟨h.1, h.2.1, es.mpr h.2.2⟩]
    · rw [if_neg h, if_neg (fun q => h ⟨q.1, q.2.1, es.mp q.2.2⟩)]
theorem co_iff (σ : S3) (b : Nat) : ¬ coI σ b = 0 ↔ ¬ σ 13 b 0 = 0 ∧ σ 14 b 0 = 0 ∧ σ 10 b 0 = 0 := by
  unfold coI
  by_cases h1 : σ 13 b 0 = 0
  · rw [if_pos h1]
    exact ⟨fun h => absurd rfl h, fun h => absurd h1 h.1⟩
  · rw [if_neg h1]
    by_cases h2 : σ 14 b 0 = 0
    · rw [if_neg (fun q => q h2)]
      by_cases h3 : σ 10 b 0 = 0
      · rw [if_neg (fun q => q h3)]
        exact ⟨fun _ => ⟨h1, h2, h3⟩, fun _ => by decide⟩
      · rw [if_pos h3]
        exact ⟨fun h => absurd rfl h, fun h => absurd h.2.2 h3⟩
    · rw [if_pos h2]
      exact ⟨fun h => absurd rfl h, fun h => absurd h.2.1 h2⟩
theorem cor_join (hC : Cor k n Z σ μ) (hn : n < 16) : Cor k (n + 1) Z σ (su μ 21 0 0 (nI (n + 1))) := by
  obtain ⟨h1, h2, h3, h4, h5, h6, h7, h8, h9, h10, h11⟩ := hC
  refine ⟨⟨h1.1.suR rfl (by decide), by rw [su_k (by decide)]; exact h1.2⟩, ⟨by omega, ?_⟩, h3, h4, h5, h6, h7, h8, h9, fun i hi => h10 i (by omega), fun b => (h11 b).t rfl rfl (by rw [su_fn (by decide)]) (by rw [su_fn (by decide)]) (by rw [su_fn (by decide)])⟩
  unfold nm
  rw [su_same, nI_clamp (by omega), Nat.mod_eq_of_lt (by omega)]
end SM2
