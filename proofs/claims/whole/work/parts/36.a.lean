/-! ===== rows of states ===== -/
theorem su_fn {σ : S3} {k i m c : Nat} {v : Int32} (h : c ≠ k) : su σ k i m v c = σ c := by
  funext x y
  exact su_k h
theorem su_fi {σ : S3} {k i m c j : Nat} {v : Int32} (h : j ≠ i) : su σ k i m v c j = σ c j := by
  funext y
  exact su_i h
theorem su_eta (σ : S3) (k i m : Nat) : su σ k i m (σ k i m) = σ := by
  funext a b c
  by_cases h1 : a = k
  · by_cases h2 : b = i
    · by_cases h3 : c = m
      · subst h1
        subst h2
        subst h3
        exact su_same _ _ _ _ _
      · exact su_m h3
    · exact su_i h2
  · exact su_k h1
section E18
variable {σ μ : S3}
theorem E18.su1 (h : E18 σ μ) (a i m : Nat) (v : Int32) : E18 (su σ a i m v) (su μ a i m v) := by
  refine ⟨fun a' i' m' ho => ?_, fun b hb => ?_⟩
  · unfold su
    rw [h.1 a' i' m' ho]
  · unfold su
    rw [h.2 b hb]
theorem E18.suL (h : E18 σ μ) {a i m : Nat} {v : Int32} (h1 : okc a = false) (h0 : 0 ≠ a) : E18 (su σ a i m v) μ := by
  refine ⟨fun a' i' m' ho => ?_, fun b hb => ?_⟩
  · rw [su_k (fun e => by rw [e, h1] at ho; cases ho)]
    exact h.1 a' i' m' ho
  · rw [su_k h0]
    exact h.2 b hb
theorem E18.suR (h : E18 σ μ) {a i m : Nat} {v : Int32} (h1 : okc a = false) (h0 : 0 ≠ a) : E18 σ (su μ a i m v) := by
  refine ⟨fun a' i' m' ho => ?_, fun b hb => ?_⟩
  · rw [su_k (fun e => by rw [e, h1] at ho; cases ho)]
    exact h.1 a' i' m' ho
  · rw [su_k h0]
    exact h.2 b hb
theorem E18_br (h : E18 σ μ) (i : Nat) : br μ i = br σ i := by
  unfold br
  rw [h.1 1 i 0 rfl]
theorem E18_bd (h : E18 σ μ) (i : Nat) : bd μ i = bd σ i := by
  unfold bd
  rw [h.1 2 i 0 rfl]
theorem E18_fo (h : E18 σ μ) : fo μ = fo σ := by
  unfold fo
  rw [h.1 20 0 0 rfl]
end E18
theorem nw_of {μ : S3} {d : Nat} (hd : d ≤ 1800) (h : μ 18 0 0 = nI d) : nw μ = d := by
  unfold nw
  rw [h, nI_clamp (by omega), Nat.mod_eq_of_lt (by omega)]
theorem nm_t {μ μ' : S3} (e : μ' 21 = μ 21) : nm μ' = nm μ := by
  unfold nm
  rw [e]
theorem eo_t {σ σ' : S3} {i : Nat} (e : σ' 22 i 0 = σ 22 i 0) : eo σ' i = eo σ i := by
  unfold eo
  rw [e]
theorem fo_t {σ σ' : S3} (e : σ' 20 = σ 20) : fo σ' = fo σ := by
  unfold fo
  rw [e]
/-! what an invariant needs of the state -/
theorem FOf.t {σ σ' : S3} (h : FOf σ) (e : σ' 20 = σ 20) : FOf σ' := by
  unfold FOf
  rw [e]
  exact h
theorem ZB4.t {σ σ' : S3} (h : ZB4 σ) (e : σ' 4 = σ 4) : ZB4 σ' := by
  unfold ZB4
  rw [e]
  exact h
theorem ZB14.t {σ σ' : S3} (h : ZB14 σ) (e : σ' 14 = σ 14) : ZB14 σ' := by
  unfold ZB14
  rw [e]
  exact h
theorem ZDu.t {σ σ' : S3} (h : ZDu σ) (e : σ' 0 = σ 0) : ZDu σ' := by
  unfold ZDu
  rw [e]
  exact h
theorem MNi.t {σ σ' : S3} {k k' i : Nat} (h : MNi k σ i) (hk : k ≤ k') (e5 : σ' 5 i = σ 5 i) (e7 : σ' 7 i = σ 7 i) : MNi k' σ' i := by
  unfold MNi
  rw [e5, e7]
  obtain ⟨⟨c, h1, h2⟩, h3, h4⟩ := h
  exact ⟨⟨c, by omega, h2⟩, h3, h4⟩
theorem EOi.t {σ σ' : S3} {i : Nat} (h : EOi σ i) (e22 : σ' 22 i = σ 22 i) (e7 : σ' 7 i = σ 7 i) : EOi σ' i := by
  unfold EOi
  rw [eo_t (σ := σ) (σ' := σ') (i := i) (by rw [e22]), e7]
  exact h
theorem frM.t {σ σ' : S3} {i : Nat} (h : frM σ i) (e3 : σ' 3 i = σ 3 i) (e4 : σ' 4 i = σ 4 i) (e5 : σ' 5 i = σ 5 i) (e6 : σ' 6 i = σ 6 i) (e22 : σ' 22 i = σ 22 i) (e7 : σ' 7 i = σ 7 i) (e8 : σ' 8 i = σ 8 i) : frM σ' i := by
  unfold frM
  rw [eo_t (σ := σ) (σ' := σ') (i := i) (by rw [e22]), e3, e4, e5, e6, e7, e8]
  exact h
theorem VBb.t {σ σ' μ μ' : S3} {b : Nat} (h : VBb σ μ b) (e11 : σ' 11 b = σ 11 b) (e12 : σ' 12 b = σ 12 b) (f11 : μ' 11 b = μ 11 b) (f12 : μ' 12 b = μ 12 b) (f15 : μ' 15 b = μ 15 b) : VBb σ' μ' b := by
  unfold VBb
  rw [e11, e12, f11, f12, f15]
  exact h
/-! what is owed -/
theorem sumN_sm (f : Nat → Int32) : ∀ k, sumN f 0 k = smF f k
  | 0 => rfl
  | k + 1 => by
    rw [sumN, smF, sumN_sm f k, Nat.zero_add]
theorem sumN_add (f : Nat → Int32) (a k : Nat) : ∀ j, sumN f a (k + j) = sumN f a k + sumN f (a + k) j
  | 0 => by
    show sumN f a k = sumN f a k + 0
    rw [Int32.add_zero]
  | j + 1 => by
    show sumN f a (k + j) + f (a + (k + j)) = sumN f a k + (sumN f (a + k) j + f (a + k + j))
    rw [sumN_add f a k j, Int32.add_assoc, Nat.add_assoc]
theorem sumN_zero (f : Nat → Int32) (a : Nat) : ∀ k, (∀ j, j < k → f (a + j) = 0) → sumN f a k = 0
  | 0, _ => rfl
  | k + 1, h => by
    show sumN f a k + f (a + k) = 0
    rw [sumN_zero f a k (fun j hj => h j (by omega)), h k (by omega), Int32.add_zero]
theorem owed_eq {σ μ : S3} {i : Nat} (hE : E18 σ μ) (h : EOi σ i) : sOwed σ i = owM μ i := by
  unfold sOwed owM
  have e : μ 7 i = σ 7 i := funext fun m => (hE.1 7 i m rfl).symm
  have hle := eo_le σ i
  have h60 : smF (σ 7 i) 60 = sumN (σ 7 i) 0 (eo σ i + (60 - eo σ i)) := by
    rw [Nat.add_sub_cancel' hle, sumN_sm]
  rw [e, h60, sumN_add, sumN_zero (σ 7 i) 0 (eo σ i) (fun j hj => by rw [Nat.zero_add]; exact h.1 j hj), Int32.zero_add, Nat.zero_add]
/-! standing -/
theorem nI_term (j : Nat) : 30 * (nI j + 1) + 60 = nI (30 * (j + 1) + 60) := by
  rw [nI_1, show (30 : Int32) = nI 30 from rfl, pk_mul, show (60 : Int32) = nI 60 from rfl, nI_add]
theorem stmF_iff (μ : S3) (i : Nat) : ∀ m, ¬ stmF μ i m = 0 ↔ μ 3 i 0 = 0 ∧ ∀ j, j < m → μ 7 i j = 0 ∨ ¬ 30 * (nI j + 1) + 60 ≤ nI (nw μ)
  | 0 => by
    unfold stmF
    by_cases h : μ 3 i 0 = 0
    · rw [if_pos h]
      exact ⟨fun _ => ⟨h, fun j hj => absurd hj (Nat.not_lt_zero j)⟩, fun _ => by decide⟩
    · rw [if_neg h]
      exact ⟨fun q => absurd rfl q, fun q => absurd q.1 h⟩
  | m + 1 => by
    have ih := stmF_iff μ i m
    unfold stmF
    by_cases h : stmF μ i m = 0
    · rw [if_pos h]
      exact ⟨fun q => absurd rfl q, fun q => absurd h (ih.mpr ⟨q.1, fun j hj => q.2 j (by omega)⟩)⟩
    · rw [if_neg h]
      have ih := ih.mp h
      by_cases h7 : μ 7 i m = 0
      · rw [if_pos h7]
        refine ⟨fun _ => ⟨ih.1, fun j hj => ?_⟩, fun _ => by decide⟩
        by_cases e : j = m
        · rw [e]
          exact Or.inl h7
        · exact ih.2 j (by omega)
      · rw [if_neg h7]
        by_cases hl : 30 * (nI m + 1) + 60 ≤ nI (nw μ)
        · rw [if_pos hl]
          refine ⟨fun q => absurd rfl q, fun q => ?_⟩
          rcases q.2 m (by omega) with e | e
          · exact absurd e h7
          · exact absurd hl e
        · rw [if_neg hl]
          refine ⟨fun _ => ⟨ih.1, fun j hj => ?_⟩, fun _ => by decide⟩
          by_cases e : j = m
          · rw [e]
            exact Or.inr hl
          · exact ih.2 j (by omega)
theorem std_eq {σ μ : S3} {i d : Nat} (hE : E18 σ μ) (h : EOi σ i) (hd : d ≤ 1800) (h18 : σ 18 0 0 = nI d) : Stands σ i (nI d) ↔ ¬ stmI μ i = 0 := by
  have hnw : nw μ = d := nw_of hd (by rw [← hE.1 18 0 0 rfl]; exact h18)
  have hle := eo_le σ i
  unfold stmI
  rw [stmF_iff μ i 60, hnw, ← hE.1 3 i 0 rfl]
  refine and_congr Iff.rfl ⟨fun q j hj => ?_, fun q r => ?_⟩
  · rw [← hE.1 7 i j rfl]
    by_cases hz : σ 7 i j = 0
    · exact Or.inl hz
    · refine Or.inr (fun hl => q ⟨?_, ?_⟩)
      · have he : eo σ i ≤ j := Nat.not_lt.mp (fun hlt => hz (h.1 j hlt))
        rw [show (60 : Int32) = nI 60 from rfl, nI_leI (by decide) (by omega)]
        omega
      · have he : eo σ i ≤ j := Nat.not_lt.mp (fun hlt => hz (h.1 j hlt))
        rw [nI_term, nI_leI (by omega) (by omega)] at hl
        rw [nI_term, nI_ltI (by omega) (by omega)]
        omega
  · have he : eo σ i < 60 := by
      have h1 := r.1
      rw [show (60 : Int32) = nI 60 from rfl, nI_leI (by decide) (by omega)] at h1
      omega
    rcases q (eo σ i) he with e | e
    · rw [← hE.1 7 i _ rfl] at e
      exact h.2 he e
    · have h2 := r.2
      rw [nI_term, nI_leI (by omega) (by omega)] at e
      rw [nI_term, nI_ltI (by omega) (by omega)] at h2
      omega
