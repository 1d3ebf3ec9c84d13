/-! ===== the state of the reference, and its store of 18 cells ===== -/
-- components as the class's, but: 11 yes, 12 no, 15 hasVoted of branch b, member i; 18 now; 20 folded + 1; 21 memberMany; 23 thrown
def nw (σ : S3) : Nat := (σ 18 0 0).toNatClampNeg % 1801
def nm (σ : S3) : Nat := (σ 21 0 0).toNatClampNeg % 17
theorem nw_le (σ : S3) : nw σ ≤ 1800 := Nat.le_of_lt_succ (Nat.mod_lt _ (by decide))
theorem nm_le (σ : S3) : nm σ ≤ 16 := Nat.le_of_lt_succ (Nat.mod_lt _ (by decide))
def mObj (ad : Nat → Nat) (σ : S3) : va_E := .inr (4, [.ref (ad 1), .int (σ 17 0 0), .int (nI (nw σ)), .int (σ 19 0 0), .int (nI (fo σ) - 1), .int (nI (nm σ)), .ref (ad 2), .ref (ad 3), .ref (ad 4), .ref (ad 5), .ref (ad 6), .ref (ad 7), .ref (ad 8), .ref (ad 9), .ref (ad 10), .ref (ad 11), .ref (ad 12), .ref (ad 13), .ref (ad 14), .ref (ad 15), .ref (ad 16), .ref (ad 17), .int (σ 23 0 0)])
abbrev f60 (σ : S3) (k : Nat) : Nat → Int32 := fun j => σ k (j / 60) (j % 60)
abbrev f16 (σ : S3) (k : Nat) : Nat → Int32 := fun j => σ k (j / 16) (j % 16)
def mE (cy : Nat → ClassId) (ad : Nat → Nat) (σ : S3) (k : Nat) : va_E := match k with
  | 0 => mObj ad σ
  | 1 => .inl (cy 0, 3, .inl (fun j => σ 0 j 0))
  | 2 => .inl (cy 0, 16, .inl (fun j => nI (br σ j)))
  | 3 => .inl (cy 0, 16, .inl (fun j => nI (bd σ j)))
  | 4 => .inl (cy 1, 16, .inl (fun j => σ 3 j 0))
  | 5 => .inl (cy 1, 16, .inl (fun j => σ 4 j 0))
  | 6 => .inl (cy 0, 16, .inl (fun j => σ 5 j 0))
  | 7 => .inl (cy 0, 16, .inl (fun j => σ 6 j 0))
  | 8 => .inl (cy 0, 960, .inl (f60 σ 7))
  | 9 => .inl (cy 0, 960, .inl (f60 σ 8))
  | 10 => .inl (cy 0, 240, .inl (f60 σ 9))
  | 11 => .inl (cy 1, 4, .inl (fun j => σ 10 j 0))
  | 12 => .inl (cy 0, 4, .inl (fun j => σ 11 j 0))
  | 13 => .inl (cy 0, 4, .inl (fun j => σ 12 j 0))
  | 14 => .inl (cy 1, 4, .inl (fun j => σ 13 j 0))
  | 15 => .inl (cy 1, 4, .inl (fun j => σ 14 j 0))
  | 16 => .inl (cy 1, 64, .inl (f16 σ 15))
  | 17 => .inl (cy 0, 4, .inl (fun j => σ 16 j 0))
  | _ => .inr (0, [])
theorem m_up {cy : Nat → ClassId} {ad : Nat → Nat} {σ τ : S3} {k : Nat} {e : va_E} (h1 : mE cy ad τ k = e) (h2 : ∀ j, j ≠ k → mE cy ad σ j = mE cy ad τ j) : va_up (mE cy ad σ) k e = mE cy ad τ := by
  funext j
  by_cases h : j = k
  · rw [h, va_up_self, h1]
  · rw [va_up_ne _ _ h, h2 j h]
theorem fl60 {i m c : Nat} (σ : S3) (hm : m < 60) : σ c ((60 * i + m) / 60) ((60 * i + m) % 60) = σ c i m := by
  rw [show (60 * i + m) / 60 = i by omega, show (60 * i + m) % 60 = m by omega]
theorem fl16 {i m c : Nat} (σ : S3) (hm : m < 16) : σ c ((16 * i + m) / 16) ((16 * i + m) % 16) = σ c i m := by
  rw [show (16 * i + m) / 16 = i by omega, show (16 * i + m) % 16 = m by omega]
theorem nw_su {σ : S3} {d : Nat} (h : d ≤ 1800) : nw (su σ 18 0 0 (nI d)) = d := by
  unfold nw
  rw [su_same, cl_nI (by omega), Nat.mod_eq_of_lt (by omega)]
theorem nm_su {σ : S3} {d : Nat} (h : d ≤ 16) : nm (su σ 21 0 0 (nI d)) = d := by
  unfold nm
  rw [su_same, cl_nI (by omega), Nat.mod_eq_of_lt (by omega)]
theorem fo_su {σ : S3} {d : Nat} (h : d < 2 ^ 31) : fo (su σ 20 0 0 (nI d)) = d := by
  unfold fo
  rw [su_same, cl_nI h]
theorem br_su {σ : S3} {k i m j : Nat} {v : Int32} (h : 1 ≠ k) : br (su σ k i m v) j = br σ j := by unfold br; rw [su_k h]
theorem bd_su {σ : S3} {k i m j : Nat} {v : Int32} (h : 2 ≠ k) : bd (su σ k i m v) j = bd σ j := by unfold bd; rw [su_k h]
theorem eo_su {σ : S3} {k i m j : Nat} {v : Int32} (h : 22 ≠ k) : eo (su σ k i m v) j = eo σ j := by unfold eo; rw [su_k h]
theorem fo_suk {σ : S3} {k i m : Nat} {v : Int32} (h : 20 ≠ k) : fo (su σ k i m v) = fo σ := by unfold fo; rw [su_k h]
theorem nw_suk {σ : S3} {k i m : Nat} {v : Int32} (h : 18 ≠ k) : nw (su σ k i m v) = nw σ := by unfold nw; rw [su_k h]
theorem nm_suk {σ : S3} {k i m : Nat} {v : Int32} (h : 21 ≠ k) : nm (su σ k i m v) = nm σ := by unfold nm; rw [su_k h]
theorem mE_big (cy : Nat → ClassId) (ad : Nat → Nat) (σ : S3) (q : Nat) : mE cy ad σ (q + 18) = .inr (0, []) := rfl
theorem lt18 {j : Nat} (h : j < 18) : j = 0 ∨ j = 1 ∨ j = 2 ∨ j = 3 ∨ j = 4 ∨ j = 5 ∨ j = 6 ∨ j = 7 ∨ j = 8 ∨ j = 9 ∨ j = 10 ∨ j = 11 ∨ j = 12 ∨ j = 13 ∨ j = 14 ∨ j = 15 ∨ j = 16 ∨ j = 17 := by omega
theorem mE_ext {cy : Nat → ClassId} {ad : Nat → Nat} {σ τ : S3} {j : Nat} (h0 : j = 0 → τ 17 0 0 = σ 17 0 0 ∧ nw τ = nw σ ∧ τ 19 0 0 = σ 19 0 0 ∧ fo τ = fo σ ∧ nm τ = nm σ ∧ τ 23 0 0 = σ 23 0 0) (h1 : j = 1 → ∀ x, τ 0 x 0 = σ 0 x 0) (h2 : j = 2 → ∀ x, br τ x = br σ x) (h3 : j = 3 → ∀ x, bd τ x = bd σ x) (h4 : j = 4 → ∀ x, τ 3 x 0 = σ 3 x 0) (h5 : j = 5 → ∀ x, τ 4 x 0 = σ 4 x 0) (h6 : j = 6 → ∀ x, τ 5 x 0 = σ 5 x 0) (h7 : j = 7 → ∀ x, τ 6 x 0 = σ 6 x 0) (h8 : j = 8 → ∀ x y, τ 7 x y = σ 7 x y) (h9 : j = 9 → ∀ x y, τ 8 x y = σ 8 x y) (h10 : j = 10 → ∀ x y, τ 9 x y = σ 9 x y) (h11 : j = 11 → ∀ x, τ 10 x 0 = σ 10 x 0) (h12 : j = 12 → ∀ x, τ 11 x 0 = σ 11 x 0) (h13 : j = 13 → ∀ x, τ 12 x 0 = σ 12 x 0) (h14 : j = 14 → ∀ x, τ 13 x 0 = σ 13 x 0) (h15 : j = 15 → ∀ x, τ 14 x 0 = σ 14 x 0) (h16 : j = 16 → ∀ x y, τ 15 x y = σ 15 x y) (h17 : j = 17 → ∀ x, τ 16 x 0 = σ 16 x 0) : mE cy ad σ j = mE cy ad τ j := by
  by_cases hj : j < 18
  · have hc := lt18 hj
    rcases hc with h | h | h | h | h | h | h | h | h | h | h | h | h | h | h | h | h | h
    · obtain ⟨e1, e2, e3, e4, e5, e6⟩ := h0 h
      rw [h]
      show mObj ad σ = mObj ad τ
      unfold mObj
      rw [e1, e2, e3, e4, e5, e6]
    · rw [h]
      exact congrArg (fun f : Nat → Int32 => (.inl (cy 0, 3, .inl f) : va_E)) (show (fun j => σ 0 j 0) = (fun j => τ 0 j 0) from funext fun x => (h1 h x).symm)
    · rw [h]
      exact congrArg (fun f : Nat → Int32 => (.inl (cy 0, 16, .inl f) : va_E)) (show (fun j => nI (br σ j)) = (fun j => nI (br τ j)) from funext fun x => by rw [h2 h x])
    · rw [h]
      exact congrArg (fun f : Nat → Int32 => (.inl (cy 0, 16, .inl f) : va_E)) (show (fun j => nI (bd σ j)) = (fun j => nI (bd τ j)) from funext fun x => by rw [h3 h x])
    · rw [h]
      exact congrArg (fun f : Nat → Int32 => (.inl (cy 1, 16, .inl f) : va_E)) (show (fun j => σ 3 j 0) = (fun j => τ 3 j 0) from funext fun x => (h4 h x).symm)
    · rw [h]
      exact congrArg (fun f : Nat → Int32 => (.inl (cy 1, 16, .inl f) : va_E)) (show (fun j => σ 4 j 0) = (fun j => τ 4 j 0) from funext fun x => (h5 h x).symm)
    · rw [h]
      exact congrArg (fun f : Nat → Int32 => (.inl (cy 0, 16, .inl f) : va_E)) (show (fun j => σ 5 j 0) = (fun j => τ 5 j 0) from funext fun x => (h6 h x).symm)
    · rw [h]
      exact congrArg (fun f : Nat → Int32 => (.inl (cy 0, 16, .inl f) : va_E)) (show (fun j => σ 6 j 0) = (fun j => τ 6 j 0) from funext fun x => (h7 h x).symm)
    · rw [h]
      exact congrArg (fun f : Nat → Int32 => (.inl (cy 0, 960, .inl f) : va_E)) (show (f60 σ 7) = (f60 τ 7) from funext fun x => (h8 h _ _).symm)
    · rw [h]
      exact congrArg (fun f : Nat → Int32 => (.inl (cy 0, 960, .inl f) : va_E)) (show (f60 σ 8) = (f60 τ 8) from funext fun x => (h9 h _ _).symm)
    · rw [h]
      exact congrArg (fun f : Nat → Int32 => (.inl (cy 0, 240, .inl f) : va_E)) (show (f60 σ 9) = (f60 τ 9) from funext fun x => (h10 h _ _).symm)
    · rw [h]
      exact congrArg (fun f : Nat → Int32 => (.inl (cy 1, 4, .inl f) : va_E)) (show (fun j => σ 10 j 0) = (fun j => τ 10 j 0) from funext fun x => (h11 h x).symm)
    · rw [h]
      exact congrArg (fun f : Nat → Int32 => (.inl (cy 0, 4, .inl f) : va_E)) (show (fun j => σ 11 j 0) = (fun j => τ 11 j 0) from funext fun x => (h12 h x).symm)
    · rw [h]
      exact congrArg (fun f : Nat → Int32 => (.inl (cy 0, 4, .inl f) : va_E)) (show (fun j => σ 12 j 0) = (fun j => τ 12 j 0) from funext fun x => (h13 h x).symm)
    · rw [h]
      exact congrArg (fun f : Nat → Int32 => (.inl (cy 1, 4, .inl f) : va_E)) (show (fun j => σ 13 j 0) = (fun j => τ 13 j 0) from funext fun x => (h14 h x).symm)
    · rw [h]
      exact congrArg (fun f : Nat → Int32 => (.inl (cy 1, 4, .inl f) : va_E)) (show (fun j => σ 14 j 0) = (fun j => τ 14 j 0) from funext fun x => (h15 h x).symm)
    · rw [h]
      exact congrArg (fun f : Nat → Int32 => (.inl (cy 1, 64, .inl f) : va_E)) (show (f16 σ 15) = (f16 τ 15) from funext fun x => (h16 h _ _).symm)
    · rw [h]
      exact congrArg (fun f : Nat → Int32 => (.inl (cy 0, 4, .inl f) : va_E)) (show (fun j => σ 16 j 0) = (fun j => τ 16 j 0) from funext fun x => (h17 h x).symm)
  · obtain ⟨q, rfl⟩ : ∃ q, j = q + 18 := ⟨j - 18, by omega⟩
    rw [mE_big, mE_big]
section MU
variable (cy : Nat → ClassId) (ad : Nat → Nat) (σ : S3)
theorem mu_pay (v : Int32) : va_up (mE cy ad σ) 0 (.inr (4, [.ref (ad 1), .int v, .int (nI (nw σ)), .int (σ 19 0 0), .int (nI (fo σ) - 1), .int (nI (nm σ)), .ref (ad 2), .ref (ad 3), .ref (ad 4), .ref (ad 5), .ref (ad 6), .ref (ad 7), .ref (ad 8), .ref (ad 9), .ref (ad 10), .ref (ad 11), .ref (ad 12), .ref (ad 13), .ref (ad 14), .ref (ad 15), .ref (ad 16), .ref (ad 17), .int (σ 23 0 0)])) = mE cy ad (su σ 17 0 0 v) := by
  refine m_up ?_ ?_
  · show mObj ad _ = _
    unfold mObj
    rw [su_same, nw_suk (k := 17) (by decide), su_k (a := 19) (k := 17) (by decide), fo_suk (k := 17) (by decide), nm_suk (k := 17) (by decide), su_k (a := 23) (k := 17) (by decide)]
  exact fun j hj => mE_ext (fun h => absurd h hj) (fun _ _ => su_k (by decide)) (fun _ _ => br_su (by decide)) (fun _ _ => bd_su (by decide)) (fun _ _ => su_k (by decide)) (fun _ _ => su_k (by decide)) (fun _ _ => su_k (by decide)) (fun _ _ => su_k (by decide)) (fun _ _ _ => su_k (by decide)) (fun _ _ _ => su_k (by decide)) (fun _ _ _ => su_k (by decide)) (fun _ _ => su_k (by decide)) (fun _ _ => su_k (by decide)) (fun _ _ => su_k (by decide)) (fun _ _ => su_k (by decide)) (fun _ _ => su_k (by decide)) (fun _ _ _ => su_k (by decide)) (fun _ _ => su_k (by decide))
theorem mu_money (v : Int32) : va_up (mE cy ad σ) 0 (.inr (4, [.ref (ad 1), .int (σ 17 0 0), .int (nI (nw σ)), .int v, .int (nI (fo σ) - 1), .int (nI (nm σ)), .ref (ad 2), .ref (ad 3), .ref (ad 4), .ref (ad 5), .ref (ad 6), .ref (ad 7), .ref (ad 8), .ref (ad 9), .ref (ad 10), .ref (ad 11), .ref (ad 12), .ref (ad 13), .ref (ad 14), .ref (ad 15), .ref (ad 16), .ref (ad 17), .int (σ 23 0 0)])) = mE cy ad (su σ 19 0 0 v) := by
  refine m_up ?_ ?_
  · show mObj ad _ = _
    unfold mObj
    rw [su_k (a := 17) (k := 19) (by decide), nw_suk (k := 19) (by decide), su_same, fo_suk (k := 19) (by decide), nm_suk (k := 19) (by decide), su_k (a := 23) (k := 19) (by decide)]
  exact fun j hj => mE_ext (fun h => absurd h hj) (fun _ _ => su_k (by decide)) (fun _ _ => br_su (by decide)) (fun _ _ => bd_su (by decide)) (fun _ _ => su_k (by decide)) (fun _ _ => su_k (by decide)) (fun _ _ => su_k (by decide)) (fun _ _ => su_k (by decide)) (fun _ _ _ => su_k (by decide)) (fun _ _ _ => su_k (by decide)) (fun _ _ _ => su_k (by decide)) (fun _ _ => su_k (by decide)) (fun _ _ => su_k (by decide)) (fun _ _ => su_k (by decide)) (fun _ _ => su_k (by decide)) (fun _ _ => su_k (by decide)) (fun _ _ _ => su_k (by decide)) (fun _ _ => su_k (by decide))
theorem mu_thrown (v : Int32) : va_up (mE cy ad σ) 0 (.inr (4, [.ref (ad 1), .int (σ 17 0 0), .int (nI (nw σ)), .int (σ 19 0 0), .int (nI (fo σ) - 1), .int (nI (nm σ)), .ref (ad 2), .ref (ad 3), .ref (ad 4), .ref (ad 5), .ref (ad 6), .ref (ad 7), .ref (ad 8), .ref (ad 9), .ref (ad 10), .ref (ad 11), .ref (ad 12), .ref (ad 13), .ref (ad 14), .ref (ad 15), .ref (ad 16), .ref (ad 17), .int v])) = mE cy ad (su σ 23 0 0 v) := by
  refine m_up ?_ ?_
  · show mObj ad _ = _
    unfold mObj
    rw [su_k (a := 17) (k := 23) (by decide), nw_suk (k := 23) (by decide), su_k (a := 19) (k := 23) (by decide), fo_suk (k := 23) (by decide), nm_suk (k := 23) (by decide), su_same]
  exact fun j hj => mE_ext (fun h => absurd h hj) (fun _ _ => su_k (by decide)) (fun _ _ => br_su (by decide)) (fun _ _ => bd_su (by decide)) (fun _ _ => su_k (by decide)) (fun _ _ => su_k (by decide)) (fun _ _ => su_k (by decide)) (fun _ _ => su_k (by decide)) (fun _ _ _ => su_k (by decide)) (fun _ _ _ => su_k (by decide)) (fun _ _ _ => su_k (by decide)) (fun _ _ => su_k (by decide)) (fun _ _ => su_k (by decide)) (fun _ _ => su_k (by decide)) (fun _ _ => su_k (by decide)) (fun _ _ => su_k (by decide)) (fun _ _ _ => su_k (by decide)) (fun _ _ => su_k (by decide))
theorem mv_now (v : Int32) (d : Nat) (h : nw (su σ 18 0 0 v) = d) : va_up (mE cy ad σ) 0 (.inr (4, [.ref (ad 1), .int (σ 17 0 0), .int (nI d), .int (σ 19 0 0), .int (nI (fo σ) - 1), .int (nI (nm σ)), .ref (ad 2), .ref (ad 3), .ref (ad 4), .ref (ad 5), .ref (ad 6), .ref (ad 7), .ref (ad 8), .ref (ad 9), .ref (ad 10), .ref (ad 11), .ref (ad 12), .ref (ad 13), .ref (ad 14), .ref (ad 15), .ref (ad 16), .ref (ad 17), .int (σ 23 0 0)])) = mE cy ad (su σ 18 0 0 v) := by
  subst h
  refine m_up ?_ ?_
  · show mObj ad _ = _
    unfold mObj
    rw [su_k (a := 17) (k := 18) (by decide), su_k (a := 19) (k := 18) (by decide), fo_suk (k := 18) (by decide), nm_suk (k := 18) (by decide), su_k (a := 23) (k := 18) (by decide)]
  exact fun j hj => mE_ext (fun h => absurd h hj) (fun _ _ => su_k (by decide)) (fun _ _ => br_su (by decide)) (fun _ _ => bd_su (by decide)) (fun _ _ => su_k (by decide)) (fun _ _ => su_k (by decide)) (fun _ _ => su_k (by decide)) (fun _ _ => su_k (by decide)) (fun _ _ _ => su_k (by decide)) (fun _ _ _ => su_k (by decide)) (fun _ _ _ => su_k (by decide)) (fun _ _ => su_k (by decide)) (fun _ _ => su_k (by decide)) (fun _ _ => su_k (by decide)) (fun _ _ => su_k (by decide)) (fun _ _ => su_k (by decide)) (fun _ _ _ => su_k (by decide)) (fun _ _ => su_k (by decide))
theorem mu_now {d : Nat} (h : d ≤ 1800) : va_up (mE cy ad σ) 0 (.inr (4, [.ref (ad 1), .int (σ 17 0 0), .int (nI d), .int (σ 19 0 0), .int (nI (fo σ) - 1), .int (nI (nm σ)), .ref (ad 2), .ref (ad 3), .ref (ad 4), .ref (ad 5), .ref (ad 6), .ref (ad 7), .ref (ad 8), .ref (ad 9), .ref (ad 10), .ref (ad 11), .ref (ad 12), .ref (ad 13), .ref (ad 14), .ref (ad 15), .ref (ad 16), .ref (ad 17), .int (σ 23 0 0)])) = mE cy ad (su σ 18 0 0 (nI d)) := mv_now cy ad σ (nI d) d (nw_su h)
theorem mv_many (v : Int32) (d : Nat) (h : nm (su σ 21 0 0 v) = d) : va_up (mE cy ad σ) 0 (.inr (4, [.ref (ad 1), .int (σ 17 0 0), .int (nI (nw σ)), .int (σ 19 0 0), .int (nI (fo σ) - 1), .int (nI d), .ref (ad 2), .ref (ad 3), .ref (ad 4), .ref (ad 5), .ref (ad 6), .ref (ad 7), .ref (ad 8), .ref (ad 9), .ref (ad 10), .ref (ad 11), .ref (ad 12), .ref (ad 13), .ref (ad 14), .ref (ad 15), .ref (ad 16), .ref (ad 17), .int (σ 23 0 0)])) = mE cy ad (su σ 21 0 0 v) := by
  subst h
  refine m_up ?_ ?_
  · show mObj ad _ = _
    unfold mObj
    rw [su_k (a := 17) (k := 21) (by decide), nw_suk (k := 21) (by decide), su_k (a := 19) (k := 21) (by decide), fo_suk (k := 21) (by decide), su_k (a := 23) (k := 21) (by decide)]
  exact fun j hj => mE_ext (fun h => absurd h hj) (fun _ _ => su_k (by decide)) (fun _ _ => br_su (by decide)) (fun _ _ => bd_su (by decide)) (fun _ _ => su_k (by decide)) (fun _ _ => su_k (by decide)) (fun _ _ => su_k (by decide)) (fun _ _ => su_k (by decide)) (fun _ _ _ => su_k (by decide)) (fun _ _ _ => su_k (by decide)) (fun _ _ _ => su_k (by decide)) (fun _ _ => su_k (by decide)) (fun _ _ => su_k (by decide)) (fun _ _ => su_k (by decide)) (fun _ _ => su_k (by decide)) (fun _ _ => su_k (by decide)) (fun _ _ _ => su_k (by decide)) (fun _ _ => su_k (by decide))
theorem mu_many {d : Nat} (h : d ≤ 16) : va_up (mE cy ad σ) 0 (.inr (4, [.ref (ad 1), .int (σ 17 0 0), .int (nI (nw σ)), .int (σ 19 0 0), .int (nI (fo σ) - 1), .int (nI d), .ref (ad 2), .ref (ad 3), .ref (ad 4), .ref (ad 5), .ref (ad 6), .ref (ad 7), .ref (ad 8), .ref (ad 9), .ref (ad 10), .ref (ad 11), .ref (ad 12), .ref (ad 13), .ref (ad 14), .ref (ad 15), .ref (ad 16), .ref (ad 17), .int (σ 23 0 0)])) = mE cy ad (su σ 21 0 0 (nI d)) := mv_many cy ad σ (nI d) d (nm_su h)
theorem mv_folded (v : Int32) (d : Nat) (h : fo (su σ 20 0 0 v) = d) : va_up (mE cy ad σ) 0 (.inr (4, [.ref (ad 1), .int (σ 17 0 0), .int (nI (nw σ)), .int (σ 19 0 0), .int (nI d - 1), .int (nI (nm σ)), .ref (ad 2), .ref (ad 3), .ref (ad 4), .ref (ad 5), .ref (ad 6), .ref (ad 7), .ref (ad 8), .ref (ad 9), .ref (ad 10), .ref (ad 11), .ref (ad 12), .ref (ad 13), .ref (ad 14), .ref (ad 15), .ref (ad 16), .ref (ad 17), .int (σ 23 0 0)])) = mE cy ad (su σ 20 0 0 v) := by
  subst h
  refine m_up ?_ ?_
  · show mObj ad _ = _
    unfold mObj
    rw [su_k (a := 17) (k := 20) (by decide), nw_suk (k := 20) (by decide), su_k (a := 19) (k := 20) (by decide), nm_suk (k := 20) (by decide), su_k (a := 23) (k := 20) (by decide)]
  exact fun j hj => mE_ext (fun h => absurd h hj) (fun _ _ => su_k (by decide)) (fun _ _ => br_su (by decide)) (fun _ _ => bd_su (by decide)) (fun _ _ => su_k (by decide)) (fun _ _ => su_k (by decide)) (fun _ _ => su_k (by decide)) (fun _ _ => su_k (by decide)) (fun _ _ _ => su_k (by decide)) (fun _ _ _ => su_k (by decide)) (fun _ _ _ => su_k (by decide)) (fun _ _ => su_k (by decide)) (fun _ _ => su_k (by decide)) (fun _ _ => su_k (by decide)) (fun _ _ => su_k (by decide)) (fun _ _ => su_k (by decide)) (fun _ _ _ => su_k (by decide)) (fun _ _ => su_k (by decide))
theorem mu_folded {d : Nat} (h : d < 2 ^ 31) : va_up (mE cy ad σ) 0 (.inr (4, [.ref (ad 1), .int (σ 17 0 0), .int (nI (nw σ)), .int (σ 19 0 0), .int (nI d - 1), .int (nI (nm σ)), .ref (ad 2), .ref (ad 3), .ref (ad 4), .ref (ad 5), .ref (ad 6), .ref (ad 7), .ref (ad 8), .ref (ad 9), .ref (ad 10), .ref (ad 11), .ref (ad 12), .ref (ad 13), .ref (ad 14), .ref (ad 15), .ref (ad 16), .ref (ad 17), .int (σ 23 0 0)])) = mE cy ad (su σ 20 0 0 (nI d)) := mv_folded cy ad σ (nI d) d (fo_su h)
theorem mu_dues (i : Nat) (v : Int32) : va_up (mE cy ad σ) 1 (.inl (cy 0, 3, .inl (upd (fun j => σ 0 j 0) i v))) = mE cy ad (su σ 0 i 0 v) := by
  refine m_up ?_ ?_
  · refine congrArg (fun f : Nat → Int32 => (.inl (cy 0, 3, .inl f) : va_E)) (funext fun y => ?_)
    simp [su, upd]
  exact fun j hj => mE_ext (fun _ => ⟨su_k (by decide), nw_suk (by decide), su_k (by decide), fo_suk (by decide), nm_suk (by decide), su_k (by decide)⟩) (fun h => absurd h hj) (fun _ _ => br_su (by decide)) (fun _ _ => bd_su (by decide)) (fun _ _ => su_k (by decide)) (fun _ _ => su_k (by decide)) (fun _ _ => su_k (by decide)) (fun _ _ => su_k (by decide)) (fun _ _ _ => su_k (by decide)) (fun _ _ _ => su_k (by decide)) (fun _ _ _ => su_k (by decide)) (fun _ _ => su_k (by decide)) (fun _ _ => su_k (by decide)) (fun _ _ => su_k (by decide)) (fun _ _ => su_k (by decide)) (fun _ _ => su_k (by decide)) (fun _ _ _ => su_k (by decide)) (fun _ _ => su_k (by decide))
theorem mu_left (i : Nat) (v : Int32) : va_up (mE cy ad σ) 4 (.inl (cy 1, 16, .inl (upd (fun j => σ 3 j 0) i v))) = mE cy ad (su σ 3 i 0 v) := by
  refine m_up ?_ ?_
  · refine congrArg (fun f : Nat → Int32 => (.inl (cy 1, 16, .inl f) : va_E)) (funext fun y => ?_)
    simp [su, upd]
  exact fun j hj => mE_ext (fun _ => ⟨su_k (by decide), nw_suk (by decide), su_k (by decide), fo_suk (by decide), nm_suk (by decide), su_k (by decide)⟩) (fun _ _ => su_k (by decide)) (fun _ _ => br_su (by decide)) (fun _ _ => bd_su (by decide)) (fun h => absurd h hj) (fun _ _ => su_k (by decide)) (fun _ _ => su_k (by decide)) (fun _ _ => su_k (by decide)) (fun _ _ _ => su_k (by decide)) (fun _ _ _ => su_k (by decide)) (fun _ _ _ => su_k (by decide)) (fun _ _ => su_k (by decide)) (fun _ _ => su_k (by decide)) (fun _ _ => su_k (by decide)) (fun _ _ => su_k (by decide)) (fun _ _ => su_k (by decide)) (fun _ _ _ => su_k (by decide)) (fun _ _ => su_k (by decide))
theorem mu_away (i : Nat) (v : Int32) : va_up (mE cy ad σ) 5 (.inl (cy 1, 16, .inl (upd (fun j => σ 4 j 0) i v))) = mE cy ad (su σ 4 i 0 v) := by
  refine m_up ?_ ?_
  · refine congrArg (fun f : Nat → Int32 => (.inl (cy 1, 16, .inl f) : va_E)) (funext fun y => ?_)
    simp [su, upd]
  exact fun j hj => mE_ext (fun _ => ⟨su_k (by decide), nw_suk (by decide), su_k (by decide), fo_suk (by decide), nm_suk (by decide), su_k (by decide)⟩) (fun _ _ => su_k (by decide)) (fun _ _ => br_su (by decide)) (fun _ _ => bd_su (by decide)) (fun _ _ => su_k (by decide)) (fun h => absurd h hj) (fun _ _ => su_k (by decide)) (fun _ _ => su_k (by decide)) (fun _ _ _ => su_k (by decide)) (fun _ _ _ => su_k (by decide)) (fun _ _ _ => su_k (by decide)) (fun _ _ => su_k (by decide)) (fun _ _ => su_k (by decide)) (fun _ _ => su_k (by decide)) (fun _ _ => su_k (by decide)) (fun _ _ => su_k (by decide)) (fun _ _ _ => su_k (by decide)) (fun _ _ => su_k (by decide))
theorem mu_credits (i : Nat) (v : Int32) : va_up (mE cy ad σ) 6 (.inl (cy 0, 16, .inl (upd (fun j => σ 5 j 0) i v))) = mE cy ad (su σ 5 i 0 v) := by
  refine m_up ?_ ?_
  · refine congrArg (fun f : Nat → Int32 => (.inl (cy 0, 16, .inl f) : va_E)) (funext fun y => ?_)
    simp [su, upd]
  exact fun j hj => mE_ext (fun _ => ⟨su_k (by decide), nw_suk (by decide), su_k (by decide), fo_suk (by decide), nm_suk (by decide), su_k (by decide)⟩) (fun _ _ => su_k (by decide)) (fun _ _ => br_su (by decide)) (fun _ _ => bd_su (by decide)) (fun _ _ => su_k (by decide)) (fun _ _ => su_k (by decide)) (fun h => absurd h hj) (fun _ _ => su_k (by decide)) (fun _ _ _ => su_k (by decide)) (fun _ _ _ => su_k (by decide)) (fun _ _ _ => su_k (by decide)) (fun _ _ => su_k (by decide)) (fun _ _ => su_k (by decide)) (fun _ _ => su_k (by decide)) (fun _ _ => su_k (by decide)) (fun _ _ => su_k (by decide)) (fun _ _ _ => su_k (by decide)) (fun _ _ => su_k (by decide))
theorem mu_spays (i : Nat) (v : Int32) : va_up (mE cy ad σ) 7 (.inl (cy 0, 16, .inl (upd (fun j => σ 6 j 0) i v))) = mE cy ad (su σ 6 i 0 v) := by
  refine m_up ?_ ?_
  · refine congrArg (fun f : Nat → Int32 => (.inl (cy 0, 16, .inl f) : va_E)) (funext fun y => ?_)
    simp [su, upd]
  exact fun j hj => mE_ext (fun _ => ⟨su_k (by decide), nw_suk (by decide), su_k (by decide), fo_suk (by decide), nm_suk (by decide), su_k (by decide)⟩) (fun _ _ => su_k (by decide)) (fun _ _ => br_su (by decide)) (fun _ _ => bd_su (by decide)) (fun _ _ => su_k (by decide)) (fun _ _ => su_k (by decide)) (fun _ _ => su_k (by decide)) (fun h => absurd h hj) (fun _ _ _ => su_k (by decide)) (fun _ _ _ => su_k (by decide)) (fun _ _ _ => su_k (by decide)) (fun _ _ => su_k (by decide)) (fun _ _ => su_k (by decide)) (fun _ _ => su_k (by decide)) (fun _ _ => su_k (by decide)) (fun _ _ => su_k (by decide)) (fun _ _ _ => su_k (by decide)) (fun _ _ => su_k (by decide))
theorem mu_ballot (i : Nat) (v : Int32) : va_up (mE cy ad σ) 11 (.inl (cy 1, 4, .inl (upd (fun j => σ 10 j 0) i v))) = mE cy ad (su σ 10 i 0 v) := by
  refine m_up ?_ ?_
  · refine congrArg (fun f : Nat → Int32 => (.inl (cy 1, 4, .inl f) : va_E)) (funext fun y => ?_)
    simp [su, upd]
  exact fun j hj => mE_ext (fun _ => ⟨su_k (by decide), nw_suk (by decide), su_k (by decide), fo_suk (by decide), nm_suk (by decide), su_k (by decide)⟩) (fun _ _ => su_k (by decide)) (fun _ _ => br_su (by decide)) (fun _ _ => bd_su (by decide)) (fun _ _ => su_k (by decide)) (fun _ _ => su_k (by decide)) (fun _ _ => su_k (by decide)) (fun _ _ => su_k (by decide)) (fun _ _ _ => su_k (by decide)) (fun _ _ _ => su_k (by decide)) (fun _ _ _ => su_k (by decide)) (fun h => absurd h hj) (fun _ _ => su_k (by decide)) (fun _ _ => su_k (by decide)) (fun _ _ => su_k (by decide)) (fun _ _ => su_k (by decide)) (fun _ _ _ => su_k (by decide)) (fun _ _ => su_k (by decide))
theorem mu_yes (i : Nat) (v : Int32) : va_up (mE cy ad σ) 12 (.inl (cy 0, 4, .inl (upd (fun j => σ 11 j 0) i v))) = mE cy ad (su σ 11 i 0 v) := by
  refine m_up ?_ ?_
  · refine congrArg (fun f : Nat → Int32 => (.inl (cy 0, 4, .inl f) : va_E)) (funext fun y => ?_)
    simp [su, upd]
  exact fun j hj => mE_ext (fun _ => ⟨su_k (by decide), nw_suk (by decide), su_k (by decide), fo_suk (by decide), nm_suk (by decide), su_k (by decide)⟩) (fun _ _ => su_k (by decide)) (fun _ _ => br_su (by decide)) (fun _ _ => bd_su (by decide)) (fun _ _ => su_k (by decide)) (fun _ _ => su_k (by decide)) (fun _ _ => su_k (by decide)) (fun _ _ => su_k (by decide)) (fun _ _ _ => su_k (by decide)) (fun _ _ _ => su_k (by decide)) (fun _ _ _ => su_k (by decide)) (fun _ _ => su_k (by decide)) (fun h => absurd h hj) (fun _ _ => su_k (by decide)) (fun _ _ => su_k (by decide)) (fun _ _ => su_k (by decide)) (fun _ _ _ => su_k (by decide)) (fun _ _ => su_k (by decide))
theorem mu_no (i : Nat) (v : Int32) : va_up (mE cy ad σ) 13 (.inl (cy 0, 4, .inl (upd (fun j => σ 12 j 0) i v))) = mE cy ad (su σ 12 i 0 v) := by
  refine m_up ?_ ?_
  · refine congrArg (fun f : Nat → Int32 => (.inl (cy 0, 4, .inl f) : va_E)) (funext fun y => ?_)
    simp [su, upd]
  exact fun j hj => mE_ext (fun _ => ⟨su_k (by decide), nw_suk (by decide), su_k (by decide), fo_suk (by decide), nm_suk (by decide), su_k (by decide)⟩) (fun _ _ => su_k (by decide)) (fun _ _ => br_su (by decide)) (fun _ _ => bd_su (by decide)) (fun _ _ => su_k (by decide)) (fun _ _ => su_k (by decide)) (fun _ _ => su_k (by decide)) (fun _ _ => su_k (by decide)) (fun _ _ _ => su_k (by decide)) (fun _ _ _ => su_k (by decide)) (fun _ _ _ => su_k (by decide)) (fun _ _ => su_k (by decide)) (fun _ _ => su_k (by decide)) (fun h => absurd h hj) (fun _ _ => su_k (by decide)) (fun _ _ => su_k (by decide)) (fun _ _ _ => su_k (by decide)) (fun _ _ => su_k (by decide))
theorem mu_can (i : Nat) (v : Int32) : va_up (mE cy ad σ) 14 (.inl (cy 1, 4, .inl (upd (fun j => σ 13 j 0) i v))) = mE cy ad (su σ 13 i 0 v) := by
  refine m_up ?_ ?_
  · refine congrArg (fun f : Nat → Int32 => (.inl (cy 1, 4, .inl f) : va_E)) (funext fun y => ?_)
    simp [su, upd]
  exact fun j hj => mE_ext (fun _ => ⟨su_k (by decide), nw_suk (by decide), su_k (by decide), fo_suk (by decide), nm_suk (by decide), su_k (by decide)⟩) (fun _ _ => su_k (by decide)) (fun _ _ => br_su (by decide)) (fun _ _ => bd_su (by decide)) (fun _ _ => su_k (by decide)) (fun _ _ => su_k (by decide)) (fun _ _ => su_k (by decide)) (fun _ _ => su_k (by decide)) (fun _ _ _ => su_k (by decide)) (fun _ _ _ => su_k (by decide)) (fun _ _ _ => su_k (by decide)) (fun _ _ => su_k (by decide)) (fun _ _ => su_k (by decide)) (fun _ _ => su_k (by decide)) (fun h => absurd h hj) (fun _ _ => su_k (by decide)) (fun _ _ _ => su_k (by decide)) (fun _ _ => su_k (by decide))
theorem mu_striking (i : Nat) (v : Int32) : va_up (mE cy ad σ) 15 (.inl (cy 1, 4, .inl (upd (fun j => σ 14 j 0) i v))) = mE cy ad (su σ 14 i 0 v) := by
  refine m_up ?_ ?_
  · refine congrArg (fun f : Nat → Int32 => (.inl (cy 1, 4, .inl f) : va_E)) (funext fun y => ?_)
    simp [su, upd]
  exact fun j hj => mE_ext (fun _ => ⟨su_k (by decide), nw_suk (by decide), su_k (by decide), fo_suk (by decide), nm_suk (by decide), su_k (by decide)⟩) (fun _ _ => su_k (by decide)) (fun _ _ => br_su (by decide)) (fun _ _ => bd_su (by decide)) (fun _ _ => su_k (by decide)) (fun _ _ => su_k (by decide)) (fun _ _ => su_k (by decide)) (fun _ _ => su_k (by decide)) (fun _ _ _ => su_k (by decide)) (fun _ _ _ => su_k (by decide)) (fun _ _ _ => su_k (by decide)) (fun _ _ => su_k (by decide)) (fun _ _ => su_k (by decide)) (fun _ _ => su_k (by decide)) (fun _ _ => su_k (by decide)) (fun h => absurd h hj) (fun _ _ _ => su_k (by decide)) (fun _ _ => su_k (by decide))
theorem mu_deleg (i : Nat) (v : Int32) : va_up (mE cy ad σ) 17 (.inl (cy 0, 4, .inl (upd (fun j => σ 16 j 0) i v))) = mE cy ad (su σ 16 i 0 v) := by
  refine m_up ?_ ?_
  · refine congrArg (fun f : Nat → Int32 => (.inl (cy 0, 4, .inl f) : va_E)) (funext fun y => ?_)
    simp [su, upd]
  exact fun j hj => mE_ext (fun _ => ⟨su_k (by decide), nw_suk (by decide), su_k (by decide), fo_suk (by decide), nm_suk (by decide), su_k (by decide)⟩) (fun _ _ => su_k (by decide)) (fun _ _ => br_su (by decide)) (fun _ _ => bd_su (by decide)) (fun _ _ => su_k (by decide)) (fun _ _ => su_k (by decide)) (fun _ _ => su_k (by decide)) (fun _ _ => su_k (by decide)) (fun _ _ _ => su_k (by decide)) (fun _ _ _ => su_k (by decide)) (fun _ _ _ => su_k (by decide)) (fun _ _ => su_k (by decide)) (fun _ _ => su_k (by decide)) (fun _ _ => su_k (by decide)) (fun _ _ => su_k (by decide)) (fun _ _ => su_k (by decide)) (fun _ _ _ => su_k (by decide)) (fun h => absurd h hj)
theorem mu_debts (i : Nat) {m : Nat} (hm : m < 60) (v : Int32) : va_up (mE cy ad σ) 8 (.inl (cy 0, 960, .inl (upd (f60 σ 7) (60 * i + m) v))) = mE cy ad (su σ 7 i m v) := by
  refine m_up ?_ ?_
  · refine congrArg (fun f : Nat → Int32 => (.inl (cy 0, 960, .inl f) : va_E)) (funext fun y => ?_)
    by_cases h : y = 60 * i + m
    · subst h
      simp only [f60, upd, if_true, fl60 _ hm, su_same]
    · simp only [f60, upd, if_neg h]
      by_cases h1 : y / 60 = i
      · exact su_m (by omega)
      · exact su_i h1
  exact fun j hj => mE_ext (fun _ => ⟨su_k (by decide), nw_suk (by decide), su_k (by decide), fo_suk (by decide), nm_suk (by decide), su_k (by decide)⟩) (fun _ _ => su_k (by decide)) (fun _ _ => br_su (by decide)) (fun _ _ => bd_su (by decide)) (fun _ _ => su_k (by decide)) (fun _ _ => su_k (by decide)) (fun _ _ => su_k (by decide)) (fun _ _ => su_k (by decide)) (fun h => absurd h hj) (fun _ _ _ => su_k (by decide)) (fun _ _ _ => su_k (by decide)) (fun _ _ => su_k (by decide)) (fun _ _ => su_k (by decide)) (fun _ _ => su_k (by decide)) (fun _ _ => su_k (by decide)) (fun _ _ => su_k (by decide)) (fun _ _ _ => su_k (by decide)) (fun _ _ => su_k (by decide))
theorem mu_laidBy (i : Nat) {m : Nat} (hm : m < 60) (v : Int32) : va_up (mE cy ad σ) 9 (.inl (cy 0, 960, .inl (upd (f60 σ 8) (60 * i + m) v))) = mE cy ad (su σ 8 i m v) := by
  refine m_up ?_ ?_
  · refine congrArg (fun f : Nat → Int32 => (.inl (cy 0, 960, .inl f) : va_E)) (funext fun y => ?_)
    by_cases h : y = 60 * i + m
    · subst h
      simp only [f60, upd, if_true, fl60 _ hm, su_same]
    · simp only [f60, upd, if_neg h]
      by_cases h1 : y / 60 = i
      · exact su_m (by omega)
      · exact su_i h1
  exact fun j hj => mE_ext (fun _ => ⟨su_k (by decide), nw_suk (by decide), su_k (by decide), fo_suk (by decide), nm_suk (by decide), su_k (by decide)⟩) (fun _ _ => su_k (by decide)) (fun _ _ => br_su (by decide)) (fun _ _ => bd_su (by decide)) (fun _ _ => su_k (by decide)) (fun _ _ => su_k (by decide)) (fun _ _ => su_k (by decide)) (fun _ _ => su_k (by decide)) (fun _ _ _ => su_k (by decide)) (fun h => absurd h hj) (fun _ _ _ => su_k (by decide)) (fun _ _ => su_k (by decide)) (fun _ _ => su_k (by decide)) (fun _ _ => su_k (by decide)) (fun _ _ => su_k (by decide)) (fun _ _ => su_k (by decide)) (fun _ _ _ => su_k (by decide)) (fun _ _ => su_k (by decide))
theorem mu_laidOf (i : Nat) {m : Nat} (hm : m < 60) (v : Int32) : va_up (mE cy ad σ) 10 (.inl (cy 0, 240, .inl (upd (f60 σ 9) (60 * i + m) v))) = mE cy ad (su σ 9 i m v) := by
  refine m_up ?_ ?_
  · refine congrArg (fun f : Nat → Int32 => (.inl (cy 0, 240, .inl f) : va_E)) (funext fun y => ?_)
    by_cases h : y = 60 * i + m
    · subst h
      simp only [f60, upd, if_true, fl60 _ hm, su_same]
    · simp only [f60, upd, if_neg h]
      by_cases h1 : y / 60 = i
      · exact su_m (by omega)
      · exact su_i h1
  exact fun j hj => mE_ext (fun _ => ⟨su_k (by decide), nw_suk (by decide), su_k (by decide), fo_suk (by decide), nm_suk (by decide), su_k (by decide)⟩) (fun _ _ => su_k (by decide)) (fun _ _ => br_su (by decide)) (fun _ _ => bd_su (by decide)) (fun _ _ => su_k (by decide)) (fun _ _ => su_k (by decide)) (fun _ _ => su_k (by decide)) (fun _ _ => su_k (by decide)) (fun _ _ _ => su_k (by decide)) (fun _ _ _ => su_k (by decide)) (fun h => absurd h hj) (fun _ _ => su_k (by decide)) (fun _ _ => su_k (by decide)) (fun _ _ => su_k (by decide)) (fun _ _ => su_k (by decide)) (fun _ _ => su_k (by decide)) (fun _ _ _ => su_k (by decide)) (fun _ _ => su_k (by decide))
theorem mu_voted (i : Nat) {m : Nat} (hm : m < 16) (v : Int32) : va_up (mE cy ad σ) 16 (.inl (cy 1, 64, .inl (upd (f16 σ 15) (16 * i + m) v))) = mE cy ad (su σ 15 i m v) := by
  refine m_up ?_ ?_
  · refine congrArg (fun f : Nat → Int32 => (.inl (cy 1, 64, .inl f) : va_E)) (funext fun y => ?_)
    by_cases h : y = 16 * i + m
    · subst h
      simp only [f16, upd, if_true, fl16 _ hm, su_same]
    · simp only [f16, upd, if_neg h]
      by_cases h1 : y / 16 = i
      · exact su_m (by omega)
      · exact su_i h1
  exact fun j hj => mE_ext (fun _ => ⟨su_k (by decide), nw_suk (by decide), su_k (by decide), fo_suk (by decide), nm_suk (by decide), su_k (by decide)⟩) (fun _ _ => su_k (by decide)) (fun _ _ => br_su (by decide)) (fun _ _ => bd_su (by decide)) (fun _ _ => su_k (by decide)) (fun _ _ => su_k (by decide)) (fun _ _ => su_k (by decide)) (fun _ _ => su_k (by decide)) (fun _ _ _ => su_k (by decide)) (fun _ _ _ => su_k (by decide)) (fun _ _ _ => su_k (by decide)) (fun _ _ => su_k (by decide)) (fun _ _ => su_k (by decide)) (fun _ _ => su_k (by decide)) (fun _ _ => su_k (by decide)) (fun _ _ => su_k (by decide)) (fun h => absurd h hj) (fun _ _ => su_k (by decide))
theorem mv_mbr (i : Nat) (v : Int32) (b : Nat) (h : v.toNatClampNeg % 4 = b) : va_up (mE cy ad σ) 2 (.inl (cy 0, 16, .inl (upd (fun j => nI (br σ j)) i (nI b)))) = mE cy ad (su σ 1 i 0 v) := by
  refine m_up ?_ ?_
  · refine congrArg (fun f : Nat → Int32 => (.inl (cy 0, 16, .inl f) : va_E)) (funext fun y => ?_)
    by_cases hy : y = i
    · subst hy
      simp only [br, upd, if_true, su_same, h]
    · simp only [br, upd, if_neg hy, su_i hy]
  exact fun j hj => mE_ext (fun _ => ⟨su_k (by decide), nw_suk (by decide), su_k (by decide), fo_suk (by decide), nm_suk (by decide), su_k (by decide)⟩) (fun _ _ => su_k (by decide)) (fun h => absurd h hj) (fun _ _ => bd_su (by decide)) (fun _ _ => su_k (by decide)) (fun _ _ => su_k (by decide)) (fun _ _ => su_k (by decide)) (fun _ _ => su_k (by decide)) (fun _ _ _ => su_k (by decide)) (fun _ _ _ => su_k (by decide)) (fun _ _ _ => su_k (by decide)) (fun _ _ => su_k (by decide)) (fun _ _ => su_k (by decide)) (fun _ _ => su_k (by decide)) (fun _ _ => su_k (by decide)) (fun _ _ => su_k (by decide)) (fun _ _ _ => su_k (by decide)) (fun _ _ => su_k (by decide))
theorem mu_mbr (i : Nat) {b : Nat} (hb : b < 4) : va_up (mE cy ad σ) 2 (.inl (cy 0, 16, .inl (upd (fun j => nI (br σ j)) i (nI b)))) = mE cy ad (su σ 1 i 0 (nI b)) := mv_mbr cy ad σ i (nI b) b (by rw [cl_nI (show b < 2 ^ 31 by omega), Nat.mod_eq_of_lt hb])
theorem mv_mbd (i : Nat) (v : Int32) (b : Nat) (h : v.toNatClampNeg % 3 = b) : va_up (mE cy ad σ) 3 (.inl (cy 0, 16, .inl (upd (fun j => nI (bd σ j)) i (nI b)))) = mE cy ad (su σ 2 i 0 v) := by
  refine m_up ?_ ?_
  · refine congrArg (fun f : Nat → Int32 => (.inl (cy 0, 16, .inl f) : va_E)) (funext fun y => ?_)
    by_cases hy : y = i
    · subst hy
      simp only [bd, upd, if_true, su_same, h]
    · simp only [bd, upd, if_neg hy, su_i hy]
  exact fun j hj => mE_ext (fun _ => ⟨su_k (by decide), nw_suk (by decide), su_k (by decide), fo_suk (by decide), nm_suk (by decide), su_k (by decide)⟩) (fun _ _ => su_k (by decide)) (fun _ _ => br_su (by decide)) (fun h => absurd h hj) (fun _ _ => su_k (by decide)) (fun _ _ => su_k (by decide)) (fun _ _ => su_k (by decide)) (fun _ _ => su_k (by decide)) (fun _ _ _ => su_k (by decide)) (fun _ _ _ => su_k (by decide)) (fun _ _ _ => su_k (by decide)) (fun _ _ => su_k (by decide)) (fun _ _ => su_k (by decide)) (fun _ _ => su_k (by decide)) (fun _ _ => su_k (by decide)) (fun _ _ => su_k (by decide)) (fun _ _ _ => su_k (by decide)) (fun _ _ => su_k (by decide))
theorem mu_mbd (i : Nat) {b : Nat} (hb : b < 3) : va_up (mE cy ad σ) 3 (.inl (cy 0, 16, .inl (upd (fun j => nI (bd σ j)) i (nI b)))) = mE cy ad (su σ 2 i 0 (nI b)) := mv_mbd cy ad σ i (nI b) b (by rw [cl_nI (show b < 2 ^ 31 by omega), Nat.mod_eq_of_lt hb])
end MU
/-- contracts of the reference's methods -/
abbrev MM (l : Launch) (y : MethodName) (ws : List Cond) (rm : Room) (D : va_G) (cy : Nat → ClassId) (ad : Nat → Nat) (av : List Value) (σ : S3) (post : Option Value → S3 → Prop) : Prop := XM l y ws rm D (tyL cy) ad 18 (fun _ _ => True) (mE cy ad) av σ post
abbrev MW (D : va_G) (cy : Nat → ClassId) (s : State) (ad : Nat → Nat) (σ : S3) (H : Heap) (locs : List Loc) : Prop := XW D (tyL cy) (xA ad 18 s.heap.size) s ad 18 (mE cy ad σ) H locs
def bI (P : Prop) [Decidable P] : Int32 := if P then 1 else 0
theorem bI_1 {P : Prop} [Decidable P] : ¬ bI P = 0 ↔ P := by
  unfold bI
  by_cases h : P
  · rw [if_pos h]; exact ⟨fun _ => h, fun _ => by decide⟩
  · rw [if_neg h]; exact ⟨fun z => absurd rfl z, fun z => absurd z h⟩
theorem bI_0 {P : Prop} [Decidable P] : bI P = 0 ↔ ¬ P := by
  exact ⟨fun h q => (bI_1.mpr q) h, fun h => Decidable.not_not.mp (fun q => h (bI_1.mp q))⟩
theorem bI_01 (P : Prop) [Decidable P] : bI P = 0 ∨ bI P = 1 := by
  unfold bI
  split
  · exact Or.inr rfl
  · exact Or.inl rfl
theorem in_ix {x : Int32} {k : Nat} (h : inI x k) : ∃ j, j < k ∧ x = nI j := by
  obtain ⟨h0, h1⟩ := h
  obtain ⟨j, hj, rfl⟩ := nI_of h0
  rw [nI_clamp hj] at h1
  exact ⟨j, h1, rfl⟩
theorem in_nI {j k : Nat} (h : j < k) (hk : k < 2 ^ 31) : inI (nI j) k := ⟨nI_pos (by omega), by rw [nI_clamp (by omega)]; exact h⟩
theorem rg_in {x : Int32} {k : Nat} (hk : k < 2 ^ 30) : rgI x 0 (nI k - 1) ↔ inI x k := by
  have e1 : (nI k - 1).toInt = (k : Int) - 1 := by
    have := pk_sub_toInt (a := k) (b := 1) hk (by decide)
    rw [show nI 1 = 1 from rfl] at this
    exact this
  constructor
  · intro h
    obtain ⟨j, hj, rfl⟩ := nI_of h.1
    refine ⟨h.1, ?_⟩
    rw [nI_clamp hj]
    have h2 : (nI j).toInt ≤ (nI k - 1).toInt := Int32.le_iff_toInt_le.mp h.2
    rw [nI_toInt hj, e1] at h2
    omega
  · intro h
    obtain ⟨j, hj, rfl⟩ := in_ix h
    refine ⟨h.1, Int32.le_iff_toInt_le.mpr ?_⟩
    rw [nI_toInt (by omega), e1]
    omega
theorem mulN (c i m : Nat) : nI c * nI i + nI m = nI (c * i + m) := by rw [pk_mul, nI_add]
section XV
variable {p : Program} {l : Launch} {e : Env} {R : Room} {s : State} {m : MethodId} {args : Array Value} {below : List Frame} {meth : Method} {c : Code} {H : Heap} {locs : List Loc} {cells slots : Nat} {Q : State → Prop}
variable {cc : ByteArray} {pc : Nat} {ls : Array Slot} {rest : List Value} {D : va_G} {tys : List (ClassId × FieldType)} {A : Nat → Prop} {ad : Nat → Nat} {N : Nat} {g : Nat → va_E} {nL : Nat} {Ts : List Cond} {own : String}
theorem xv_iald (S : CallFix p m c cc nL s args Ts own) (hw : XW D tys A s ad N g H locs) {k n t0 j : Nat} {v : Int32} {cA : ClassId} {f : Nat → Int32} (hk : k < N) (hg : g k = .inl (cA, n, .inl f)) (ht : tys[t0]? = some (cA, .int)) (hj : j < n) (h31 : n < 2 ^ 31) (hv : f j = v) (hdg : decode cc pc = .ok (.iaload, 1))
    (kk : W p l e R s m args below meth c H locs cells slots Q (F0 m (pc + 1) ls (.int v :: rest))) : W p l e R s m args below meth c H locs cells slots Q (F0 m pc ls (.int (nI j) :: .ref (ad k) :: rest)) := by
  subst hv
  exact xn_iald S hw hk hg ht hj h31 hdg kk
theorem xv_zald (S : CallFix p m c cc nL s args Ts own) (hw : XW D tys A s ad N g H locs) {k n t0 j : Nat} {v : Int32} {cA : ClassId} {f : Nat → Int32} (hk : k < N) (hg : g k = .inl (cA, n, .inl f)) (ht : tys[t0]? = some (cA, .boolean)) (hj : j < n) (h31 : n < 2 ^ 31) (hv : f j = v) (hdg : decode cc pc = .ok (.baload, 1))
    (kk : W p l e R s m args below meth c H locs cells slots Q (F0 m (pc + 1) ls (.int v :: rest))) : W p l e R s m args below meth c H locs cells slots Q (F0 m pc ls (.int (nI j) :: .ref (ad k) :: rest)) := by
  subst hv
  exact xn_zald S hw hk hg ht hj h31 hdg kk
end XV
