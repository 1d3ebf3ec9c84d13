/-! ===== the state of the class: a number at component k, index i, month m ===== -/
-- 0 dues of band i; 1, 2 branch and band of member i; 3 hasLeft; 4 isOnLeave; 5 leftOver; 6 strikePayHad; 7 owedFor; 8 laidOn of a member; 9 laidOn of a branch; 10 hasBallot; 11 yesVoters; 12 voters; 13 mayStrike; 14 isOnStrike; 16 delegates; 17 strike pay; 18 today; 19 fund; 20 foldedMonths; 22 earliestOwed
abbrev S3 : Type := Nat → Nat → Nat → Int32
def su (σ : S3) (k i m : Nat) (v : Int32) : S3 := fun a b c => if a = k then (if b = i then (if c = m then v else σ a b c) else σ a b c) else σ a b c
def br (σ : S3) (i : Nat) : Nat := (σ 1 i 0).toNatClampNeg % 4
def bd (σ : S3) (i : Nat) : Nat := (σ 2 i 0).toNatClampNeg % 3
def eo (σ : S3) (i : Nat) : Nat := (σ 22 i 0).toNatClampNeg % 61
def fo (σ : S3) : Nat := (σ 20 0 0).toNatClampNeg
theorem br_lt (σ : S3) (i : Nat) : br σ i < 4 := Nat.mod_lt _ (by decide)
theorem bd_lt (σ : S3) (i : Nat) : bd σ i < 3 := Nat.mod_lt _ (by decide)
theorem eo_le (σ : S3) (i : Nat) : eo σ i ≤ 60 := Nat.le_of_lt_succ (Nat.mod_lt _ (by decide))
theorem su_same (σ : S3) (k i m : Nat) (v : Int32) : su σ k i m v k i m = v := by simp [su]
theorem su_k {σ : S3} {k i m a b c : Nat} {v : Int32} (h : a ≠ k) : su σ k i m v a b c = σ a b c := by simp [su, h]
theorem su_i {σ : S3} {k i m a b c : Nat} {v : Int32} (h : b ≠ i) : su σ k i m v a b c = σ a b c := by simp [su, h]
theorem su_m {σ : S3} {k i m a b c : Nat} {v : Int32} (h : c ≠ m) : su σ k i m v a b c = σ a b c := by simp [su, h]
/-- the class ids of the arrays: int[], boolean[], Band[], Branch[], Member[], long[] -/
abbrev tyL (cy : Nat → ClassId) : List (ClassId × FieldType) := [(cy 0, .int), (cy 1, .boolean), (cy 2, .object RX0), (cy 3, .object RX1), (cy 4, .object RX2), (cy 5, .long)]
abbrev eOff (ad : Nat → Nat) (n : Nat) (σ : S3) : va_E := .inr (3, [.ref (ad 1), .ref (ad 2), .ref (ad 3), .int (nI n), .int (σ 17 0 0), .int (σ 18 0 0), .int (σ 19 0 0), .int (nI (fo σ))])
abbrev eBds (cy : Nat → ClassId) (ad : Nat → Nat) : va_E := .inl (cy 2, 3, .inr (.inr (.inr (.inr (fun j => if j < 3 then some (ad (4 + j)) else none)))))
abbrev eBrs (cy : Nat → ClassId) (ad : Nat → Nat) : va_E := .inl (cy 3, 4, .inr (.inr (.inr (.inr (fun j => if j < 4 then some (ad (7 + j)) else none)))))
abbrev eMms (cy : Nat → ClassId) (ad : Nat → Nat) (n : Nat) : va_E := .inl (cy 4, 16, .inr (.inr (.inr (.inr (fun j => if j < n then some (ad (15 + 3 * j)) else none)))))
abbrev eBand (σ : S3) (b : Nat) : va_E := .inr (0, [.int (σ 0 b 0)])
abbrev eBr (ad : Nat → Nat) (σ : S3) (b : Nat) : va_E := .inr (1, [.ref (ad (11 + b)), .int (σ 10 b 0), .int (σ 12 b 0), .int (σ 11 b 0), .int (σ 13 b 0), .int (σ 14 b 0), .int (σ 16 b 0)])
abbrev eArr (cy : Nat → ClassId) (f : Nat → Int32) : va_E := .inl (cy 0, 60, .inl f)
abbrev eMem (ad : Nat → Nat) (σ : S3) (i : Nat) : va_E := .inr (2, [.int (nI i), .ref (ad (16 + 3 * i)), .ref (ad (17 + 3 * i)), .ref (ad (7 + br σ i)), .ref (ad (4 + bd σ i)), .int (σ 4 i 0), .int (σ 3 i 0), .int (σ 5 i 0), .int (σ 6 i 0), .int (nI (eo σ i))])
def cE (cy : Nat → ClassId) (ad : Nat → Nat) (n : Nat) (σ : S3) (k : Nat) : va_E :=
  if k = 0 then eOff ad n σ else if k = 1 then eBds cy ad else if k = 2 then eBrs cy ad else if k = 3 then eMms cy ad n
  else if k < 7 then eBand σ (k - 4) else if k < 11 then eBr ad σ (k - 7) else if k < 15 then eArr cy (σ 9 (k - 11))
  else if (k - 15) % 3 = 0 then eMem ad σ ((k - 15) / 3) else if (k - 15) % 3 = 1 then eArr cy (σ 7 ((k - 15) / 3)) else eArr cy (σ 8 ((k - 15) / 3))
section CE
variable (cy : Nat → ClassId) (ad : Nat → Nat) (n : Nat) (σ : S3)
theorem cE_0 : cE cy ad n σ 0 = eOff ad n σ := rfl
theorem cE_1 : cE cy ad n σ 1 = eBds cy ad := rfl
theorem cE_2 : cE cy ad n σ 2 = eBrs cy ad := rfl
theorem cE_3 : cE cy ad n σ 3 = eMms cy ad n := rfl
theorem cE_band {b : Nat} (h : b < 3) : cE cy ad n σ (4 + b) = eBand σ b := by
  unfold cE
  rw [if_neg (by omega), if_neg (by omega), if_neg (by omega), if_neg (by omega), if_pos (by omega), Nat.add_sub_cancel_left]
theorem cE_br {b : Nat} (h : b < 4) : cE cy ad n σ (7 + b) = eBr ad σ b := by
  unfold cE
  rw [if_neg (by omega), if_neg (by omega), if_neg (by omega), if_neg (by omega), if_neg (by omega), if_pos (by omega), Nat.add_sub_cancel_left]
theorem cE_la {b : Nat} (h : b < 4) : cE cy ad n σ (11 + b) = eArr cy (σ 9 b) := by
  unfold cE
  rw [if_neg (by omega), if_neg (by omega), if_neg (by omega), if_neg (by omega), if_neg (by omega), if_neg (by omega), if_pos (by omega), Nat.add_sub_cancel_left]
theorem cE_m (i : Nat) : cE cy ad n σ (15 + 3 * i) = eMem ad σ i := by
  unfold cE
  rw [if_neg (by omega), if_neg (by omega), if_neg (by omega), if_neg (by omega), if_neg (by omega), if_neg (by omega), if_neg (by omega), if_pos (by omega), show (15 + 3 * i - 15) / 3 = i by omega]
theorem cE_ow (i : Nat) : cE cy ad n σ (16 + 3 * i) = eArr cy (σ 7 i) := by
  unfold cE
  rw [if_neg (by omega), if_neg (by omega), if_neg (by omega), if_neg (by omega), if_neg (by omega), if_neg (by omega), if_neg (by omega), if_neg (by omega), if_pos (by omega), show (16 + 3 * i - 15) / 3 = i by omega]
theorem cE_ml (i : Nat) : cE cy ad n σ (17 + 3 * i) = eArr cy (σ 8 i) := by
  unfold cE
  rw [if_neg (by omega), if_neg (by omega), if_neg (by omega), if_neg (by omega), if_neg (by omega), if_neg (by omega), if_neg (by omega), if_neg (by omega), if_neg (by omega), show (17 + 3 * i - 15) / 3 = i by omega]
theorem cE_cases (j : Nat) : j = 0 ∨ j = 1 ∨ j = 2 ∨ j = 3 ∨ (∃ b, b < 3 ∧ j = 4 + b) ∨ (∃ b, b < 4 ∧ j = 7 + b) ∨ (∃ b, b < 4 ∧ j = 11 + b) ∨ (∃ i, j = 15 + 3 * i) ∨ (∃ i, j = 16 + 3 * i) ∨ ∃ i, j = 17 + 3 * i := by
  by_cases h : j < 15
  · by_cases h7 : j < 7
    · by_cases h4 : j < 4
      · omega
      · exact Or.inr (Or.inr (Or.inr (Or.inr (Or.inl ⟨j - 4, by omega, by omega⟩))))
    · by_cases h11 : j < 11
      · exact Or.inr (Or.inr (Or.inr (Or.inr (Or.inr (Or.inl ⟨j - 7, by omega, by omega⟩)))))
      · exact Or.inr (Or.inr (Or.inr (Or.inr (Or.inr (Or.inr (Or.inl ⟨j - 11, by omega, by omega⟩))))))
  · have h3 : (j - 15) % 3 = 0 ∨ (j - 15) % 3 = 1 ∨ (j - 15) % 3 = 2 := by omega
    rcases h3 with h3 | h3 | h3
    · exact Or.inr (Or.inr (Or.inr (Or.inr (Or.inr (Or.inr (Or.inr (Or.inl ⟨(j - 15) / 3, by omega⟩)))))))
    · exact Or.inr (Or.inr (Or.inr (Or.inr (Or.inr (Or.inr (Or.inr (Or.inr (Or.inl ⟨(j - 15) / 3, by omega⟩))))))))
    · exact Or.inr (Or.inr (Or.inr (Or.inr (Or.inr (Or.inr (Or.inr (Or.inr (Or.inr ⟨(j - 15) / 3, by omega⟩))))))))
end CE
theorem cE_ext {cy : Nat → ClassId} {ad : Nat → Nat} {n : Nat} {σ τ : S3} {j : Nat} (h0 : j = 0 → τ 17 0 0 = σ 17 0 0 ∧ τ 18 0 0 = σ 18 0 0 ∧ τ 19 0 0 = σ 19 0 0 ∧ τ 20 0 0 = σ 20 0 0)
    (hb : ∀ b, j = 4 + b → τ 0 b 0 = σ 0 b 0) (hbr : ∀ b, j = 7 + b → τ 10 b 0 = σ 10 b 0 ∧ τ 12 b 0 = σ 12 b 0 ∧ τ 11 b 0 = σ 11 b 0 ∧ τ 13 b 0 = σ 13 b 0 ∧ τ 14 b 0 = σ 14 b 0 ∧ τ 16 b 0 = σ 16 b 0) (hla : ∀ b m, j = 11 + b → τ 9 b m = σ 9 b m)
    (hm : ∀ i, j = 15 + 3 * i → τ 1 i 0 = σ 1 i 0 ∧ τ 2 i 0 = σ 2 i 0 ∧ τ 4 i 0 = σ 4 i 0 ∧ τ 3 i 0 = σ 3 i 0 ∧ τ 5 i 0 = σ 5 i 0 ∧ τ 6 i 0 = σ 6 i 0 ∧ τ 22 i 0 = σ 22 i 0) (how : ∀ i m, j = 16 + 3 * i → τ 7 i m = σ 7 i m) (hml : ∀ i m, j = 17 + 3 * i → τ 8 i m = σ 8 i m) : cE cy ad n σ j = cE cy ad n τ j := by
  rcases cE_cases j with h | h | h | h | ⟨b, h1, h⟩ | ⟨b, h1, h⟩ | ⟨b, h1, h⟩ | ⟨i, h⟩ | ⟨i, h⟩ | ⟨i, h⟩
  · obtain ⟨e1, e2, e3, e4⟩ := h0 h
    rw [h, cE_0, cE_0]; simp only [eOff, fo, e1, e2, e3, e4]
  · rw [h, cE_1, cE_1]
  · rw [h, cE_2, cE_2]
  · rw [h, cE_3, cE_3]
  · have e1 := hb b h
    rw [h, cE_band _ _ _ _ h1, cE_band _ _ _ _ h1]; simp only [eBand, e1]
  · obtain ⟨e1, e2, e3, e4, e5, e6⟩ := hbr b h
    rw [h, cE_br _ _ _ _ h1, cE_br _ _ _ _ h1]; simp only [eBr, e1, e2, e3, e4, e5, e6]
  · rw [h, cE_la _ _ _ _ h1, cE_la _ _ _ _ h1, show τ 9 b = σ 9 b from funext fun m => hla b m h]
  · obtain ⟨e1, e2, e3, e4, e5, e6, e7⟩ := hm i h
    rw [h, cE_m, cE_m]; simp only [eMem, br, bd, eo, e1, e2, e3, e4, e5, e6, e7]
  · rw [h, cE_ow, cE_ow, show τ 7 i = σ 7 i from funext fun m => how i m h]
  · rw [h, cE_ml, cE_ml, show τ 8 i = σ 8 i from funext fun m => hml i m h]
theorem up_of {cy : Nat → ClassId} {ad : Nat → Nat} {n : Nat} {σ τ : S3} {k : Nat} {e : va_E} (h1 : cE cy ad n τ k = e) (h2 : ∀ j, j ≠ k → cE cy ad n σ j = cE cy ad n τ j) : va_up (cE cy ad n σ) k e = cE cy ad n τ := by
  funext j
  by_cases h : j = k
  · rw [h, va_up_self, h1]
  · rw [va_up_ne _ _ h, h2 j h]
theorem cl_nI {b : Nat} (h : b < 2 ^ 31) : (nI b).toNatClampNeg = b := nI_clamp h
section UP
variable (cy : Nat → ClassId) (ad : Nat → Nat) (n : Nat) (σ : S3)
theorem up_pay (v : Int32) : va_up (cE cy ad n σ) 0 (.inr (3, [.ref (ad 1), .ref (ad 2), .ref (ad 3), .int (nI n), .int v, .int (σ 18 0 0), .int (σ 19 0 0), .int (nI (fo σ))])) = cE cy ad n (su σ 17 0 0 v) := by
  refine up_of ?_ (fun j hj => cE_ext (fun h => absurd h hj) (fun x hx => by simp [su]) (fun x hx => by simp [su]) (fun x y hx => by simp [su]) (fun x hx => by simp [su]) (fun x y hx => by simp [su]) (fun x y hx => by simp [su]))
  rw [cE_0]; simp [su, fo]
theorem up_today (v : Int32) : va_up (cE cy ad n σ) 0 (.inr (3, [.ref (ad 1), .ref (ad 2), .ref (ad 3), .int (nI n), .int (σ 17 0 0), .int v, .int (σ 19 0 0), .int (nI (fo σ))])) = cE cy ad n (su σ 18 0 0 v) := by
  refine up_of ?_ (fun j hj => cE_ext (fun h => absurd h hj) (fun x hx => by simp [su]) (fun x hx => by simp [su]) (fun x y hx => by simp [su]) (fun x hx => by simp [su]) (fun x y hx => by simp [su]) (fun x y hx => by simp [su]))
  rw [cE_0]; simp [su, fo]
theorem up_fund (v : Int32) : va_up (cE cy ad n σ) 0 (.inr (3, [.ref (ad 1), .ref (ad 2), .ref (ad 3), .int (nI n), .int (σ 17 0 0), .int (σ 18 0 0), .int v, .int (nI (fo σ))])) = cE cy ad n (su σ 19 0 0 v) := by
  refine up_of ?_ (fun j hj => cE_ext (fun h => absurd h hj) (fun x hx => by simp [su]) (fun x hx => by simp [su]) (fun x y hx => by simp [su]) (fun x hx => by simp [su]) (fun x y hx => by simp [su]) (fun x y hx => by simp [su]))
  rw [cE_0]; simp [su, fo]
theorem up_fold {f : Nat} (hf : f < 2 ^ 31) : va_up (cE cy ad n σ) 0 (.inr (3, [.ref (ad 1), .ref (ad 2), .ref (ad 3), .int (nI n), .int (σ 17 0 0), .int (σ 18 0 0), .int (σ 19 0 0), .int (nI f)])) = cE cy ad n (su σ 20 0 0 (nI f)) := by
  refine up_of ?_ (fun j hj => cE_ext (fun h => absurd h hj) (fun x hx => by simp [su]) (fun x hx => by simp [su]) (fun x y hx => by simp [su]) (fun x hx => by simp [su]) (fun x y hx => by simp [su]) (fun x y hx => by simp [su]))
  rw [cE_0]; simp [su, fo, cl_nI hf]
theorem up_dues {b : Nat} (hb : b < 3) (v : Int32) : va_up (cE cy ad n σ) (4 + b) (.inr (0, [.int v])) = cE cy ad n (su σ 0 b 0 v) := by
  refine up_of ?_ (fun j hj => cE_ext (fun _ => by simp [su]) (fun x hx => by have hne : x ≠ b := (by omega); simp [su, hne]) (fun x hx => by simp [su]) (fun x y hx => by simp [su]) (fun x hx => by simp [su]) (fun x y hx => by simp [su]) (fun x y hx => by simp [su]))
  rw [cE_band _ _ _ _ hb]; simp [su]
theorem up_ballot {b : Nat} (hb : b < 4) (v : Int32) : va_up (cE cy ad n σ) (7 + b) (.inr (1, [.ref (ad (11 + b)), .int v, .int (σ 12 b 0), .int (σ 11 b 0), .int (σ 13 b 0), .int (σ 14 b 0), .int (σ 16 b 0)])) = cE cy ad n (su σ 10 b 0 v) := by
  refine up_of ?_ (fun j hj => cE_ext (fun _ => by simp [su]) (fun x hx => by simp [su]) (fun x hx => by have hne : x ≠ b := (by omega); simp [su, hne]) (fun x y hx => by simp [su]) (fun x hx => by simp [su]) (fun x y hx => by simp [su]) (fun x y hx => by simp [su]))
  rw [cE_br _ _ _ _ hb]; simp [su]
theorem up_voters {b : Nat} (hb : b < 4) (v : Int32) : va_up (cE cy ad n σ) (7 + b) (.inr (1, [.ref (ad (11 + b)), .int (σ 10 b 0), .int v, .int (σ 11 b 0), .int (σ 13 b 0), .int (σ 14 b 0), .int (σ 16 b 0)])) = cE cy ad n (su σ 12 b 0 v) := by
  refine up_of ?_ (fun j hj => cE_ext (fun _ => by simp [su]) (fun x hx => by simp [su]) (fun x hx => by have hne : x ≠ b := (by omega); simp [su, hne]) (fun x y hx => by simp [su]) (fun x hx => by simp [su]) (fun x y hx => by simp [su]) (fun x y hx => by simp [su]))
  rw [cE_br _ _ _ _ hb]; simp [su]
theorem up_yes {b : Nat} (hb : b < 4) (v : Int32) : va_up (cE cy ad n σ) (7 + b) (.inr (1, [.ref (ad (11 + b)), .int (σ 10 b 0), .int (σ 12 b 0), .int v, .int (σ 13 b 0), .int (σ 14 b 0), .int (σ 16 b 0)])) = cE cy ad n (su σ 11 b 0 v) := by
  refine up_of ?_ (fun j hj => cE_ext (fun _ => by simp [su]) (fun x hx => by simp [su]) (fun x hx => by have hne : x ≠ b := (by omega); simp [su, hne]) (fun x y hx => by simp [su]) (fun x hx => by simp [su]) (fun x y hx => by simp [su]) (fun x y hx => by simp [su]))
  rw [cE_br _ _ _ _ hb]; simp [su]
theorem up_may {b : Nat} (hb : b < 4) (v : Int32) : va_up (cE cy ad n σ) (7 + b) (.inr (1, [.ref (ad (11 + b)), .int (σ 10 b 0), .int (σ 12 b 0), .int (σ 11 b 0), .int v, .int (σ 14 b 0), .int (σ 16 b 0)])) = cE cy ad n (su σ 13 b 0 v) := by
  refine up_of ?_ (fun j hj => cE_ext (fun _ => by simp [su]) (fun x hx => by simp [su]) (fun x hx => by have hne : x ≠ b := (by omega); simp [su, hne]) (fun x y hx => by simp [su]) (fun x hx => by simp [su]) (fun x y hx => by simp [su]) (fun x y hx => by simp [su]))
  rw [cE_br _ _ _ _ hb]; simp [su]
theorem up_out {b : Nat} (hb : b < 4) (v : Int32) : va_up (cE cy ad n σ) (7 + b) (.inr (1, [.ref (ad (11 + b)), .int (σ 10 b 0), .int (σ 12 b 0), .int (σ 11 b 0), .int (σ 13 b 0), .int v, .int (σ 16 b 0)])) = cE cy ad n (su σ 14 b 0 v) := by
  refine up_of ?_ (fun j hj => cE_ext (fun _ => by simp [su]) (fun x hx => by simp [su]) (fun x hx => by have hne : x ≠ b := (by omega); simp [su, hne]) (fun x y hx => by simp [su]) (fun x hx => by simp [su]) (fun x y hx => by simp [su]) (fun x y hx => by simp [su]))
  rw [cE_br _ _ _ _ hb]; simp [su]
theorem up_deleg {b : Nat} (hb : b < 4) (v : Int32) : va_up (cE cy ad n σ) (7 + b) (.inr (1, [.ref (ad (11 + b)), .int (σ 10 b 0), .int (σ 12 b 0), .int (σ 11 b 0), .int (σ 13 b 0), .int (σ 14 b 0), .int v])) = cE cy ad n (su σ 16 b 0 v) := by
  refine up_of ?_ (fun j hj => cE_ext (fun _ => by simp [su]) (fun x hx => by simp [su]) (fun x hx => by have hne : x ≠ b := (by omega); simp [su, hne]) (fun x y hx => by simp [su]) (fun x hx => by simp [su]) (fun x y hx => by simp [su]) (fun x y hx => by simp [su]))
  rw [cE_br _ _ _ _ hb]; simp [su]
theorem up_away (i : Nat) (v : Int32) : va_up (cE cy ad n σ) (15 + 3 * i) (.inr (2, [.int (nI i), .ref (ad (16 + 3 * i)), .ref (ad (17 + 3 * i)), .ref (ad (7 + br σ i)), .ref (ad (4 + bd σ i)), .int v, .int (σ 3 i 0), .int (σ 5 i 0), .int (σ 6 i 0), .int (nI (eo σ i))])) = cE cy ad n (su σ 4 i 0 v) := by
  refine up_of ?_ (fun j hj => cE_ext (fun _ => by simp [su]) (fun x hx => by simp [su]) (fun x hx => by simp [su]) (fun x y hx => by simp [su]) (fun x hx => by have hne : x ≠ i := (by omega); simp [su, hne]) (fun x y hx => by simp [su]) (fun x y hx => by simp [su]))
  rw [cE_m]; simp [su, br, bd, eo]
theorem up_left (i : Nat) (v : Int32) : va_up (cE cy ad n σ) (15 + 3 * i) (.inr (2, [.int (nI i), .ref (ad (16 + 3 * i)), .ref (ad (17 + 3 * i)), .ref (ad (7 + br σ i)), .ref (ad (4 + bd σ i)), .int (σ 4 i 0), .int v, .int (σ 5 i 0), .int (σ 6 i 0), .int (nI (eo σ i))])) = cE cy ad n (su σ 3 i 0 v) := by
  refine up_of ?_ (fun j hj => cE_ext (fun _ => by simp [su]) (fun x hx => by simp [su]) (fun x hx => by simp [su]) (fun x y hx => by simp [su]) (fun x hx => by have hne : x ≠ i := (by omega); simp [su, hne]) (fun x y hx => by simp [su]) (fun x y hx => by simp [su]))
  rw [cE_m]; simp [su, br, bd, eo]
theorem up_lo (i : Nat) (v : Int32) : va_up (cE cy ad n σ) (15 + 3 * i) (.inr (2, [.int (nI i), .ref (ad (16 + 3 * i)), .ref (ad (17 + 3 * i)), .ref (ad (7 + br σ i)), .ref (ad (4 + bd σ i)), .int (σ 4 i 0), .int (σ 3 i 0), .int v, .int (σ 6 i 0), .int (nI (eo σ i))])) = cE cy ad n (su σ 5 i 0 v) := by
  refine up_of ?_ (fun j hj => cE_ext (fun _ => by simp [su]) (fun x hx => by simp [su]) (fun x hx => by simp [su]) (fun x y hx => by simp [su]) (fun x hx => by have hne : x ≠ i := (by omega); simp [su, hne]) (fun x y hx => by simp [su]) (fun x y hx => by simp [su]))
  rw [cE_m]; simp [su, br, bd, eo]
theorem up_had (i : Nat) (v : Int32) : va_up (cE cy ad n σ) (15 + 3 * i) (.inr (2, [.int (nI i), .ref (ad (16 + 3 * i)), .ref (ad (17 + 3 * i)), .ref (ad (7 + br σ i)), .ref (ad (4 + bd σ i)), .int (σ 4 i 0), .int (σ 3 i 0), .int (σ 5 i 0), .int v, .int (nI (eo σ i))])) = cE cy ad n (su σ 6 i 0 v) := by
  refine up_of ?_ (fun j hj => cE_ext (fun _ => by simp [su]) (fun x hx => by simp [su]) (fun x hx => by simp [su]) (fun x y hx => by simp [su]) (fun x hx => by have hne : x ≠ i := (by omega); simp [su, hne]) (fun x y hx => by simp [su]) (fun x y hx => by simp [su]))
  rw [cE_m]; simp [su, br, bd, eo]
theorem up_mbr (i : Nat) {b : Nat} (hb : b < 4) : va_up (cE cy ad n σ) (15 + 3 * i) (.inr (2, [.int (nI i), .ref (ad (16 + 3 * i)), .ref (ad (17 + 3 * i)), .ref (ad (7 + b)), .ref (ad (4 + bd σ i)), .int (σ 4 i 0), .int (σ 3 i 0), .int (σ 5 i 0), .int (σ 6 i 0), .int (nI (eo σ i))])) = cE cy ad n (su σ 1 i 0 (nI b)) := by
  refine up_of ?_ (fun j hj => cE_ext (fun _ => by simp [su]) (fun x hx => by simp [su]) (fun x hx => by simp [su]) (fun x y hx => by simp [su]) (fun x hx => by have hne : x ≠ i := (by omega); simp [su, hne]) (fun x y hx => by simp [su]) (fun x y hx => by simp [su]))
  rw [cE_m]; simp [su, br, bd, eo, cl_nI (show b < 2 ^ 31 by omega), Nat.mod_eq_of_lt hb]
theorem up_mbd (i : Nat) {b : Nat} (hb : b < 3) : va_up (cE cy ad n σ) (15 + 3 * i) (.inr (2, [.int (nI i), .ref (ad (16 + 3 * i)), .ref (ad (17 + 3 * i)), .ref (ad (7 + br σ i)), .ref (ad (4 + b)), .int (σ 4 i 0), .int (σ 3 i 0), .int (σ 5 i 0), .int (σ 6 i 0), .int (nI (eo σ i))])) = cE cy ad n (su σ 2 i 0 (nI b)) := by
  refine up_of ?_ (fun j hj => cE_ext (fun _ => by simp [su]) (fun x hx => by simp [su]) (fun x hx => by simp [su]) (fun x y hx => by simp [su]) (fun x hx => by have hne : x ≠ i := (by omega); simp [su, hne]) (fun x y hx => by simp [su]) (fun x y hx => by simp [su]))
  rw [cE_m]; simp [su, br, bd, eo, cl_nI (show b < 2 ^ 31 by omega), Nat.mod_eq_of_lt hb]
theorem up_eo (i : Nat) {e : Nat} (he : e ≤ 60) : va_up (cE cy ad n σ) (15 + 3 * i) (.inr (2, [.int (nI i), .ref (ad (16 + 3 * i)), .ref (ad (17 + 3 * i)), .ref (ad (7 + br σ i)), .ref (ad (4 + bd σ i)), .int (σ 4 i 0), .int (σ 3 i 0), .int (σ 5 i 0), .int (σ 6 i 0), .int (nI e)])) = cE cy ad n (su σ 22 i 0 (nI e)) := by
  refine up_of ?_ (fun j hj => cE_ext (fun _ => by simp [su]) (fun x hx => by simp [su]) (fun x hx => by simp [su]) (fun x y hx => by simp [su]) (fun x hx => by have hne : x ≠ i := (by omega); simp [su, hne]) (fun x y hx => by simp [su]) (fun x y hx => by simp [su]))
  rw [cE_m]; simp [su, br, bd, eo, cl_nI (show e < 2 ^ 31 by omega), Nat.mod_eq_of_lt (show e < 61 by omega)]
theorem up_ow (i : Nat) (m : Nat) (v : Int32) : va_up (cE cy ad n σ) (16 + 3 * i) (.inl (cy 0, 60, .inl (upd (σ 7 i) m v))) = cE cy ad n (su σ 7 i m v) := by
  refine up_of ?_ (fun j hj => cE_ext (fun _ => by simp [su]) (fun x hx => by simp [su]) (fun x hx => by simp [su]) (fun x y hx => by simp [su]) (fun x hx => by simp [su]) (fun x y hx => by have hne : x ≠ i := (by omega); simp [su, hne]) (fun x y hx => by simp [su]))
  rw [cE_ow]; congr 3; funext y; simp [su, upd]
theorem up_ml (i : Nat) (m : Nat) (v : Int32) : va_up (cE cy ad n σ) (17 + 3 * i) (.inl (cy 0, 60, .inl (upd (σ 8 i) m v))) = cE cy ad n (su σ 8 i m v) := by
  refine up_of ?_ (fun j hj => cE_ext (fun _ => by simp [su]) (fun x hx => by simp [su]) (fun x hx => by simp [su]) (fun x y hx => by simp [su]) (fun x hx => by simp [su]) (fun x y hx => by simp [su]) (fun x y hx => by have hne : x ≠ i := (by omega); simp [su, hne]))
  rw [cE_ml]; congr 3; funext y; simp [su, upd]
theorem up_la {b : Nat} (hb : b < 4) (m : Nat) (v : Int32) : va_up (cE cy ad n σ) (11 + b) (.inl (cy 0, 60, .inl (upd (σ 9 b) m v))) = cE cy ad n (su σ 9 b m v) := by
  refine up_of ?_ (fun j hj => cE_ext (fun _ => by simp [su]) (fun x hx => by simp [su]) (fun x hx => by simp [su]) (fun x y hx => by have hne : x ≠ b := (by omega); simp [su, hne]) (fun x hx => by simp [su]) (fun x y hx => by simp [su]) (fun x y hx => by simp [su]))
  rw [cE_la _ _ _ _ hb]; congr 3; funext y; simp [su, upd]
end UP
theorem nar_z {v : Int32} (h : v = 0 ∨ v = 1) : narrow .boolean (.int v) = .int v := by rcases h with rfl | rfl <;> rfl
theorem fit_z {v : Int32} (h : v = 0 ∨ v = 1) : fits .boolean (.int v) = true := by rcases h with rfl | rfl <;> rfl
theorem vpn_z {v : Int32} (h : v = 0 ∨ v = 1) : vp_nar .boolean v = v := by rcases h with rfl | rfl <;> rfl
theorem k_0 (n : Nat) : 0 < 15 + 3 * n := by omega
theorem k_1 (n : Nat) : 1 < 15 + 3 * n := by omega
theorem k_2 (n : Nat) : 2 < 15 + 3 * n := by omega
theorem k_3 (n : Nat) : 3 < 15 + 3 * n := by omega
theorem k_band (n : Nat) {b : Nat} (h : b < 3) : 4 + b < 15 + 3 * n := by omega
theorem k_br (n : Nat) {b : Nat} (h : b < 4) : 7 + b < 15 + 3 * n := by omega
theorem k_la (n : Nat) {b : Nat} (h : b < 4) : 11 + b < 15 + 3 * n := by omega
theorem k_m {i n : Nat} (h : i < n) : 15 + 3 * i < 15 + 3 * n := by omega
theorem k_ow {i n : Nat} (h : i < n) : 16 + 3 * i < 15 + 3 * n := by omega
theorem k_ml {i n : Nat} (h : i < n) : 17 + 3 * i < 15 + 3 * n := by omega
/-- contracts of the class's methods -/
abbrev CM (l : Launch) (y : MethodName) (ws : List Cond) (rm : Room) (D : va_G) (cy : Nat → ClassId) (ad : Nat → Nat) (n : Nat) (av : List Value) (σ : S3) (post : Option Value → S3 → Prop) : Prop := XM l y ws rm D (tyL cy) ad (15 + 3 * n) (cX ad (15 + 3 * n)) (cE cy ad n) av σ post
abbrev CT (l : Launch) (y : MethodName) (ws : List Cond) (rm : Room) (D : va_G) (cy : Nat → ClassId) (ad : Nat → Nat) (n : Nat) (av : List Value) (σ : S3) (post : Option Value → S3 → Prop) (err : String → Prop) : Prop := XT l y ws rm D (tyL cy) ad (15 + 3 * n) (cX ad (15 + 3 * n)) (cE cy ad n) av σ post err
abbrev CW (D : va_G) (cy : Nat → ClassId) (s : State) (ad : Nat → Nat) (n : Nat) (σ : S3) (H : Heap) (locs : List Loc) : Prop := XW D (tyL cy) (xA ad (15 + 3 * n) s.heap.size) s ad (15 + 3 * n) (cE cy ad n σ) H locs
