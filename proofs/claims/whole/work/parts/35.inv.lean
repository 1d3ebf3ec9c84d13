/-! ===== the class's state beside the model's: what holds between two calls ===== -/
def okc (a : Nat) : Bool := !(a == 0 || a == 11 || a == 12 || a == 15 || a == 21 || a == 22 || a == 23)
/-- the parts that both hold in the same words -/
def Eq9 (σ μ : S3) : Prop := (∀ a i m, okc a = true → σ a i m = μ a i m) ∧ ∀ b, b < 3 → σ 0 b 0 = μ 0 b 0
def ZDu (σ : S3) : Prop := ∀ b, b < 3 → ∃ w, w ≤ 100000 ∧ σ 0 b 0 = nI w
def ZB4 (σ : S3) : Prop := ∀ i, σ 4 i 0 = 0 ∨ σ 4 i 0 = 1
def ZB14 (σ : S3) : Prop := ∀ b, σ 14 b 0 = 0 ∨ σ 14 b 0 = 1
def DYd (σ : S3) : Prop := ∃ d, d ≤ 1800 ∧ σ 18 0 0 = nI d
def FOf (σ : S3) : Prop := ∃ F, F ≤ 60 ∧ σ 20 0 0 = nI F
/-- a member's money: what is left over, what is owed for each month; never both -/
def MNi (k : Nat) (σ : S3) (i : Nat) : Prop := (∃ c, c ≤ 1000000 * k ∧ σ 5 i 0 = nI c) ∧ (∀ m, ∃ w, w ≤ 100000 ∧ σ 7 i m = nI w) ∧ (σ 5 i 0 = 0 ∨ ∀ m, σ 7 i m = 0)
def EOi (σ : S3) (i : Nat) : Prop := (∀ m, m < eo σ i → σ 7 i m = 0) ∧ (eo σ i < 60 → σ 7 i (eo σ i) ≠ 0)
def ZFu (σ : S3) : Prop := ∀ d, d ≤ 1800 → σ 18 0 0 = nI d → ∀ i m, d / 30 ≤ m → σ 7 i m = 0
def FRn (n : Nat) (σ : S3) : Prop := ∀ i, n ≤ i → frM σ i
def VBb (σ μ : S3) (b : Nat) : Prop := ∃ X Y : Nat, X < 65536 ∧ Y < 65536 ∧ σ 12 b 0 = nI X ∧ σ 11 b 0 = nI Y ∧ (∀ i, i < 16 → (X.testBit i = true ↔ ¬ μ 15 b i = 0)) ∧ (∀ i, i < 16 → Y.testBit i = true → X.testBit i = true) ∧ bcF (σ 11 b 0) = μ 11 b 0 ∧ bcF (σ 12 b 0) = μ 11 b 0 + μ 12 b 0
def Inv (k n : Nat) (σ μ : S3) : Prop := Eq9 σ μ ∧ (n ≤ 16 ∧ nm μ = n) ∧ DYd σ ∧ FOf σ ∧ ZB4 σ ∧ ZB14 σ ∧ ZDu σ ∧ (∀ i, MNi k σ i) ∧ (∀ i, EOi σ i) ∧ ZFu σ ∧ FRn n σ ∧ ∀ b, VBb σ μ b
abbrev JJ (k a0 : Nat) : LSt → S3 → Prop := fun u μ => Inv k u.2.2.1 u.2.2.2 μ ∧ u.2.1 0 = a0
section IV
variable {k n : Nat} {σ μ : S3}
theorem Inv.E (h : Inv k n σ μ) : Eq9 σ μ := h.1
theorem Inv.n16 (h : Inv k n σ μ) : n ≤ 16 := h.2.1.1
theorem Inv.nm (h : Inv k n σ μ) : nm μ = n := h.2.1.2
theorem Inv.dy (h : Inv k n σ μ) : DYd σ := h.2.2.1
theorem Inv.fo (h : Inv k n σ μ) : FOf σ := h.2.2.2.1
theorem Inv.z4 (h : Inv k n σ μ) : ZB4 σ := h.2.2.2.2.1
theorem Inv.z14 (h : Inv k n σ μ) : ZB14 σ := h.2.2.2.2.2.1
theorem Inv.du (h : Inv k n σ μ) : ZDu σ := h.2.2.2.2.2.2.1
theorem Inv.mn (h : Inv k n σ μ) : ∀ i, MNi k σ i := h.2.2.2.2.2.2.2.1
theorem Inv.eo (h : Inv k n σ μ) : ∀ i, EOi σ i := h.2.2.2.2.2.2.2.2.1
theorem Inv.zf (h : Inv k n σ μ) : ZFu σ := h.2.2.2.2.2.2.2.2.2.1
theorem Inv.fr (h : Inv k n σ μ) : FRn n σ := h.2.2.2.2.2.2.2.2.2.2.1
theorem Inv.vb (h : Inv k n σ μ) : ∀ b, VBb σ μ b := h.2.2.2.2.2.2.2.2.2.2.2
end IV
theorem Inv.z4m {k n : Nat} {σ μ : S3} (h : Inv k n σ μ) (i : Nat) : μ 4 i 0 = 0 ∨ μ 4 i 0 = 1 := by
  have h1 := h.z4 i
  rw [h.E.1 4 i 0 rfl] at h1
  exact h1
