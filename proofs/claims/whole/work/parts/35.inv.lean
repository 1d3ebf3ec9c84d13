/-! ===== the class's state beside the model's: what holds between two calls ===== -/
def okc (a : Nat) : Bool := !(a == 0 || a == 11 || a == 12 || a == 15 || a == 19 || a == 21 || a == 22 || a == 23)
/-- the parts that both hold in the same words -/
def E18 (σ μ : S3) : Prop := (∀ a i m, okc a = true → σ a i m = μ a i m) ∧ ∀ b, b < 3 → σ 0 b 0 = μ 0 b 0
def Eq9 (σ μ : S3) : Prop := E18 σ μ ∧ σ 19 0 0 = μ 19 0 0
def ZDu (σ : S3) : Prop := ∀ b, b < 3 → ∃ w, w ≤ 100000 ∧ σ 0 b 0 = nI w
def ZB4 (σ : S3) : Prop := ∀ i, σ 4 i 0 = 0 ∨ σ 4 i 0 = 1
def ZB14 (σ : S3) : Prop := ∀ b, σ 14 b 0 = 0 ∨ σ 14 b 0 = 1
def FOf (σ : S3) : Prop := ∃ F, F ≤ 60 ∧ σ 20 0 0 = nI F
/-- a member's money: what is left over, what is owed for each month; never both -/
def MNi (k : Nat) (σ : S3) (i : Nat) : Prop := (∃ c, c ≤ 1000000 * k ∧ σ 5 i 0 = nI c) ∧ (∀ m, ∃ w, w ≤ 100000 ∧ σ 7 i m = nI w) ∧ (σ 5 i 0 = 0 ∨ ∀ m, σ 7 i m = 0)
def EOi (σ : S3) (i : Nat) : Prop := (∀ m, m < eo σ i → σ 7 i m = 0) ∧ (eo σ i < 60 → σ 7 i (eo σ i) ≠ 0)
def FRn (n : Nat) (σ : S3) : Prop := ∀ i, n ≤ i → frM σ i
def VBb (σ μ : S3) (b : Nat) : Prop := ∃ X Y : Nat, X < 65536 ∧ Y < 65536 ∧ σ 12 b 0 = nI X ∧ σ 11 b 0 = nI Y ∧ (∀ i, i < 16 → (X.testBit i = true ↔ ¬ μ 15 b i = 0)) ∧ (∀ i, i < 16 → Y.testBit i = true → X.testBit i = true) ∧ bcF (σ 11 b 0) = μ 11 b 0 ∧ bcF (σ 12 b 0) = μ 11 b 0 + μ 12 b 0
/-- all but the day; Z: from which month on nothing is owed yet -/
def Cor (k n : Nat) (Z : Nat → Nat) (σ μ : S3) : Prop := Eq9 σ μ ∧ (n ≤ 16 ∧ nm μ = n) ∧ FOf σ ∧ ZB4 σ ∧ ZB14 σ ∧ ZDu σ ∧ (∀ i, MNi k σ i) ∧ (∀ i, EOi σ i) ∧ (∀ i m, Z i ≤ m → σ 7 i m = 0) ∧ FRn n σ ∧ ∀ b, VBb σ μ b
def Inv (k n : Nat) (σ μ : S3) : Prop := ∃ d, d ≤ 1800 ∧ σ 18 0 0 = nI d ∧ Cor k n (fun _ => d / 30) σ μ
abbrev JJ (k a0 : Nat) : LSt → S3 → Prop := fun u μ => Inv k u.2.2.1 u.2.2.2 μ ∧ u.2.1 0 = a0
section IV
variable {k n : Nat} {Z : Nat → Nat} {σ μ : S3}
theorem Cor.E (h : Cor k n Z σ μ) : Eq9 σ μ := h.1
theorem Cor.n16 (h : Cor k n Z σ μ) : n ≤ 16 := h.2.1.1
theorem Cor.hnm (h : Cor k n Z σ μ) : nm μ = n := h.2.1.2
theorem Cor.hfo (h : Cor k n Z σ μ) : FOf σ := h.2.2.1
theorem Cor.z4 (h : Cor k n Z σ μ) : ZB4 σ := h.2.2.2.1
theorem Cor.z14 (h : Cor k n Z σ μ) : ZB14 σ := h.2.2.2.2.1
theorem Cor.du (h : Cor k n Z σ μ) : ZDu σ := h.2.2.2.2.2.1
theorem Cor.mn (h : Cor k n Z σ μ) : ∀ i, MNi k σ i := h.2.2.2.2.2.2.1
theorem Cor.heo (h : Cor k n Z σ μ) : ∀ i, EOi σ i := h.2.2.2.2.2.2.2.1
theorem Cor.zf (h : Cor k n Z σ μ) : ∀ i m, Z i ≤ m → σ 7 i m = 0 := h.2.2.2.2.2.2.2.2.1
theorem Cor.fr (h : Cor k n Z σ μ) : FRn n σ := h.2.2.2.2.2.2.2.2.2.1
theorem Cor.vb (h : Cor k n Z σ μ) : ∀ b, VBb σ μ b := h.2.2.2.2.2.2.2.2.2.2
theorem Inv.n16 (h : Inv k n σ μ) : n ≤ 16 := h.elim fun _ h => h.2.2.n16
theorem Inv.hnm (h : Inv k n σ μ) : nm μ = n := h.elim fun _ h => h.2.2.hnm
theorem Inv.z4 (h : Inv k n σ μ) : ZB4 σ := h.elim fun _ h => h.2.2.z4
theorem Inv.z14 (h : Inv k n σ μ) : ZB14 σ := h.elim fun _ h => h.2.2.z14
theorem Inv.fr (h : Inv k n σ μ) : FRn n σ := h.elim fun _ h => h.2.2.fr
theorem Inv.E (h : Inv k n σ μ) : Eq9 σ μ := h.elim fun _ h => h.2.2.E
theorem Inv.z4m (h : Inv k n σ μ) (i : Nat) : μ 4 i 0 = 0 ∨ μ 4 i 0 = 1 := by
  have h1 := h.z4 i
  rw [h.E.1.1 4 i 0 rfl] at h1
  exact h1
end IV
