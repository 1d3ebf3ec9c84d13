/-! ===== counting the bits of a mask ===== -/
def pcF (v : Nat → Bool) : Nat → Nat
  | 0 => 0
  | k + 1 => pcF v k + (if v k = true then 1 else 0)
def bn1 (x : Nat) : Nat := x - (x / 2 &&& 1431655765)
def bn2 (x : Nat) : Nat := (x &&& 858993459) + (x / 4 &&& 858993459)
def bn3 (x : Nat) : Nat := (x + x / 16) &&& 252645135
def bn4 (x : Nat) : Nat := x + x / 256
def bn5 (x : Nat) : Nat := x + x / 65536
def bcN (x : Nat) : Nat := bn5 (bn4 (bn3 (bn2 (bn1 x)))) &&& 63
abbrev bcP (x : Nat) : Prop := bcN x = pcF (fun j => x.testBit j) 16
theorem bc_a0 : ∀ a, a < 8 → ∀ b, b < 256 → bcP (256 * (0 + a) + b) := by decide +kernel
theorem bc_a1 : ∀ a, a < 8 → ∀ b, b < 256 → bcP (256 * (8 + a) + b) := by decide +kernel
theorem bc_a2 : ∀ a, a < 8 → ∀ b, b < 256 → bcP (256 * (16 + a) + b) := by decide +kernel
theorem bc_a3 : ∀ a, a < 8 → ∀ b, b < 256 → bcP (256 * (24 + a) + b) := by decide +kernel
theorem bc_a4 : ∀ a, a < 8 → ∀ b, b < 256 → bcP (256 * (32 + a) + b) := by decide +kernel
theorem bc_a5 : ∀ a, a < 8 → ∀ b, b < 256 → bcP (256 * (40 + a) + b) := by decide +kernel
theorem bc_a6 : ∀ a, a < 8 → ∀ b, b < 256 → bcP (256 * (48 + a) + b) := by decide +kernel
theorem bc_a7 : ∀ a, a < 8 → ∀ b, b < 256 → bcP (256 * (56 + a) + b) := by decide +kernel
theorem bc_a8 : ∀ a, a < 8 → ∀ b, b < 256 → bcP (256 * (64 + a) + b) := by decide +kernel
theorem bc_a9 : ∀ a, a < 8 → ∀ b, b < 256 → bcP (256 * (72 + a) + b) := by decide +kernel
theorem bc_a10 : ∀ a, a < 8 → ∀ b, b < 256 → bcP (256 * (80 + a) + b) := by decide +kernel
theorem bc_a11 : ∀ a, a < 8 → ∀ b, b < 256 → bcP (256 * (88 + a) + b) := by decide +kernel
theorem bc_a12 : ∀ a, a < 8 → ∀ b, b < 256 → bcP (256 * (96 + a) + b) := by decide +kernel
theorem bc_a13 : ∀ a, a < 8 → ∀ b, b < 256 → bcP (256 * (104 + a) + b) := by decide +kernel
theorem bc_a14 : ∀ a, a < 8 → ∀ b, b < 256 → bcP (256 * (112 + a) + b) := by decide +kernel
theorem bc_a15 : ∀ a, a < 8 → ∀ b, b < 256 → bcP (256 * (120 + a) + b) := by decide +kernel
theorem bc_a16 : ∀ a, a < 8 → ∀ b, b < 256 → bcP (256 * (128 + a) + b) := by decide +kernel
theorem bc_a17 : ∀ a, a < 8 → ∀ b, b < 256 → bcP (256 * (136 + a) + b) := by decide +kernel
theorem bc_a18 : ∀ a, a < 8 → ∀ b, b < 256 → bcP (256 * (144 + a) + b) := by decide +kernel
theorem bc_a19 : ∀ a, a < 8 → ∀ b, b < 256 → bcP (256 * (152 + a) + b) := by decide +kernel
theorem bc_a20 : ∀ a, a < 8 → ∀ b, b < 256 → bcP (256 * (160 + a) + b) := by decide +kernel
theorem bc_a21 : ∀ a, a < 8 → ∀ b, b < 256 → bcP (256 * (168 + a) + b) := by decide +kernel
theorem bc_a22 : ∀ a, a < 8 → ∀ b, b < 256 → bcP (256 * (176 + a) + b) := by decide +kernel
theorem bc_a23 : ∀ a, a < 8 → ∀ b, b < 256 → bcP (256 * (184 + a) + b) := by decide +kernel
theorem bc_a24 : ∀ a, a < 8 → ∀ b, b < 256 → bcP (256 * (192 + a) + b) := by decide +kernel
theorem bc_a25 : ∀ a, a < 8 → ∀ b, b < 256 → bcP (256 * (200 + a) + b) := by decide +kernel
theorem bc_a26 : ∀ a, a < 8 → ∀ b, b < 256 → bcP (256 * (208 + a) + b) := by decide +kernel
theorem bc_a27 : ∀ a, a < 8 → ∀ b, b < 256 → bcP (256 * (216 + a) + b) := by decide +kernel
theorem bc_a28 : ∀ a, a < 8 → ∀ b, b < 256 → bcP (256 * (224 + a) + b) := by decide +kernel
theorem bc_a29 : ∀ a, a < 8 → ∀ b, b < 256 → bcP (256 * (232 + a) + b) := by decide +kernel
theorem bc_a30 : ∀ a, a < 8 → ∀ b, b < 256 → bcP (256 * (240 + a) + b) := by decide +kernel
theorem bc_a31 : ∀ a, a < 8 → ∀ b, b < 256 → bcP (256 * (248 + a) + b) := by decide +kernel
theorem bc_all {x : Nat} (h : x < 65536) : bcP x := by
  have h0 : x = 256 * (8 * (x / 2048) + x / 256 % 8) + x % 256 := by omega
  have h1 : x / 256 % 8 < 8 := by omega
  have h2 : x % 256 < 256 := by omega
  have h3 : x / 2048 < 32 := by omega
  generalize x / 256 % 8 = a at h0 h1
  generalize x % 256 = b at h0 h2
  generalize x / 2048 = q at h0 h3
  subst h0
  rcases (show q = 0 ∨ q = 1 ∨ q = 2 ∨ q = 3 ∨ q = 4 ∨ q = 5 ∨ q = 6 ∨ q = 7 ∨ q = 8 ∨ q = 9 ∨ q = 10 ∨ q = 11 ∨ q = 12 ∨ q = 13 ∨ q = 14 ∨ q = 15 ∨ q = 16 ∨ q = 17 ∨ q = 18 ∨ q = 19 ∨ q = 20 ∨ q = 21 ∨ q = 22 ∨ q = 23 ∨ q = 24 ∨ q = 25 ∨ q = 26 ∨ q = 27 ∨ q = 28 ∨ q = 29 ∨ q = 30 ∨ q = 31 by omega) with rfl | rfl | rfl | rfl | rfl | rfl | rfl | rfl | rfl | rfl | rfl | rfl | rfl | rfl | rfl | rfl | rfl | rfl | rfl | rfl | rfl | rfl | rfl | rfl | rfl | rfl | rfl | rfl | rfl | rfl | rfl | rfl
  · exact bc_a0 a h1 b h2
  · exact bc_a1 a h1 b h2
  · exact bc_a2 a h1 b h2
  · exact bc_a3 a h1 b h2
  · exact bc_a4 a h1 b h2
  · exact bc_a5 a h1 b h2
  · exact bc_a6 a h1 b h2
  · exact bc_a7 a h1 b h2
  · exact bc_a8 a h1 b h2
  · exact bc_a9 a h1 b h2
  · exact bc_a10 a h1 b h2
  · exact bc_a11 a h1 b h2
  · exact bc_a12 a h1 b h2
  · exact bc_a13 a h1 b h2
  · exact bc_a14 a h1 b h2
  · exact bc_a15 a h1 b h2
  · exact bc_a16 a h1 b h2
  · exact bc_a17 a h1 b h2
  · exact bc_a18 a h1 b h2
  · exact bc_a19 a h1 b h2
  · exact bc_a20 a h1 b h2
  · exact bc_a21 a h1 b h2
  · exact bc_a22 a h1 b h2
  · exact bc_a23 a h1 b h2
  · exact bc_a24 a h1 b h2
  · exact bc_a25 a h1 b h2
  · exact bc_a26 a h1 b h2
  · exact bc_a27 a h1 b h2
  · exact bc_a28 a h1 b h2
  · exact bc_a29 a h1 b h2
  · exact bc_a30 a h1 b h2
  · exact bc_a31 a h1 b h2
theorem and_nI (a b : Nat) : nI a &&& nI b = nI (a &&& b) := by
  apply Int32.toBitVec_inj.1
  show BitVec.ofNat 32 a &&& BitVec.ofNat 32 b = BitVec.ofNat 32 (a &&& b)
  exact BitVec.ofNat_and.symm
theorem or_nI (a b : Nat) : nI a ||| nI b = nI (a ||| b) := by
  apply Int32.toBitVec_inj.1
  show BitVec.ofNat 32 a ||| BitVec.ofNat 32 b = BitVec.ofNat 32 (a ||| b)
  exact BitVec.ofNat_or.symm
theorem bc_nat {x : Nat} (h : x < 65536) : bcF (nI x) = nI (bcN x) := by
  have e1 : bc1 (nI x) = nI (bn1 x) := by
    unfold bc1 bn1 ushr
    rw [pk_ushrN (by omega) 1 1 (by decide), show (1431655765 : Int32) = nI 1431655765 from rfl, and_nI, pk_sub (Nat.le_trans Nat.and_le_left (Nat.div_le_self _ _))]
  have l1 : bn1 x < 65536 := Nat.lt_of_le_of_lt (Nat.sub_le _ _) h
  have e2 : bc2 (nI (bn1 x)) = nI (bn2 (bn1 x)) := by
    unfold bc2 bn2 ushr
    rw [pk_ushrN (by omega) 2 2 (by decide), show (858993459 : Int32) = nI 858993459 from rfl, and_nI, and_nI, nI_add]
  have l2 : bn2 (bn1 x) < 131072 := by
    unfold bn2
    have h1 : bn1 x &&& 858993459 ≤ bn1 x := Nat.and_le_left
    have h2 : bn1 x / 2 ^ 2 &&& 858993459 ≤ bn1 x / 2 ^ 2 := Nat.and_le_left
    have h3 : bn1 x / 2 ^ 2 ≤ bn1 x := Nat.div_le_self _ _
    show (bn1 x &&& 858993459) + (bn1 x / 2 ^ 2 &&& 858993459) < 131072
    omega
  have e3 : bc3 (nI (bn2 (bn1 x))) = nI (bn3 (bn2 (bn1 x))) := by
    unfold bc3 bn3 ushr
    rw [pk_ushrN (by omega) 4 4 (by decide), show (252645135 : Int32) = nI 252645135 from rfl, nI_add, and_nI]
  have l3 : bn3 (bn2 (bn1 x)) < 1000000 := by
    have h1 : (bn2 (bn1 x) + bn2 (bn1 x) / 16) &&& 252645135 ≤ bn2 (bn1 x) + bn2 (bn1 x) / 16 := Nat.and_le_left
    have h2 : bn3 (bn2 (bn1 x)) ≤ bn2 (bn1 x) + bn2 (bn1 x) / 16 := h1
    omega
  have e4 : bc4 (nI (bn3 (bn2 (bn1 x)))) = nI (bn4 (bn3 (bn2 (bn1 x)))) := by
    unfold bc4 bn4 ushr
    rw [pk_ushrN (by omega) 8 8 (by decide), nI_add]
  have l4 : bn4 (bn3 (bn2 (bn1 x))) < 3000000 := by
    unfold bn4
    omega
  have e5 : bc5 (nI (bn4 (bn3 (bn2 (bn1 x))))) = nI (bn5 (bn4 (bn3 (bn2 (bn1 x))))) := by
    unfold bc5 bn5 ushr
    rw [pk_ushrN (by omega) 16 16 (by decide), nI_add]
  unfold bcF bcN
  rw [e1, e2, e3, e4, e5, show (63 : Int32) = nI 63 from rfl, and_nI]
theorem bc_pc {x : Nat} (h : x < 65536) : bcF (nI x) = nI (pcF (fun j => x.testBit j) 16) := by
  rw [bc_nat h, bc_all h]
theorem pcF_congr {u v : Nat → Bool} : ∀ k, (∀ j, j < k → u j = v j) → pcF u k = pcF v k
  | 0, _ => rfl
  | k + 1, h => by
    show pcF u k + (if u k = true then 1 else 0) = pcF v k + (if v k = true then 1 else 0)
    rw [pcF_congr k (fun j hj => h j (by omega)), h k (by omega)]
theorem pcF_up {u v : Nat → Bool} {i : Nat} (hu : u i = false) (hv : v i = true) (ho : ∀ j, j ≠ i → v j = u j) : ∀ k, i < k → pcF v k = pcF u k + 1
  | 0, h => absurd h (Nat.not_lt_zero i)
  | k + 1, h => by
    show pcF v k + (if v k = true then 1 else 0) = pcF u k + (if u k = true then 1 else 0) + 1
    by_cases e : i = k
    · subst e
      rw [hu, hv, pcF_congr i (fun j hj => ho j (by omega))]
      rfl
    · rw [pcF_up hu hv ho k (by omega), ho k (by omega)]
      omega
theorem tb_or {x i j : Nat} : (x ||| 2 ^ i).testBit j = (x.testBit j || decide (i = j)) := by
  rw [Nat.testBit_or, Nat.testBit_two_pow]
theorem bc_bit {x i : Nat} (h : x < 65536) (hi : i < 16) (hb : x.testBit i = false) : bcF (nI (x ||| 2 ^ i)) = bcF (nI x) + 1 := by
  have h2 : x ||| 2 ^ i < 65536 := Nat.or_lt_two_pow (n := 16) h (Nat.pow_lt_pow_right (by decide) hi)
  rw [bc_pc h, bc_pc h2, pcF_up (u := fun j => x.testBit j) (v := fun j => (x ||| 2 ^ i).testBit j) hb (by show (x ||| 2 ^ i).testBit i = true; rw [tb_or]; simp) (fun j hj => by show (x ||| 2 ^ i).testBit j = x.testBit j; rw [tb_or]; simp [Ne.symm hj]) 16 hi, nI_1]
theorem bit_nI {i : Nat} (hi : i < 16) : bitI i = nI (2 ^ i) := by
  rcases (show i = 0 ∨ i = 1 ∨ i = 2 ∨ i = 3 ∨ i = 4 ∨ i = 5 ∨ i = 6 ∨ i = 7 ∨ i = 8 ∨ i = 9 ∨ i = 10 ∨ i = 11 ∨ i = 12 ∨ i = 13 ∨ i = 14 ∨ i = 15 by omega) with rfl | rfl | rfl | rfl | rfl | rfl | rfl | rfl | rfl | rfl | rfl | rfl | rfl | rfl | rfl | rfl <;> decide +kernel
theorem and_bit (x i : Nat) : x &&& 2 ^ i = 0 ↔ x.testBit i = false := by
  have ht : ∀ j, (x &&& 2 ^ i).testBit j = (x.testBit j && decide (i = j)) := fun j => by rw [Nat.testBit_and, Nat.testBit_two_pow]
  constructor
  · intro h
    have h1 := ht i
    rw [h, Nat.zero_testBit, decide_eq_true rfl, Bool.and_true] at h1
    exact h1.symm
  · intro h
    apply Nat.eq_of_testBit_eq
    intro j
    rw [ht j, Nat.zero_testBit]
    by_cases e : i = j
    · rw [← e, h]
      rfl
    · rw [decide_eq_false e, Bool.and_false]
theorem bit_and {x i : Nat} (h : x < 65536) (hi : i < 16) : (nI x &&& bitI i = 0) ↔ x.testBit i = false := by
  have hl : x &&& 2 ^ i < 2 ^ 31 := Nat.lt_of_le_of_lt Nat.and_le_left (by omega)
  rw [bit_nI hi, and_nI, show (0 : Int32) = nI 0 from rfl, nI_eq hl (by decide)]
  exact and_bit x i
