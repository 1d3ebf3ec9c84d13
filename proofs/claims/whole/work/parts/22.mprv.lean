/-! ===== the reference: tests, sums, laying ===== -/
def stmF (σ : S3) (i : Nat) : Nat → Int32
  | 0 => if σ 3 i 0 = 0 then 1 else 0
  | m + 1 => if stmF σ i m = 0 then 0 else if σ 7 i m = 0 then 1 else if 30 * (nI m + 1) + 60 ≤ nI (nw σ) then 0 else 1
theorem stmF_01 (σ : S3) (i m : Nat) : stmF σ i m = 0 ∨ stmF σ i m = 1 := by
  cases m with
  | zero => unfold stmF; split <;> first | exact Or.inl rfl | exact Or.inr rfl
  | succ m => unfold stmF; split <;> first | exact Or.inl rfl | (split <;> first | exact Or.inr rfl | (split <;> first | exact Or.inl rfl | exact Or.inr rfl))
theorem stmF_0 (σ : S3) (i m : Nat) (h : stmF σ i m = 0) : ∀ k, stmF σ i (m + k) = 0
  | 0 => h
  | k + 1 => by
    show (if stmF σ i (m + k) = 0 then (0 : Int32) else _) = 0
    rw [if_pos (stmF_0 σ i m h k)]
def stmI (σ : S3) (i : Nat) : Int32 := stmF σ i 60
theorem stmI_01 (σ : S3) (i : Nat) : stmI σ i = 0 ∨ stmI σ i = 1 := stmF_01 σ i 60
def cntM (σ : S3) (x : Int32) : Nat → Int32
  | 0 => 0
  | j + 1 => if nI (br σ j) = x ∧ ¬ stmI σ j = 0 then cntM σ x j + 1 else cntM σ x j + 0
def smF (f : Nat → Int32) : Nat → Int32
  | 0 => 0
  | k + 1 => smF f k + f k
def owM (σ : S3) (i : Nat) : Int32 := smF (σ 7 i) 60
def imc (x y : Int32) : Int32 := if y ≤ x then y else x
def mlS (σ : S3) (i m : Nat) : S3 :=
  su (su (su (su (su σ 5 i 0 (σ 5 i 0 - imc (σ 5 i 0) (σ 7 i m))) 7 i m (σ 7 i m - imc (σ 5 i 0) (σ 7 i m))) 8 i m (σ 8 i m + imc (σ 5 i 0) (σ 7 i m))) 9 (br σ i) m (σ 9 (br σ i) m + imc (σ 5 i 0) (σ 7 i m))) 19 0 0 (σ 19 0 0 + imc (σ 5 i 0) (σ 7 i m) / 5)
def mlF (σ : S3) (i : Nat) : Nat → S3
  | 0 => σ
  | m + 1 => mlS (mlF σ i m) i m
def mlA (σ : S3) (i : Nat) : S3 := mlF σ i 60
theorem nm_mlF (σ : S3) (i : Nat) : ∀ m, nm (mlF σ i m) = nm σ
  | 0 => rfl
  | m + 1 => by
    show nm (mlS (mlF σ i m) i m) = nm σ
    unfold mlS
    rw [nm_suk (by decide), nm_suk (by decide), nm_suk (by decide), nm_suk (by decide), nm_suk (by decide), nm_mlF σ i m]
theorem nw_mlF (σ : S3) (i : Nat) : ∀ m, nw (mlF σ i m) = nw σ
  | 0 => rfl
  | m + 1 => by
    show nw (mlS (mlF σ i m) i m) = nw σ
    unfold mlS
    rw [nw_suk (by decide), nw_suk (by decide), nw_suk (by decide), nw_suk (by decide), nw_suk (by decide), nw_mlF σ i m]
theorem nm_mlA (σ : S3) (i : Nat) : nm (mlA σ i) = nm σ := nm_mlF σ i 60
theorem nw_mlA (σ : S3) (i : Nat) : nw (mlA σ i) = nw σ := nw_mlF σ i 60
theorem lnm {j k : Nat} (hj : j < 2 ^ 31) (hk : k < 2 ^ 31) : ¬ nI k ≤ nI j ↔ j < k := by
  rw [nI_leI hk hj]
  omega
abbrev rmX4_in : Room := { frames := 0, cells := 0, slots := 0, locals := 0 }
set_option maxHeartbeats 1000000 in
set_option maxRecDepth 100000 in
/-- in -/
theorem c_X4_in (l : Launch) (D : va_G) (cy : Nat → ClassId) (ad : Nat → Nat) (σ : S3) (x0 x1 x2 : Int32) : MM l yX4_in wsX4_in rmX4_in D cy ad [.int x0, .int x1, .int x2] σ (xPi fun r u => u = σ ∧ r = bI (rgI x0 x1 x2)) := by
  refine xs_M (cc := cX4_in) (maxL := 3) (ret := (some .boolean)) (by decide +kernel) rfl (Nat.le_of_ble_eq_true rfl) ?_
  intro p e s m below meth c ls S hr hlocks hnm hw hX hl
  have S : CallFix p m c cX4_in 3 s [.int x0, .int x1, .int x2].toArray wsX4_in RX4 := S
  have hx := S.1
  have hb := S.2.1
  have hts := S.2.2.2.2
  have hl : lv_has ls 3 [(0, .int x0), (1, .int x1), (2, .int x2)] := hl
  have hnm16 := nm_le σ
  have hnw18 := nw_le σ
  refine lv_iload_n hx hb dX4_in_0 rfl (lv_at hl 0 rfl) ?_
  refine lv_iload_n hx hb dX4_in_1 rfl (lv_at hl 1 rfl) ?_
  refine lv_icmp_lt (tgt := 14) hx hb dX4_in_2 (by decide) (fun c1 => ?_) (fun c1 => ?_)
  · refine lv_iconst (v := 0) hx hb dX4_in_14 (by decide) ?_
    exact xe_z S.1 S.2.1 hr (Or.inl rfl) hlocks hw (⟨rfl, by simp [bI, rgI, c1]⟩) (Nat.le_of_ble_eq_true rfl) (Nat.le_of_ble_eq_true rfl) dX4_in_15
  · refine lv_iload_n hx hb dX4_in_5 rfl (lv_at hl 0 rfl) ?_
    refine lv_iload_n hx hb dX4_in_6 rfl (lv_at hl 2 rfl) ?_
    refine lv_icmp_gt (tgt := 14) hx hb dX4_in_7 (by decide) (fun c2 => ?_) (fun c2 => ?_)
    · refine lv_iconst (v := 0) hx hb dX4_in_14 (by decide) ?_
      exact xe_z S.1 S.2.1 hr (Or.inl rfl) hlocks hw (⟨rfl, by simp [bI, rgI, c1, c2]⟩) (Nat.le_of_ble_eq_true rfl) (Nat.le_of_ble_eq_true rfl) dX4_in_15
    · refine lv_iconst (v := 1) hx hb dX4_in_10 (by decide) ?_
      refine lv_goto (tgt := 15) hx hb dX4_in_11 (by decide) ?_
      exact xe_z S.1 S.2.1 hr (Or.inr rfl) hlocks hw (⟨rfl, by simp [bI, rgI, c1, c2]⟩) (Nat.le_of_ble_eq_true rfl) (Nat.le_of_ble_eq_true rfl) dX4_in_15
theorem bI_c {P P2 : Prop} [Decidable P] [Decidable P2] (h : P ↔ P2) : bI P = bI P2 := by
  unfold bI
  by_cases q : P
  · rw [if_pos q, if_pos (h.mp q)]
  · rw [if_neg q, if_neg (fun z => q (h.mpr z))]
abbrev rmX4_isMember : Room := { frames := 1, cells := 0, slots := 0, locals := 22 }
theorem inX4_isMember_X4 : (∀ w ∈ wsX40, w ∈ wsX4_isMember) := by decide +kernel
set_option maxHeartbeats 1000000 in
set_option maxRecDepth 100000 in
/-- isMember -/
theorem c_X4_isMember (l : Launch) (D : va_G) (cy : Nat → ClassId) (ad : Nat → Nat) (σ : S3) (x0 : Int32) : MM l yX4_isMember wsX4_isMember rmX4_isMember D cy ad [.ref (ad 0), .int x0] σ (xPi fun r u => u = σ ∧ r = bI (inI x0 (nm σ))) := by
  refine xs_M (cc := cX4_isMember) (maxL := 2) (ret := (some .boolean)) (by decide +kernel) rfl (Nat.le_of_ble_eq_true rfl) ?_
  intro p e s m below meth c ls S hr hlocks hnm hw hX hl
  have S : CallFix p m c cX4_isMember 2 s [.ref (ad 0), .int x0].toArray wsX4_isMember RX4 := S
  have hx := S.1
  have hb := S.2.1
  have hts := S.2.2.2.2
  have hl : lv_has ls 2 [(0, .ref (ad 0)), (1, .int x0)] := hl
  have hnm16 := nm_le σ
  have hnw18 := nw_le σ
  refine lv_iload_n hx hb dX4_isMember_0 rfl (lv_at hl 1 rfl) ?_
  refine lv_iconst (v := 0) hx hb dX4_isMember_1 (by decide) ?_
  refine lv_aload_n hx hb dX4_isMember_2 rfl (lv_at hl 0 rfl) ?_
  refine xr_get S hw (j := 5) (by decide) rfl rfl inX4_isMember_X4 (by decide) (hts (.fieldLink RX4 72 "UnionOfficeModel" "memberMany" "I") (by decide +kernel)) rfl dX4_isMember_3 ?_
  refine lv_iconst (v := 1) hx hb dX4_isMember_6 (by decide) ?_
  refine lv_isub hx hb dX4_isMember_7 ?_
  refine xc_Mi hw (va_runS (As := [.int x0, .int 0, .int ((nI (nm σ)) - 1)]) (rest := []) S (c_X4_in l D cy ad σ x0 0 ((nI (nm σ)) - 1) _) (va_cwS 3 S.2.2.2.2 gX4_isMember_X4_in rfl rfl rfl (by decide +kernel) ⟨Nat.le_of_ble_eq_true rfl, Nat.le_of_ble_eq_true rfl⟩) (xc_preS (XOK.tt _ _) hX hw _) rfl rfl hl.1 rfl (lv_room (Nat.le_of_ble_eq_true rfl)) dX4_isMember_8 ⟨Nat.le_of_ble_eq_true rfl, Nat.le_of_ble_eq_true rfl⟩) (fun r9 u H locs hp hw => ?_)
  obtain ⟨hu9, hr9⟩ := hp
  rw [hu9] at hw
  rw [hr9]
  clear hu9 hr9
  exact xe_z S.1 S.2.1 hr (bI_01 _) hlocks hw (⟨rfl, bI_c (rg_in (by omega))⟩) (Nat.le_of_ble_eq_true rfl) (Nat.le_of_ble_eq_true rfl) dX4_isMember_11
abbrev rmX4_isBranch : Room := { frames := 1, cells := 0, slots := 0, locals := 22 }
set_option maxHeartbeats 1000000 in
set_option maxRecDepth 100000 in
/-- isBranch -/
theorem c_X4_isBranch (l : Launch) (D : va_G) (cy : Nat → ClassId) (ad : Nat → Nat) (σ : S3) (x0 : Int32) : MM l yX4_isBranch wsX4_isBranch rmX4_isBranch D cy ad [.int x0] σ (xPi fun r u => u = σ ∧ r = bI (inI x0 4)) := by
  refine xs_M (cc := cX4_isBranch) (maxL := 1) (ret := (some .boolean)) (by decide +kernel) rfl (Nat.le_of_ble_eq_true rfl) ?_
  intro p e s m below meth c ls S hr hlocks hnm hw hX hl
  have S : CallFix p m c cX4_isBranch 1 s [.int x0].toArray wsX4_isBranch RX4 := S
  have hx := S.1
  have hb := S.2.1
  have hts := S.2.2.2.2
  have hl : lv_has ls 1 [(0, .int x0)] := hl
  have hnm16 := nm_le σ
  have hnw18 := nw_le σ
  refine lv_iload_n hx hb dX4_isBranch_0 rfl (lv_at hl 0 rfl) ?_
  refine lv_iconst (v := 0) hx hb dX4_isBranch_1 (by decide) ?_
  refine lv_iconst (v := 3) hx hb dX4_isBranch_2 (by decide) ?_
  refine xc_Mi hw (va_runS (As := [.int x0, .int 0, .int 3]) (rest := []) S (c_X4_in l D cy ad σ x0 0 3 _) (va_cwS 3 S.2.2.2.2 gX4_isBranch_X4_in rfl rfl rfl (by decide +kernel) ⟨Nat.le_of_ble_eq_true rfl, Nat.le_of_ble_eq_true rfl⟩) (xc_preS (XOK.tt _ _) hX hw _) rfl rfl hl.1 rfl (lv_room (Nat.le_of_ble_eq_true rfl)) dX4_isBranch_3 ⟨Nat.le_of_ble_eq_true rfl, Nat.le_of_ble_eq_true rfl⟩) (fun r9 u H locs hp hw => ?_)
  obtain ⟨hu9, hr9⟩ := hp
  rw [hu9] at hw
  rw [hr9]
  clear hu9 hr9
  exact xe_z S.1 S.2.1 hr (bI_01 _) hlocks hw (⟨rfl, bI_c (rg_in (k := 4) (by decide))⟩) (Nat.le_of_ble_eq_true rfl) (Nat.le_of_ble_eq_true rfl) dX4_isBranch_6
abbrev rmX4_isBand : Room := { frames := 1, cells := 0, slots := 0, locals := 22 }
set_option maxHeartbeats 1000000 in
set_option maxRecDepth 100000 in
/-- isBand -/
theorem c_X4_isBand (l : Launch) (D : va_G) (cy : Nat → ClassId) (ad : Nat → Nat) (σ : S3) (x0 : Int32) : MM l yX4_isBand wsX4_isBand rmX4_isBand D cy ad [.int x0] σ (xPi fun r u => u = σ ∧ r = bI (inI x0 3)) := by
  refine xs_M (cc := cX4_isBand) (maxL := 1) (ret := (some .boolean)) (by decide +kernel) rfl (Nat.le_of_ble_eq_true rfl) ?_
  intro p e s m below meth c ls S hr hlocks hnm hw hX hl
  have S : CallFix p m c cX4_isBand 1 s [.int x0].toArray wsX4_isBand RX4 := S
  have hx := S.1
  have hb := S.2.1
  have hts := S.2.2.2.2
  have hl : lv_has ls 1 [(0, .int x0)] := hl
  have hnm16 := nm_le σ
  have hnw18 := nw_le σ
  refine lv_iload_n hx hb dX4_isBand_0 rfl (lv_at hl 0 rfl) ?_
  refine lv_iconst (v := 0) hx hb dX4_isBand_1 (by decide) ?_
  refine lv_iconst (v := 2) hx hb dX4_isBand_2 (by decide) ?_
  refine xc_Mi hw (va_runS (As := [.int x0, .int 0, .int 2]) (rest := []) S (c_X4_in l D cy ad σ x0 0 2 _) (va_cwS 3 S.2.2.2.2 gX4_isBand_X4_in rfl rfl rfl (by decide +kernel) ⟨Nat.le_of_ble_eq_true rfl, Nat.le_of_ble_eq_true rfl⟩) (xc_preS (XOK.tt _ _) hX hw _) rfl rfl hl.1 rfl (lv_room (Nat.le_of_ble_eq_true rfl)) dX4_isBand_3 ⟨Nat.le_of_ble_eq_true rfl, Nat.le_of_ble_eq_true rfl⟩) (fun r9 u H locs hp hw => ?_)
  obtain ⟨hu9, hr9⟩ := hp
  rw [hu9] at hw
  rw [hr9]
  clear hu9 hr9
  exact xe_z S.1 S.2.1 hr (bI_01 _) hlocks hw (⟨rfl, bI_c (rg_in (k := 3) (by decide))⟩) (Nat.le_of_ble_eq_true rfl) (Nat.le_of_ble_eq_true rfl) dX4_isBand_6
theorem inX4_stands_X4 : (∀ w ∈ wsX40, w ∈ wsX4_stands) := by decide +kernel
set_option maxHeartbeats 1000000 in
set_option maxRecDepth 100000 in
theorem lp_X4_stands {p : Program} {l : Launch} {e : Env} {R : Room} {s : State} {m : MethodId} {args : Array Value} {below : List Frame} {meth : Method} {c : Code} {cells slots : Nat} {Q : State → Prop} (S : CallFix p m c cX4_stands 4 s args wsX4_stands RX4) {D : va_G} {cy : Nat → ClassId} {ad : Nat → Nat} {σ : S3} {i : Nat} (hi : i < 16) : ∀ (k : Nat) (j : Nat) (acc : Int32) (H : Heap) (locs : List Loc) (ls : Array Slot), 60 - j < k → j ≤ 60 → acc = stmF σ i j → MW D cy s ad σ H locs → lv_has ls 4 [(0, .ref (ad 0)), (1, .int (nI i)), (2, .int acc), (3, .int (nI j))] → (∀ (r : Int32) (H : Heap) (locs : List Loc) (ls : Array Slot), r = stmI σ i → MW D cy s ad σ H locs → lv_has ls 4 [(0, .ref (ad 0)), (2, .int r)] → W p l e R s m args below meth c H locs cells slots Q (F0 m 69 ls [])) → W p l e R s m args below meth c H locs cells slots Q (F0 m 17 ls []) := by
  have hx := S.1
  have hb := S.2.1
  have hts := S.2.2.2.2
  intro k
  induction k with
  | zero => intro j acc H locs ls hk; exact absurd hk (Nat.not_lt_zero _)
  | succ k ih =>
    intro j acc H locs ls hk hj hacc hw hl kk
    refine lv_iload_n hx hb dX4_stands_17 rfl (lv_at hl 3 rfl) ?_
    refine lv_bipush (v := 60) hx hb dX4_stands_18 (by decide) ?_
    refine lv_icmp_ge (tgt := 69) hx hb dX4_stands_20 (by decide) (fun c1 => ?_) (fun c1 => ?_)
    · have hj6 : j = 60 := by
        rcases Nat.lt_or_ge j 60 with q | q
        · exact absurd c1 ((lt60 (by omega)).mpr q)
        · omega
      exact kk acc H locs ls (by rw [hacc, hj6]; rfl) hw (lv_sub hl [0, 2] rfl)
    · have hj6 : j < 60 := (lt60 (by omega)).mp c1
      refine lv_iload_n hx hb dX4_stands_23 rfl (lv_at hl 2 rfl) ?_
      refine lv_if_eq (tgt := 69) hx hb dX4_stands_24 (by decide) (fun c2 => ?_) (fun c2 => ?_)
      · exact kk acc H locs ls (by rw [c2]; rw [hacc] at c2; unfold stmI; have h9 := stmF_0 σ i j c2 (60 - j); rw [show j + (60 - j) = 60 by omega] at h9; exact h9.symm) hw (lv_sub hl [0, 2] rfl)
      · refine lv_aload_n hx hb dX4_stands_27 rfl (lv_at hl 0 rfl) ?_
        refine xr_get S hw (j := 12) (by decide) rfl rfl inX4_stands_X4 (by decide) (hts (.fieldLink RX4 32 "UnionOfficeModel" "debts" "[I") (by decide +kernel)) rfl dX4_stands_28 ?_
        refine lv_bipush (v := 60) hx hb dX4_stands_31 (by decide) ?_
        refine lv_iload_n hx hb dX4_stands_33 rfl (lv_at hl 1 rfl) ?_
        refine lv_imul hx hb dX4_stands_34 ?_
        refine lv_iload_n hx hb dX4_stands_35 rfl (lv_at hl 3 rfl) ?_
        refine lv_iadd hx hb dX4_stands_36 ?_
        rw [show ((60 * (nI i)) + (nI j)) = nI (60 * i + j) from mulN 60 i j]
        refine xv_iald S hw (t0 := 0) (v := σ 7 i j) (by decide) rfl rfl (by omega) (by decide) (fl60 _ (by omega)) dX4_stands_37 ?_
        refine lv_if_eq (tgt := 57) hx hb dX4_stands_38 (by decide) (fun c3 => ?_) (fun c3 => ?_)
        · refine lv_iconst (v := 1) hx hb dX4_stands_57 (by decide) ?_
          refine lv_goto (tgt := 62) hx hb dX4_stands_58 (by decide) ?_
          refine lv_istore_n (lv' := [(2, .int 1), (0, .ref (ad 0)), (1, .int (nI i)), (3, .int (nI j))]) hx hb dX4_stands_62 rfl hl (by decide) rfl (fun ls hl => ?_)
          refine lv_iinc (v := nI (j + 1)) (lv' := [(3, .int (nI (j + 1))), (2, .int 1), (0, .ref (ad 0)), (1, .int (nI i))]) hx hb dX4_stands_63 hl (k := 3) rfl (nI_1 j) (by decide) rfl (fun ls hl => ?_)
          refine lv_goto (tgt := 17) hx hb dX4_stands_66 (by decide) ?_
          exact ih (j + 1) 1 H locs ls (by omega) (by omega) (by rw [hacc] at c2; exact ((if_neg c2).trans (if_pos c3)).symm) hw (lv_sub hl [2, 3, 1, 0] rfl) kk
        · refine lv_aload_n hx hb dX4_stands_41 rfl (lv_at hl 0 rfl) ?_
          refine xr_get S hw (j := 2) (by decide) rfl rfl inX4_stands_X4 (by decide) (hts (.fieldLink RX4 79 "UnionOfficeModel" "now" "I") (by decide +kernel)) rfl dX4_stands_42 ?_
          refine lv_bipush (v := 30) hx hb dX4_stands_45 (by decide) ?_
          refine lv_iload_n hx hb dX4_stands_47 rfl (lv_at hl 3 rfl) ?_
          refine lv_iconst (v := 1) hx hb dX4_stands_48 (by decide) ?_
          refine lv_iadd hx hb dX4_stands_49 ?_
          refine lv_imul hx hb dX4_stands_50 ?_
          refine lv_bipush (v := 60) hx hb dX4_stands_51 (by decide) ?_
          refine lv_iadd hx hb dX4_stands_53 ?_
          refine lv_icmp_ge (tgt := 61) hx hb dX4_stands_54 (by decide) (fun c4 => ?_) (fun c4 => ?_)
          · refine lv_iconst (v := 0) hx hb dX4_stands_61 (by decide) ?_
            refine lv_istore_n (lv' := [(2, .int 0), (0, .ref (ad 0)), (1, .int (nI i)), (3, .int (nI j))]) hx hb dX4_stands_62 rfl hl (by decide) rfl (fun ls hl => ?_)
            refine lv_iinc (v := nI (j + 1)) (lv' := [(3, .int (nI (j + 1))), (2, .int 0), (0, .ref (ad 0)), (1, .int (nI i))]) hx hb dX4_stands_63 hl (k := 3) rfl (nI_1 j) (by decide) rfl (fun ls hl => ?_)
            refine lv_goto (tgt := 17) hx hb dX4_stands_66 (by decide) ?_
            exact ih (j + 1) 0 H locs ls (by omega) (by omega) (by rw [hacc] at c2; exact (((if_neg c2).trans (if_neg c3)).trans (if_pos c4)).symm) hw (lv_sub hl [2, 3, 1, 0] rfl) kk
          · refine lv_iconst (v := 1) hx hb dX4_stands_57 (by decide) ?_
            refine lv_goto (tgt := 62) hx hb dX4_stands_58 (by decide) ?_
            refine lv_istore_n (lv' := [(2, .int 1), (0, .ref (ad 0)), (1, .int (nI i)), (3, .int (nI j))]) hx hb dX4_stands_62 rfl hl (by decide) rfl (fun ls hl => ?_)
            refine lv_iinc (v := nI (j + 1)) (lv' := [(3, .int (nI (j + 1))), (2, .int 1), (0, .ref (ad 0)), (1, .int (nI i))]) hx hb dX4_stands_63 hl (k := 3) rfl (nI_1 j) (by decide) rfl (fun ls hl => ?_)
            refine lv_goto (tgt := 17) hx hb dX4_stands_66 (by decide) ?_
            exact ih (j + 1) 1 H locs ls (by omega) (by omega) (by rw [hacc] at c2; exact (((if_neg c2).trans (if_neg c3)).trans (if_neg c4)).symm) hw (lv_sub hl [2, 3, 1, 0] rfl) kk
abbrev rmX4_stands : Room := { frames := 0, cells := 0, slots := 0, locals := 0 }
set_option maxHeartbeats 1000000 in
set_option maxRecDepth 100000 in
/-- stands -/
theorem c_X4_stands (l : Launch) (D : va_G) (cy : Nat → ClassId) (ad : Nat → Nat) (σ : S3) (i : Nat) (hi : i < 16) : MM l yX4_stands wsX4_stands rmX4_stands D cy ad [.ref (ad 0), .int (nI i)] σ (xPi fun r u => u = σ ∧ r = stmI σ i) := by
  refine xs_M (cc := cX4_stands) (maxL := 4) (ret := (some .boolean)) (by decide +kernel) rfl (Nat.le_of_ble_eq_true rfl) ?_
  intro p e s m below meth c ls S hr hlocks hnm hw hX hl
  have S : CallFix p m c cX4_stands 4 s [.ref (ad 0), .int (nI i)].toArray wsX4_stands RX4 := S
  have hx := S.1
  have hb := S.2.1
  have hts := S.2.2.2.2
  have hl : lv_has ls 4 [(0, .ref (ad 0)), (1, .int (nI i))] := hl
  have hnm16 := nm_le σ
  have hnw18 := nw_le σ
  refine lv_aload_n hx hb dX4_stands_0 rfl (lv_at hl 0 rfl) ?_
  refine xr_get S hw (j := 8) (by decide) rfl rfl inX4_stands_X4 (by decide) (hts (.fieldLink RX4 19 "UnionOfficeModel" "hasLeft" "[Z") (by decide +kernel)) rfl dX4_stands_1 ?_
  refine lv_iload_n hx hb dX4_stands_4 rfl (lv_at hl 1 rfl) ?_
  refine xv_zald S hw (t0 := 1) (v := σ 3 i 0) (by decide) rfl rfl (by omega) (by decide) rfl dX4_stands_5 ?_
  refine lv_if_ne (tgt := 13) hx hb dX4_stands_6 (by decide) (fun c1 => ?_) (fun c1 => ?_)
  · refine lv_iconst (v := 0) hx hb dX4_stands_13 (by decide) ?_
    refine lv_istore_n (lv' := [(2, .int 0), (0, .ref (ad 0)), (1, .int (nI i))]) hx hb dX4_stands_14 rfl hl (by decide) rfl (fun ls hl => ?_)
    refine lv_iconst (v := 0) hx hb dX4_stands_15 (by decide) ?_
    refine lv_istore_n (lv' := [(3, .int 0), (2, .int 0), (0, .ref (ad 0)), (1, .int (nI i))]) hx hb dX4_stands_16 rfl hl (by decide) rfl (fun ls hl => ?_)
    refine lp_X4_stands S hi 61 0 0 _ _ ls (by omega) (by omega) (if_neg c1).symm hw (lv_sub hl [2, 3, 1, 0] rfl) (fun r H locs ls hr9 hw hl => ?_)
    refine lv_iload_n hx hb dX4_stands_69 rfl (lv_at hl 1 rfl) ?_
    exact xe_z S.1 S.2.1 hr (by rw [hr9]; exact stmI_01 _ _) hlocks hw (⟨rfl, hr9⟩) (Nat.le_of_ble_eq_true rfl) (Nat.le_of_ble_eq_true rfl) dX4_stands_70
  · refine lv_iconst (v := 1) hx hb dX4_stands_9 (by decide) ?_
    refine lv_goto (tgt := 14) hx hb dX4_stands_10 (by decide) ?_
    refine lv_istore_n (lv' := [(2, .int 1), (0, .ref (ad 0)), (1, .int (nI i))]) hx hb dX4_stands_14 rfl hl (by decide) rfl (fun ls hl => ?_)
    refine lv_iconst (v := 0) hx hb dX4_stands_15 (by decide) ?_
    refine lv_istore_n (lv' := [(3, .int 0), (2, .int 1), (0, .ref (ad 0)), (1, .int (nI i))]) hx hb dX4_stands_16 rfl hl (by decide) rfl (fun ls hl => ?_)
    refine lp_X4_stands S hi 61 0 1 _ _ ls (by omega) (by omega) (if_pos c1).symm hw (lv_sub hl [2, 3, 1, 0] rfl) (fun r H locs ls hr9 hw hl => ?_)
    refine lv_iload_n hx hb dX4_stands_69 rfl (lv_at hl 1 rfl) ?_
    exact xe_z S.1 S.2.1 hr (by rw [hr9]; exact stmI_01 _ _) hlocks hw (⟨rfl, hr9⟩) (Nat.le_of_ble_eq_true rfl) (Nat.le_of_ble_eq_true rfl) dX4_stands_70
abbrev rmX4_standing : Room := { frames := 1, cells := 0, slots := 0, locals := 23 }
theorem inX4_standing_X4 : (∀ w ∈ wsX40, w ∈ wsX4_standing) := by decide +kernel
set_option maxHeartbeats 1000000 in
set_option maxRecDepth 100000 in
theorem lp_X4_standing {p : Program} {l : Launch} {e : Env} {s : State} {m : MethodId} {args : Array Value} {below : List Frame} {meth : Method} {c : Code} {Q : State → Prop} (S : CallFix p m c cX4_standing 4 s args wsX4_standing RX4) {D : va_G} {cy : Nat → ClassId} {ad : Nat → Nat} {σ : S3} {x1 : Int32} (hX : True) : ∀ (k : Nat) (j : Nat) (acc : Int32) (H : Heap) (locs : List Loc) (ls : Array Slot), nm σ - j < k → j ≤ nm σ → acc = cntM σ x1 j → MW D cy s ad σ H locs → lv_has ls 4 [(0, .ref (ad 0)), (1, .int x1), (2, .int acc), (3, .int (nI j))] → (∀ (r : Int32) (H : Heap) (locs : List Loc) (ls : Array Slot), r = cntM σ x1 (nm σ) → MW D cy s ad σ H locs → lv_has ls 4 [(0, .ref (ad 0)), (2, .int r)] → W p l e rmX4_standing s m args below meth c H locs 0 0 Q (F0 m 44 ls [])) → W p l e rmX4_standing s m args below meth c H locs 0 0 Q (F0 m 4 ls []) := by
  have hx := S.1
  have hb := S.2.1
  have hts := S.2.2.2.2
  intro k
  induction k with
  | zero => intro j acc H locs ls hk; exact absurd hk (Nat.not_lt_zero _)
  | succ k ih =>
    intro j acc H locs ls hk hj hacc hw hl kk
    refine lv_iload_n hx hb dX4_standing_4 rfl (lv_at hl 3 rfl) ?_
    refine lv_aload_n hx hb dX4_standing_5 rfl (lv_at hl 0 rfl) ?_
    refine xr_get S hw (j := 5) (by decide) rfl rfl inX4_standing_X4 (by decide) (hts (.fieldLink RX4 72 "UnionOfficeModel" "memberMany" "I") (by decide +kernel)) rfl dX4_standing_6 ?_
    refine lv_icmp_ge (tgt := 44) hx hb dX4_standing_9 (by decide) (fun c1 => ?_) (fun c1 => ?_)
    · have hj6 : j = nm σ := by
        have := nm_le σ
        have := (nI_leI (a := nm σ) (b := j) (by omega) (by omega)).mp c1
        omega
      exact kk acc H locs ls (by rw [hacc, hj6]) hw (lv_sub hl [0, 2] rfl)
    · have hnm16 := nm_le σ
      have hj6 : j < nm σ := (lnm (by omega) (by omega)).mp c1
      refine lv_iload_n hx hb dX4_standing_12 rfl (lv_at hl 2 rfl) ?_
      refine lv_aload_n hx hb dX4_standing_13 rfl (lv_at hl 0 rfl) ?_
      refine xr_get S hw (j := 6) (by decide) rfl rfl inX4_standing_X4 (by decide) (hts (.fieldLink RX4 13 "UnionOfficeModel" "branches" "[I") (by decide +kernel)) rfl dX4_standing_14 ?_
      refine lv_iload_n hx hb dX4_standing_17 rfl (lv_at hl 3 rfl) ?_
      refine xv_iald S hw (t0 := 0) (v := nI (br σ j)) (by decide) rfl rfl (by omega) (by decide) rfl dX4_standing_18 ?_
      have hql1 := br_lt σ j
      refine lv_iload_n hx hb dX4_standing_19 rfl (lv_at hl 1 rfl) ?_
      refine lv_icmp_ne (tgt := 35) hx hb dX4_standing_20 (by decide) (fun c2 => ?_) (fun c2 => ?_)
      · refine lv_iconst (v := 0) hx hb dX4_standing_35 (by decide) ?_
        refine lv_iadd hx hb dX4_standing_36 ?_
        refine lv_istore_n (lv' := [(2, .int (acc + 0)), (0, .ref (ad 0)), (1, .int x1), (3, .int (nI j))]) hx hb dX4_standing_37 rfl hl (by decide) rfl (fun ls hl => ?_)
        refine lv_iinc (v := nI (j + 1)) (lv' := [(3, .int (nI (j + 1))), (2, .int (acc + 0)), (0, .ref (ad 0)), (1, .int x1)]) hx hb dX4_standing_38 hl (k := 3) rfl (nI_1 j) (by decide) rfl (fun ls hl => ?_)
        refine lv_goto (tgt := 4) hx hb dX4_standing_41 (by decide) ?_
        exact ih (j + 1) (acc + 0) H locs ls (by omega) (by omega) (by rw [hacc]; exact (if_neg (fun q => c2 q.1)).symm) hw (lv_sub hl [2, 3, 1, 0] rfl) kk
      · refine lv_aload_n hx hb dX4_standing_23 rfl (lv_at hl 0 rfl) ?_
        refine lv_iload_n hx hb dX4_standing_24 rfl (lv_at hl 3 rfl) ?_
        refine xc_Mi hw (va_runV (As := [.int (nI j)]) (rest := [.int acc]) S (c_X4_stands l D cy ad σ j (by omega) _) (cwV 1 S.2.2.2.2 gX4_standing_X4_stands rfl rfl rfl (by decide +kernel) ⟨Nat.le_of_ble_eq_true rfl, Nat.le_of_ble_eq_true rfl⟩) (xc_preV (XOK.tt _ _) hX hw (by decide) rfl rfl rfl) rfl rfl hl.1 rfl (lv_room (Nat.le_of_ble_eq_true rfl)) dX4_standing_25 ⟨Nat.le_of_ble_eq_true rfl, Nat.le_of_ble_eq_true rfl⟩) (fun r9 u H locs hp hw => ?_)
        obtain ⟨hu9, hr9⟩ := hp
        rw [hu9] at hw
        rw [hr9]
        clear hu9 hr9
        refine lv_if_eq (tgt := 35) hx hb dX4_standing_28 (by decide) (fun c3 => ?_) (fun c3 => ?_)
        · refine lv_iconst (v := 0) hx hb dX4_standing_35 (by decide) ?_
          refine lv_iadd hx hb dX4_standing_36 ?_
          refine lv_istore_n (lv' := [(2, .int (acc + 0)), (0, .ref (ad 0)), (1, .int x1), (3, .int (nI j))]) hx hb dX4_standing_37 rfl hl (by decide) rfl (fun ls hl => ?_)
          refine lv_iinc (v := nI (j + 1)) (lv' := [(3, .int (nI (j + 1))), (2, .int (acc + 0)), (0, .ref (ad 0)), (1, .int x1)]) hx hb dX4_standing_38 hl (k := 3) rfl (nI_1 j) (by decide) rfl (fun ls hl => ?_)
          refine lv_goto (tgt := 4) hx hb dX4_standing_41 (by decide) ?_
          exact ih (j + 1) (acc + 0) H locs ls (by omega) (by omega) (by rw [hacc]; exact (if_neg (fun q => q.2 c3)).symm) hw (lv_sub hl [2, 3, 1, 0] rfl) kk
        · refine lv_iconst (v := 1) hx hb dX4_standing_31 (by decide) ?_
          refine lv_goto (tgt := 36) hx hb dX4_standing_32 (by decide) ?_
          refine lv_iadd hx hb dX4_standing_36 ?_
          refine lv_istore_n (lv' := [(2, .int (acc + 1)), (0, .ref (ad 0)), (1, .int x1), (3, .int (nI j))]) hx hb dX4_standing_37 rfl hl (by decide) rfl (fun ls hl => ?_)
          refine lv_iinc (v := nI (j + 1)) (lv' := [(3, .int (nI (j + 1))), (2, .int (acc + 1)), (0, .ref (ad 0)), (1, .int x1)]) hx hb dX4_standing_38 hl (k := 3) rfl (nI_1 j) (by decide) rfl (fun ls hl => ?_)
          refine lv_goto (tgt := 4) hx hb dX4_standing_41 (by decide) ?_
          exact ih (j + 1) (acc + 1) H locs ls (by omega) (by omega) (by rw [hacc]; exact (if_pos ⟨c2, c3⟩).symm) hw (lv_sub hl [2, 3, 1, 0] rfl) kk
set_option maxHeartbeats 1000000 in
set_option maxRecDepth 100000 in
/-- standing -/
theorem c_X4_standing (l : Launch) (D : va_G) (cy : Nat → ClassId) (ad : Nat → Nat) (σ : S3) (x1 : Int32) : MM l yX4_standing wsX4_standing rmX4_standing D cy ad [.ref (ad 0), .int x1] σ (xPi fun r u => u = σ ∧ r = cntM σ x1 (nm σ)) := by
  refine xs_M (cc := cX4_standing) (maxL := 4) (ret := (some .int)) (by decide +kernel) rfl (Nat.le_of_ble_eq_true rfl) ?_
  intro p e s m below meth c ls S hr hlocks hnm hw hX hl
  have S : CallFix p m c cX4_standing 4 s [.ref (ad 0), .int x1].toArray wsX4_standing RX4 := S
  have hx := S.1
  have hb := S.2.1
  have hts := S.2.2.2.2
  have hl : lv_has ls 4 [(0, .ref (ad 0)), (1, .int x1)] := hl
  have hnm16 := nm_le σ
  have hnw18 := nw_le σ
  refine lv_iconst (v := 0) hx hb dX4_standing_0 (by decide) ?_
  refine lv_istore_n (lv' := [(2, .int 0), (0, .ref (ad 0)), (1, .int x1)]) hx hb dX4_standing_1 rfl hl (by decide) rfl (fun ls hl => ?_)
  refine lv_iconst (v := 0) hx hb dX4_standing_2 (by decide) ?_
  refine lv_istore_n (lv' := [(3, .int 0), (2, .int 0), (0, .ref (ad 0)), (1, .int x1)]) hx hb dX4_standing_3 rfl hl (by decide) rfl (fun ls hl => ?_)
  refine lp_X4_standing S trivial 17 0 0 _ _ ls (by omega) (by omega) rfl hw (lv_sub hl [2, 3, 1, 0] rfl) (fun r H locs ls hr9 hw hl => ?_)
  refine lv_iload_n hx hb dX4_standing_44 rfl (lv_at hl 1 rfl) ?_
  exact xe_i S.1 S.2.1 hr hlocks hw (⟨rfl, hr9⟩) (Nat.le_of_ble_eq_true rfl) (Nat.le_of_ble_eq_true rfl) dX4_standing_45
theorem inX4_owedBy_X4 : (∀ w ∈ wsX40, w ∈ wsX4_owedBy) := by decide +kernel
set_option maxHeartbeats 1000000 in
set_option maxRecDepth 100000 in
theorem lp_X4_owedBy {p : Program} {l : Launch} {e : Env} {R : Room} {s : State} {m : MethodId} {args : Array Value} {below : List Frame} {meth : Method} {c : Code} {cells slots : Nat} {Q : State → Prop} (S : CallFix p m c cX4_owedBy 4 s args wsX4_owedBy RX4) {D : va_G} {cy : Nat → ClassId} {ad : Nat → Nat} {σ : S3} {i : Nat} (hi : i < 16) : ∀ (k : Nat) (j : Nat) (acc : Int32) (H : Heap) (locs : List Loc) (ls : Array Slot), 60 - j < k → j ≤ 60 → acc = smF (σ 7 i) j → MW D cy s ad σ H locs → lv_has ls 4 [(0, .ref (ad 0)), (1, .int (nI i)), (2, .int acc), (3, .int (nI j))] → (∀ (r : Int32) (H : Heap) (locs : List Loc) (ls : Array Slot), r = owM σ i → MW D cy s ad σ H locs → lv_has ls 4 [(0, .ref (ad 0)), (2, .int r)] → W p l e R s m args below meth c H locs cells slots Q (F0 m 30 ls [])) → W p l e R s m args below meth c H locs cells slots Q (F0 m 4 ls []) := by
  have hx := S.1
  have hb := S.2.1
  have hts := S.2.2.2.2
  intro k
  induction k with
  | zero => intro j acc H locs ls hk; exact absurd hk (Nat.not_lt_zero _)
  | succ k ih =>
    intro j acc H locs ls hk hj hacc hw hl kk
    refine lv_iload_n hx hb dX4_owedBy_4 rfl (lv_at hl 3 rfl) ?_
    refine lv_bipush (v := 60) hx hb dX4_owedBy_5 (by decide) ?_
    refine lv_icmp_ge (tgt := 30) hx hb dX4_owedBy_7 (by decide) (fun c1 => ?_) (fun c1 => ?_)
    · have hj6 : j = 60 := by
        rcases Nat.lt_or_ge j 60 with q | q
        · exact absurd c1 ((lt60 (by omega)).mpr q)
        · omega
      exact kk acc H locs ls (by rw [hacc, hj6]; rfl) hw (lv_sub hl [0, 2] rfl)
    · have hj6 : j < 60 := (lt60 (by omega)).mp c1
      refine lv_iload_n hx hb dX4_owedBy_10 rfl (lv_at hl 2 rfl) ?_
      refine lv_aload_n hx hb dX4_owedBy_11 rfl (lv_at hl 0 rfl) ?_
      refine xr_get S hw (j := 12) (by decide) rfl rfl inX4_owedBy_X4 (by decide) (hts (.fieldLink RX4 32 "UnionOfficeModel" "debts" "[I") (by decide +kernel)) rfl dX4_owedBy_12 ?_
      refine lv_bipush (v := 60) hx hb dX4_owedBy_15 (by decide) ?_
      refine lv_iload_n hx hb dX4_owedBy_17 rfl (lv_at hl 1 rfl) ?_
      refine lv_imul hx hb dX4_owedBy_18 ?_
      refine lv_iload_n hx hb dX4_owedBy_19 rfl (lv_at hl 3 rfl) ?_
      refine lv_iadd hx hb dX4_owedBy_20 ?_
      rw [show ((60 * (nI i)) + (nI j)) = nI (60 * i + j) from mulN 60 i j]
      refine xv_iald S hw (t0 := 0) (v := σ 7 i j) (by decide) rfl rfl (by omega) (by decide) (fl60 _ (by omega)) dX4_owedBy_21 ?_
      refine lv_iadd hx hb dX4_owedBy_22 ?_
      refine lv_istore_n (lv' := [(2, .int (acc + (σ 7 i j))), (0, .ref (ad 0)), (1, .int (nI i)), (3, .int (nI j))]) hx hb dX4_owedBy_23 rfl hl (by decide) rfl (fun ls hl => ?_)
      refine lv_iinc (v := nI (j + 1)) (lv' := [(3, .int (nI (j + 1))), (2, .int (acc + (σ 7 i j))), (0, .ref (ad 0)), (1, .int (nI i))]) hx hb dX4_owedBy_24 hl (k := 3) rfl (nI_1 j) (by decide) rfl (fun ls hl => ?_)
      refine lv_goto (tgt := 4) hx hb dX4_owedBy_27 (by decide) ?_
      exact ih (j + 1) (acc + (σ 7 i j)) H locs ls (by omega) (by omega) (by rw [hacc]; rfl) hw (lv_sub hl [2, 3, 1, 0] rfl) kk
abbrev rmX4_owedBy : Room := { frames := 0, cells := 0, slots := 0, locals := 0 }
set_option maxHeartbeats 1000000 in
set_option maxRecDepth 100000 in
/-- owedBy -/
theorem c_X4_owedBy (l : Launch) (D : va_G) (cy : Nat → ClassId) (ad : Nat → Nat) (σ : S3) (i : Nat) (hi : i < 16) : MM l yX4_owedBy wsX4_owedBy rmX4_owedBy D cy ad [.ref (ad 0), .int (nI i)] σ (xPi fun r u => u = σ ∧ r = owM σ i) := by
  refine xs_M (cc := cX4_owedBy) (maxL := 4) (ret := (some .int)) (by decide +kernel) rfl (Nat.le_of_ble_eq_true rfl) ?_
  intro p e s m below meth c ls S hr hlocks hnm hw hX hl
  have S : CallFix p m c cX4_owedBy 4 s [.ref (ad 0), .int (nI i)].toArray wsX4_owedBy RX4 := S
  have hx := S.1
  have hb := S.2.1
  have hts := S.2.2.2.2
  have hl : lv_has ls 4 [(0, .ref (ad 0)), (1, .int (nI i))] := hl
  have hnm16 := nm_le σ
  have hnw18 := nw_le σ
  refine lv_iconst (v := 0) hx hb dX4_owedBy_0 (by decide) ?_
  refine lv_istore_n (lv' := [(2, .int 0), (0, .ref (ad 0)), (1, .int (nI i))]) hx hb dX4_owedBy_1 rfl hl (by decide) rfl (fun ls hl => ?_)
  refine lv_iconst (v := 0) hx hb dX4_owedBy_2 (by decide) ?_
  refine lv_istore_n (lv' := [(3, .int 0), (2, .int 0), (0, .ref (ad 0)), (1, .int (nI i))]) hx hb dX4_owedBy_3 rfl hl (by decide) rfl (fun ls hl => ?_)
  refine lp_X4_owedBy S hi 61 0 0 _ _ ls (by omega) (by omega) rfl hw (lv_sub hl [2, 3, 1, 0] rfl) (fun r H locs ls hr9 hw hl => ?_)
  refine lv_iload_n hx hb dX4_owedBy_30 rfl (lv_at hl 1 rfl) ?_
  exact xe_i S.1 S.2.1 hr hlocks hw (⟨rfl, hr9⟩) (Nat.le_of_ble_eq_true rfl) (Nat.le_of_ble_eq_true rfl) dX4_owedBy_31
theorem inX4_lay_X4 : (∀ w ∈ wsX40, w ∈ wsX4_lay) := by decide +kernel
set_option maxHeartbeats 1000000 in
set_option maxRecDepth 100000 in
theorem lp_X4_lay {p : Program} {l : Launch} {e : Env} {R : Room} {s : State} {m : MethodId} {args : Array Value} {below : List Frame} {meth : Method} {c : Code} {cells slots : Nat} {Q : State → Prop} (S : CallFix p m c cX4_lay 5 s args wsX4_lay RX4) {D : va_G} {cy : Nat → ClassId} {ad : Nat → Nat} {σ : S3} {i : Nat} (hi : i < 16) : ∀ (k : Nat) (j : Nat) (τ : S3) (H : Heap) (locs : List Loc) (ls : Array Slot), 60 - j < k → j ≤ 60 → τ = mlF σ i j → MW D cy s ad τ H locs → lv_has ls 5 [(0, .ref (ad 0)), (1, .int (nI i)), (2, .int (nI j))] → (∀ (H : Heap) (locs : List Loc) (ls : Array Slot), MW D cy s ad (mlA σ i) H locs → lv_has ls 5 [(0, .ref (ad 0))] → W p l e R s m args below meth c H locs cells slots Q (F0 m 120 ls [])) → W p l e R s m args below meth c H locs cells slots Q (F0 m 2 ls []) := by
  have hx := S.1
  have hb := S.2.1
  have hts := S.2.2.2.2
  intro k
  induction k with
  | zero => intro j τ H locs ls hk; exact absurd hk (Nat.not_lt_zero _)
  | succ k ih =>
    intro j τ H locs ls hk hj hτ hw hl kk
    refine lv_iload_n hx hb dX4_lay_2 rfl (lv_at hl 2 rfl) ?_
    refine lv_bipush (v := 60) hx hb dX4_lay_3 (by decide) ?_
    refine lv_icmp_ge (tgt := 120) hx hb dX4_lay_5 (by decide) (fun c1 => ?_) (fun c1 => ?_)
    · have hj6 : j = 60 := by
        rcases Nat.lt_or_ge j 60 with q | q
        · exact absurd c1 ((lt60 (by omega)).mpr q)
        · omega
      exact kk H locs ls (by unfold mlA; rw [← hj6, ← hτ]; exact hw) (lv_sub hl [0] rfl)
    · have hj6 : j < 60 := (lt60 (by omega)).mp c1
      refine lv_bipush (v := 60) hx hb dX4_lay_8 (by decide) ?_
      refine lv_iload_n hx hb dX4_lay_10 rfl (lv_at hl 1 rfl) ?_
      refine lv_imul hx hb dX4_lay_11 ?_
      refine lv_iload_n hx hb dX4_lay_12 rfl (lv_at hl 2 rfl) ?_
      refine lv_iadd hx hb dX4_lay_13 ?_
      rw [show ((60 * (nI i)) + (nI j)) = nI (60 * i + j) from mulN 60 i j]
      refine lv_istore_n (lv' := [(3, .int (nI (60 * i + j))), (0, .ref (ad 0)), (1, .int (nI i)), (2, .int (nI j))]) hx hb dX4_lay_14 rfl hl (by decide) rfl (fun ls hl => ?_)
      refine lv_aload_n hx hb dX4_lay_15 rfl (lv_at hl 1 rfl) ?_
      refine xr_get S hw (j := 10) (by decide) rfl rfl inX4_lay_X4 (by decide) (hts (.fieldLink RX4 26 "UnionOfficeModel" "credits" "[I") (by decide +kernel)) rfl dX4_lay_16 ?_
      refine lv_iload_n hx hb dX4_lay_19 rfl (lv_at hl 2 rfl) ?_
      refine xv_iald S hw (t0 := 0) (v := τ 5 i 0) (by decide) rfl rfl (by omega) (by decide) rfl dX4_lay_20 ?_
      refine lv_aload_n hx hb dX4_lay_21 rfl (lv_at hl 1 rfl) ?_
      refine xr_get S hw (j := 12) (by decide) rfl rfl inX4_lay_X4 (by decide) (hts (.fieldLink RX4 32 "UnionOfficeModel" "debts" "[I") (by decide +kernel)) rfl dX4_lay_22 ?_
      refine lv_iload_n hx hb dX4_lay_25 rfl (lv_at hl 0 rfl) ?_
      refine xv_iald S hw (t0 := 0) (v := τ 7 i j) (by decide) rfl rfl (by omega) (by decide) (fl60 _ (by omega)) dX4_lay_26 ?_
      refine lv_icmp_ge (tgt := 39) hx hb dX4_lay_27 (by decide) (fun c2 => ?_) (fun c2 => ?_)
      · refine lv_aload_n hx hb dX4_lay_39 rfl (lv_at hl 1 rfl) ?_
        refine xr_get S hw (j := 12) (by decide) rfl rfl inX4_lay_X4 (by decide) (hts (.fieldLink RX4 32 "UnionOfficeModel" "debts" "[I") (by decide +kernel)) rfl dX4_lay_40 ?_
        refine lv_iload_n hx hb dX4_lay_43 rfl (lv_at hl 0 rfl) ?_
        refine xv_iald S hw (t0 := 0) (v := τ 7 i j) (by decide) rfl rfl (by omega) (by decide) (fl60 _ (by omega)) dX4_lay_44 ?_
        refine lv_istore (lv' := [(4, .int (τ 7 i j)), (3, .int (nI (60 * i + j))), (0, .ref (ad 0)), (1, .int (nI i)), (2, .int (nI j))]) hx hb dX4_lay_45 hl (by decide) rfl (fun ls hl => ?_)
        have hq : τ 7 i j = imc (τ 5 i 0) (τ 7 i j) := (if_pos c2).symm
        rw [hq] at hl
        refine lv_aload_n hx hb dX4_lay_47 rfl (lv_at hl 2 rfl) ?_
        refine xr_get S hw (j := 10) (by decide) rfl rfl inX4_lay_X4 (by decide) (hts (.fieldLink RX4 26 "UnionOfficeModel" "credits" "[I") (by decide +kernel)) rfl dX4_lay_48 ?_
        refine lv_iload_n hx hb dX4_lay_51 rfl (lv_at hl 3 rfl) ?_
        refine lv_dup2_11 hx hb dX4_lay_52 rfl rfl ?_
        refine xv_iald S hw (t0 := 0) (v := τ 5 i 0) (by decide) rfl rfl (by omega) (by decide) rfl dX4_lay_53 ?_
        refine lv_iload hx hb dX4_lay_54 (lv_at hl 0 rfl) ?_
        refine lv_isub hx hb dX4_lay_56 ?_
        obtain ⟨σ1, hσ1⟩ : ∃ y : S3, y = su τ 5 i 0 ((τ 5 i 0) - (imc (τ 5 i 0) (τ 7 i j))) := ⟨_, rfl⟩
        refine xn_iast S hw (t0 := 0) (by decide) rfl rfl (by omega) (by decide) dX4_lay_57 (mE cy ad σ1) (by rw [hσ1]; exact mu_credits _ _ _ i _) (fun H locs hw => ?_)
        refine lv_aload_n hx hb dX4_lay_58 rfl (lv_at hl 2 rfl) ?_
        refine xr_get S hw (j := 12) (by decide) rfl rfl inX4_lay_X4 (by decide) (hts (.fieldLink RX4 32 "UnionOfficeModel" "debts" "[I") (by decide +kernel)) rfl dX4_lay_59 ?_
        refine lv_iload_n hx hb dX4_lay_62 rfl (lv_at hl 1 rfl) ?_
        refine lv_dup2_11 hx hb dX4_lay_63 rfl rfl ?_
        refine xv_iald S hw (t0 := 0) (v := σ1 7 i j) (by decide) rfl rfl (by omega) (by decide) (fl60 _ (by omega)) dX4_lay_64 ?_
        refine lv_iload hx hb dX4_lay_65 (lv_at hl 0 rfl) ?_
        refine lv_isub hx hb dX4_lay_67 ?_
        obtain ⟨σ2, hσ2⟩ : ∃ y : S3, y = su σ1 7 i j ((σ1 7 i j) - (imc (τ 5 i 0) (τ 7 i j))) := ⟨_, rfl⟩
        refine xn_iast S hw (t0 := 0) (by decide) rfl rfl (by omega) (by decide) dX4_lay_68 (mE cy ad σ2) (by rw [hσ2]; exact mu_debts _ _ _ i (by omega) _) (fun H locs hw => ?_)
        refine lv_aload_n hx hb dX4_lay_69 rfl (lv_at hl 2 rfl) ?_
        refine xr_get S hw (j := 13) (by decide) rfl rfl inX4_lay_X4 (by decide) (hts (.fieldLink RX4 35 "UnionOfficeModel" "laidBy" "[I") (by decide +kernel)) rfl dX4_lay_70 ?_
        refine lv_iload_n hx hb dX4_lay_73 rfl (lv_at hl 1 rfl) ?_
        refine lv_dup2_11 hx hb dX4_lay_74 rfl rfl ?_
        refine xv_iald S hw (t0 := 0) (v := σ2 8 i j) (by decide) rfl rfl (by omega) (by decide) (fl60 _ (by omega)) dX4_lay_75 ?_
        refine lv_iload hx hb dX4_lay_76 (lv_at hl 0 rfl) ?_
        refine lv_iadd hx hb dX4_lay_78 ?_
        obtain ⟨σ3, hσ3⟩ : ∃ y : S3, y = su σ2 8 i j ((σ2 8 i j) + (imc (τ 5 i 0) (τ 7 i j))) := ⟨_, rfl⟩
        refine xn_iast S hw (t0 := 0) (by decide) rfl rfl (by omega) (by decide) dX4_lay_79 (mE cy ad σ3) (by rw [hσ3]; exact mu_laidBy _ _ _ i (by omega) _) (fun H locs hw => ?_)
        refine lv_aload_n hx hb dX4_lay_80 rfl (lv_at hl 2 rfl) ?_
        refine xr_get S hw (j := 14) (by decide) rfl rfl inX4_lay_X4 (by decide) (hts (.fieldLink RX4 38 "UnionOfficeModel" "laidOf" "[I") (by decide +kernel)) rfl dX4_lay_81 ?_
        refine lv_bipush (v := 60) hx hb dX4_lay_84 (by decide) ?_
        refine lv_aload_n hx hb dX4_lay_86 rfl (lv_at hl 2 rfl) ?_
        refine xr_get S hw (j := 6) (by decide) rfl rfl inX4_lay_X4 (by decide) (hts (.fieldLink RX4 13 "UnionOfficeModel" "branches" "[I") (by decide +kernel)) rfl dX4_lay_87 ?_
        refine lv_iload_n hx hb dX4_lay_90 rfl (lv_at hl 3 rfl) ?_
        refine xv_iald S hw (t0 := 0) (v := nI (br σ3 i)) (by decide) rfl rfl (by omega) (by decide) rfl dX4_lay_91 ?_
        have hql1 := br_lt σ3 i
        refine lv_imul hx hb dX4_lay_92 ?_
        refine lv_iload_n hx hb dX4_lay_93 rfl (lv_at hl 4 rfl) ?_
        refine lv_iadd hx hb dX4_lay_94 ?_
        rw [show ((60 * (nI (br σ3 i))) + (nI j)) = nI (60 * (br σ3 i) + j) from mulN 60 (br σ3 i) j]
        refine lv_dup2_11 hx hb dX4_lay_95 rfl rfl ?_
        refine xv_iald S hw (t0 := 0) (v := σ3 9 (br σ3 i) j) (by decide) rfl rfl (by omega) (by decide) (fl60 _ (by omega)) dX4_lay_96 ?_
        refine lv_iload hx hb dX4_lay_97 (lv_at hl 0 rfl) ?_
        refine lv_iadd hx hb dX4_lay_99 ?_
        obtain ⟨σ4, hσ4⟩ : ∃ y : S3, y = su σ3 9 (br σ3 i) j ((σ3 9 (br σ3 i) j) + (imc (τ 5 i 0) (τ 7 i j))) := ⟨_, rfl⟩
        refine xn_iast S hw (t0 := 0) (by decide) rfl rfl (by omega) (by decide) dX4_lay_100 (mE cy ad σ4) (by rw [hσ4]; exact mu_laidOf _ _ _ (br σ3 i) (by omega) _) (fun H locs hw => ?_)
        refine lv_aload_n hx hb dX4_lay_101 rfl (lv_at hl 2 rfl) ?_
        refine lv_dup hx hb dX4_lay_102 rfl ?_
        refine xr_get S hw (j := 3) (by decide) rfl rfl inX4_lay_X4 (by decide) (hts (.fieldLink RX4 100 "UnionOfficeModel" "money" "I") (by decide +kernel)) rfl dX4_lay_103 ?_
        refine lv_iload hx hb dX4_lay_106 (lv_at hl 0 rfl) ?_
        refine lv_iconst (v := 5) hx hb dX4_lay_108 (by decide) ?_
        refine lv_idiv hx hb dX4_lay_109 (by decide) ?_
        refine lv_iadd hx hb dX4_lay_110 ?_
        obtain ⟨σ5, hσ5⟩ : ∃ y : S3, y = su σ4 19 0 0 ((σ4 19 0 0) + ((imc (τ 5 i 0) (τ 7 i j)) / 5)) := ⟨_, rfl⟩
        refine xr_put S hw tyX4 tyX4_ok nmX4 (j := 3) (by decide) rfl rfl inX4_lay_X4 (by decide) (hts (.fieldLink RX4 100 "UnionOfficeModel" "money" "I") (by decide +kernel)) rfl (tyX4_ok 3 (by decide)) rfl rfl (Nat.le_of_ble_eq_true rfl) dX4_lay_111 (mE cy ad σ5) (by rw [hσ5]; exact mu_money _ _ _ _) (fun H locs hw => ?_)
        refine lv_iinc (v := nI (j + 1)) (lv' := [(2, .int (nI (j + 1))), (4, .int (imc (τ 5 i 0) (τ 7 i j))), (3, .int (nI (60 * i + j))), (0, .ref (ad 0)), (1, .int (nI i))]) hx hb dX4_lay_114 hl (k := 4) rfl (nI_1 j) (by decide) rfl (fun ls hl => ?_)
        refine lv_goto (tgt := 2) hx hb dX4_lay_117 (by decide) ?_
        have he1 : σ5 = mlS τ i j := by
          rw [hσ5, hσ4, hσ3, hσ2, hσ1]
          simp [mlS, su, br]
        exact ih (j + 1) σ5 H locs ls (by omega) (by omega) (by rw [he1, hτ]; rfl) hw (lv_sub hl [3, 4, 0] rfl) kk
      · refine lv_aload_n hx hb dX4_lay_30 rfl (lv_at hl 1 rfl) ?_
        refine xr_get S hw (j := 10) (by decide) rfl rfl inX4_lay_X4 (by decide) (hts (.fieldLink RX4 26 "UnionOfficeModel" "credits" "[I") (by decide +kernel)) rfl dX4_lay_31 ?_
        refine lv_iload_n hx hb dX4_lay_34 rfl (lv_at hl 2 rfl) ?_
        refine xv_iald S hw (t0 := 0) (v := τ 5 i 0) (by decide) rfl rfl (by omega) (by decide) rfl dX4_lay_35 ?_
        refine lv_goto (tgt := 45) hx hb dX4_lay_36 (by decide) ?_
        refine lv_istore (lv' := [(4, .int (τ 5 i 0)), (3, .int (nI (60 * i + j))), (0, .ref (ad 0)), (1, .int (nI i)), (2, .int (nI j))]) hx hb dX4_lay_45 hl (by decide) rfl (fun ls hl => ?_)
        have hq : τ 5 i 0 = imc (τ 5 i 0) (τ 7 i j) := (if_neg c2).symm
        rw [hq] at hl
        refine lv_aload_n hx hb dX4_lay_47 rfl (lv_at hl 2 rfl) ?_
        refine xr_get S hw (j := 10) (by decide) rfl rfl inX4_lay_X4 (by decide) (hts (.fieldLink RX4 26 "UnionOfficeModel" "credits" "[I") (by decide +kernel)) rfl dX4_lay_48 ?_
        refine lv_iload_n hx hb dX4_lay_51 rfl (lv_at hl 3 rfl) ?_
        refine lv_dup2_11 hx hb dX4_lay_52 rfl rfl ?_
        refine xv_iald S hw (t0 := 0) (v := τ 5 i 0) (by decide) rfl rfl (by omega) (by decide) rfl dX4_lay_53 ?_
        refine lv_iload hx hb dX4_lay_54 (lv_at hl 0 rfl) ?_
        refine lv_isub hx hb dX4_lay_56 ?_
        obtain ⟨σ6, hσ6⟩ : ∃ y : S3, y = su τ 5 i 0 ((τ 5 i 0) - (imc (τ 5 i 0) (τ 7 i j))) := ⟨_, rfl⟩
        refine xn_iast S hw (t0 := 0) (by decide) rfl rfl (by omega) (by decide) dX4_lay_57 (mE cy ad σ6) (by rw [hσ6]; exact mu_credits _ _ _ i _) (fun H locs hw => ?_)
        refine lv_aload_n hx hb dX4_lay_58 rfl (lv_at hl 2 rfl) ?_
        refine xr_get S hw (j := 12) (by decide) rfl rfl inX4_lay_X4 (by decide) (hts (.fieldLink RX4 32 "UnionOfficeModel" "debts" "[I") (by decide +kernel)) rfl dX4_lay_59 ?_
        refine lv_iload_n hx hb dX4_lay_62 rfl (lv_at hl 1 rfl) ?_
        refine lv_dup2_11 hx hb dX4_lay_63 rfl rfl ?_
        refine xv_iald S hw (t0 := 0) (v := σ6 7 i j) (by decide) rfl rfl (by omega) (by decide) (fl60 _ (by omega)) dX4_lay_64 ?_
        refine lv_iload hx hb dX4_lay_65 (lv_at hl 0 rfl) ?_
        refine lv_isub hx hb dX4_lay_67 ?_
        obtain ⟨σ7, hσ7⟩ : ∃ y : S3, y = su σ6 7 i j ((σ6 7 i j) - (imc (τ 5 i 0) (τ 7 i j))) := ⟨_, rfl⟩
        refine xn_iast S hw (t0 := 0) (by decide) rfl rfl (by omega) (by decide) dX4_lay_68 (mE cy ad σ7) (by rw [hσ7]; exact mu_debts _ _ _ i (by omega) _) (fun H locs hw => ?_)
        refine lv_aload_n hx hb dX4_lay_69 rfl (lv_at hl 2 rfl) ?_
        refine xr_get S hw (j := 13) (by decide) rfl rfl inX4_lay_X4 (by decide) (hts (.fieldLink RX4 35 "UnionOfficeModel" "laidBy" "[I") (by decide +kernel)) rfl dX4_lay_70 ?_
        refine lv_iload_n hx hb dX4_lay_73 rfl (lv_at hl 1 rfl) ?_
        refine lv_dup2_11 hx hb dX4_lay_74 rfl rfl ?_
        refine xv_iald S hw (t0 := 0) (v := σ7 8 i j) (by decide) rfl rfl (by omega) (by decide) (fl60 _ (by omega)) dX4_lay_75 ?_
        refine lv_iload hx hb dX4_lay_76 (lv_at hl 0 rfl) ?_
        refine lv_iadd hx hb dX4_lay_78 ?_
        obtain ⟨σ8, hσ8⟩ : ∃ y : S3, y = su σ7 8 i j ((σ7 8 i j) + (imc (τ 5 i 0) (τ 7 i j))) := ⟨_, rfl⟩
        refine xn_iast S hw (t0 := 0) (by decide) rfl rfl (by omega) (by decide) dX4_lay_79 (mE cy ad σ8) (by rw [hσ8]; exact mu_laidBy _ _ _ i (by omega) _) (fun H locs hw => ?_)
        refine lv_aload_n hx hb dX4_lay_80 rfl (lv_at hl 2 rfl) ?_
        refine xr_get S hw (j := 14) (by decide) rfl rfl inX4_lay_X4 (by decide) (hts (.fieldLink RX4 38 "UnionOfficeModel" "laidOf" "[I") (by decide +kernel)) rfl dX4_lay_81 ?_
        refine lv_bipush (v := 60) hx hb dX4_lay_84 (by decide) ?_
        refine lv_aload_n hx hb dX4_lay_86 rfl (lv_at hl 2 rfl) ?_
        refine xr_get S hw (j := 6) (by decide) rfl rfl inX4_lay_X4 (by decide) (hts (.fieldLink RX4 13 "UnionOfficeModel" "branches" "[I") (by decide +kernel)) rfl dX4_lay_87 ?_
        refine lv_iload_n hx hb dX4_lay_90 rfl (lv_at hl 3 rfl) ?_
        refine xv_iald S hw (t0 := 0) (v := nI (br σ8 i)) (by decide) rfl rfl (by omega) (by decide) rfl dX4_lay_91 ?_
        have hql2 := br_lt σ8 i
        refine lv_imul hx hb dX4_lay_92 ?_
        refine lv_iload_n hx hb dX4_lay_93 rfl (lv_at hl 4 rfl) ?_
        refine lv_iadd hx hb dX4_lay_94 ?_
        rw [show ((60 * (nI (br σ8 i))) + (nI j)) = nI (60 * (br σ8 i) + j) from mulN 60 (br σ8 i) j]
        refine lv_dup2_11 hx hb dX4_lay_95 rfl rfl ?_
        refine xv_iald S hw (t0 := 0) (v := σ8 9 (br σ8 i) j) (by decide) rfl rfl (by omega) (by decide) (fl60 _ (by omega)) dX4_lay_96 ?_
        refine lv_iload hx hb dX4_lay_97 (lv_at hl 0 rfl) ?_
        refine lv_iadd hx hb dX4_lay_99 ?_
        obtain ⟨σ9, hσ9⟩ : ∃ y : S3, y = su σ8 9 (br σ8 i) j ((σ8 9 (br σ8 i) j) + (imc (τ 5 i 0) (τ 7 i j))) := ⟨_, rfl⟩
        refine xn_iast S hw (t0 := 0) (by decide) rfl rfl (by omega) (by decide) dX4_lay_100 (mE cy ad σ9) (by rw [hσ9]; exact mu_laidOf _ _ _ (br σ8 i) (by omega) _) (fun H locs hw => ?_)
        refine lv_aload_n hx hb dX4_lay_101 rfl (lv_at hl 2 rfl) ?_
        refine lv_dup hx hb dX4_lay_102 rfl ?_
        refine xr_get S hw (j := 3) (by decide) rfl rfl inX4_lay_X4 (by decide) (hts (.fieldLink RX4 100 "UnionOfficeModel" "money" "I") (by decide +kernel)) rfl dX4_lay_103 ?_
        refine lv_iload hx hb dX4_lay_106 (lv_at hl 0 rfl) ?_
        refine lv_iconst (v := 5) hx hb dX4_lay_108 (by decide) ?_
        refine lv_idiv hx hb dX4_lay_109 (by decide) ?_
        refine lv_iadd hx hb dX4_lay_110 ?_
        obtain ⟨σ10, hσ10⟩ : ∃ y : S3, y = su σ9 19 0 0 ((σ9 19 0 0) + ((imc (τ 5 i 0) (τ 7 i j)) / 5)) := ⟨_, rfl⟩
        refine xr_put S hw tyX4 tyX4_ok nmX4 (j := 3) (by decide) rfl rfl inX4_lay_X4 (by decide) (hts (.fieldLink RX4 100 "UnionOfficeModel" "money" "I") (by decide +kernel)) rfl (tyX4_ok 3 (by decide)) rfl rfl (Nat.le_of_ble_eq_true rfl) dX4_lay_111 (mE cy ad σ10) (by rw [hσ10]; exact mu_money _ _ _ _) (fun H locs hw => ?_)
        refine lv_iinc (v := nI (j + 1)) (lv' := [(2, .int (nI (j + 1))), (4, .int (imc (τ 5 i 0) (τ 7 i j))), (3, .int (nI (60 * i + j))), (0, .ref (ad 0)), (1, .int (nI i))]) hx hb dX4_lay_114 hl (k := 4) rfl (nI_1 j) (by decide) rfl (fun ls hl => ?_)
        refine lv_goto (tgt := 2) hx hb dX4_lay_117 (by decide) ?_
        have he1 : σ10 = mlS τ i j := by
          rw [hσ10, hσ9, hσ8, hσ7, hσ6]
          simp [mlS, su, br]
        exact ih (j + 1) σ10 H locs ls (by omega) (by omega) (by rw [he1, hτ]; rfl) hw (lv_sub hl [3, 4, 0] rfl) kk
abbrev rmX4_lay : Room := { frames := 0, cells := 0, slots := 0, locals := 0 }
set_option maxHeartbeats 1000000 in
set_option maxRecDepth 100000 in
/-- lay -/
theorem c_X4_lay (l : Launch) (D : va_G) (cy : Nat → ClassId) (ad : Nat → Nat) (σ : S3) (i : Nat) (hi : i < 16) : MM l yX4_lay wsX4_lay rmX4_lay D cy ad [.ref (ad 0), .int (nI i)] σ (xPv fun u => u = mlA σ i) := by
  refine xs_M (cc := cX4_lay) (maxL := 5) (ret := none) (by decide +kernel) rfl (Nat.le_of_ble_eq_true rfl) ?_
  intro p e s m below meth c ls S hr hlocks hnm hw hX hl
  have S : CallFix p m c cX4_lay 5 s [.ref (ad 0), .int (nI i)].toArray wsX4_lay RX4 := S
  have hx := S.1
  have hb := S.2.1
  have hts := S.2.2.2.2
  have hl : lv_has ls 5 [(0, .ref (ad 0)), (1, .int (nI i))] := hl
  have hnm16 := nm_le σ
  have hnw18 := nw_le σ
  refine lv_iconst (v := 0) hx hb dX4_lay_0 (by decide) ?_
  refine lv_istore_n (lv' := [(2, .int 0), (0, .ref (ad 0)), (1, .int (nI i))]) hx hb dX4_lay_1 rfl hl (by decide) rfl (fun ls hl => ?_)
  refine lp_X4_lay S hi 61 0 σ _ _ ls (by omega) (by omega) rfl hw (lv_sub hl [1, 2, 0] rfl) (fun H locs ls hw hl => ?_)
  exact xe_v S.1 S.2.1 hr hlocks hw (rfl) (Nat.le_of_ble_eq_true rfl) (Nat.le_of_ble_eq_true rfl) dX4_lay_120
abbrev rmX4_payStrikes : Room := { frames := 1, cells := 0, slots := 0, locals := 23 }
abbrev psP (σ : S3) (j : Nat) : Prop := ¬ σ 14 (br σ j) 0 = 0 ∧ ¬ stmI σ j = 0 ∧ ¬ σ 19 0 0 < σ 17 0 0
def psS (σ : S3) (j : Nat) : S3 := if psP σ j then su (su σ 19 0 0 (σ 19 0 0 - σ 17 0 0)) 6 j 0 (σ 6 j 0 + σ 17 0 0) else σ
def psF (σ : S3) : Nat → S3
  | 0 => σ
  | j + 1 => psS (psF σ j) j
theorem nm_psS (σ : S3) (j : Nat) : nm (psS σ j) = nm σ := by
  unfold psS
  split
  · rw [nm_suk (by decide), nm_suk (by decide)]
  · rfl
theorem nw_psS (σ : S3) (j : Nat) : nw (psS σ j) = nw σ := by
  unfold psS
  split
  · rw [nw_suk (by decide), nw_suk (by decide)]
  · rfl
theorem nm_psF (σ : S3) : ∀ j, nm (psF σ j) = nm σ
  | 0 => rfl
  | j + 1 => (nm_psS _ _).trans (nm_psF σ j)
theorem nw_psF (σ : S3) : ∀ j, nw (psF σ j) = nw σ
  | 0 => rfl
  | j + 1 => (nw_psS _ _).trans (nw_psF σ j)
theorem inX4_payStrikes_X4 : (∀ w ∈ wsX40, w ∈ wsX4_payStrikes) := by decide +kernel
set_option maxHeartbeats 1000000 in
set_option maxRecDepth 100000 in
theorem lp_X4_payStrikes {p : Program} {l : Launch} {e : Env} {s : State} {m : MethodId} {args : Array Value} {below : List Frame} {meth : Method} {c : Code} {Q : State → Prop} (S : CallFix p m c cX4_payStrikes 2 s args wsX4_payStrikes RX4) {D : va_G} {cy : Nat → ClassId} {ad : Nat → Nat} {σ : S3} (hX : True) (hnmσ : nm σ ≤ 16) : ∀ (k : Nat) (j : Nat) (τ : S3) (H : Heap) (locs : List Loc) (ls : Array Slot), nm σ - j < k → j ≤ nm σ → τ = psF σ j → MW D cy s ad τ H locs → lv_has ls 2 [(0, .ref (ad 0)), (1, .int (nI j))] → (∀ (H : Heap) (locs : List Loc) (ls : Array Slot), MW D cy s ad (psF σ (nm σ)) H locs → lv_has ls 2 [(0, .ref (ad 0))] → W p l e rmX4_payStrikes s m args below meth c H locs 0 0 Q (F0 m 75 ls [])) → W p l e rmX4_payStrikes s m args below meth c H locs 0 0 Q (F0 m 2 ls []) := by
  have hx := S.1
  have hb := S.2.1
  have hts := S.2.2.2.2
  intro k
  induction k with
  | zero => intro j τ H locs ls hk; exact absurd hk (Nat.not_lt_zero _)
  | succ k ih =>
    intro j τ H locs ls hk hj hτ hw hl kk
    refine lv_iload_n hx hb dX4_payStrikes_2 rfl (lv_at hl 1 rfl) ?_
    refine lv_aload_n hx hb dX4_payStrikes_3 rfl (lv_at hl 0 rfl) ?_
    refine xr_get S hw (j := 5) (by decide) rfl rfl inX4_payStrikes_X4 (by decide) (hts (.fieldLink RX4 72 "UnionOfficeModel" "memberMany" "I") (by decide +kernel)) rfl dX4_payStrikes_4 ?_
    refine lv_icmp_ge (tgt := 75) hx hb dX4_payStrikes_7 (by decide) (fun c1 => ?_) (fun c1 => ?_)
    · have hj6 : j = nm σ := by
        have := nm_le τ
        have hq := (nI_leI (a := nm τ) (b := j) (by omega) (by omega)).mp c1
        rw [hτ, nm_psF] at hq
        omega
      exact kk H locs ls (by rw [← hj6, ← hτ]; exact hw) (lv_sub hl [0] rfl)
    · have hnm16 := nm_le τ
      have hnmτ : nm τ = nm σ := by rw [hτ, nm_psF]
      have hj6 : j < nm τ := (lnm (by omega) (by omega)).mp c1
      refine lv_aload_n hx hb dX4_payStrikes_10 rfl (lv_at hl 0 rfl) ?_
      refine xr_get S hw (j := 19) (by decide) rfl rfl inX4_payStrikes_X4 (by decide) (hts (.fieldLink RX4 53 "UnionOfficeModel" "isStriking" "[Z") (by decide +kernel)) rfl dX4_payStrikes_11 ?_
      refine lv_aload_n hx hb dX4_payStrikes_14 rfl (lv_at hl 0 rfl) ?_
      refine xr_get S hw (j := 6) (by decide) rfl rfl inX4_payStrikes_X4 (by decide) (hts (.fieldLink RX4 13 "UnionOfficeModel" "branches" "[I") (by decide +kernel)) rfl dX4_payStrikes_15 ?_
      refine lv_iload_n hx hb dX4_payStrikes_18 rfl (lv_at hl 1 rfl) ?_
      refine xv_iald S hw (t0 := 0) (v := nI (br τ j)) (by decide) rfl rfl (by omega) (by decide) rfl dX4_payStrikes_19 ?_
      have hql1 := br_lt τ j
      refine xv_zald S hw (t0 := 1) (v := τ 14 (br τ j) 0) (by decide) rfl rfl (by omega) (by decide) rfl dX4_payStrikes_20 ?_
      refine lv_if_eq (tgt := 69) hx hb dX4_payStrikes_21 (by decide) (fun c2 => ?_) (fun c2 => ?_)
      · refine lv_iinc (v := nI (j + 1)) (lv' := [(1, .int (nI (j + 1))), (0, .ref (ad 0))]) hx hb dX4_payStrikes_69 hl (k := 1) rfl (nI_1 j) (by decide) rfl (fun ls hl => ?_)
        refine lv_goto (tgt := 2) hx hb dX4_payStrikes_72 (by decide) ?_
        exact ih (j + 1) τ H locs ls (by omega) (by omega) (by show _ = psS (psF σ j) j; rw [← hτ]; exact (if_neg (fun q => q.1 c2)).symm) hw (lv_sub hl [1, 0] rfl) kk
      · refine lv_aload_n hx hb dX4_payStrikes_24 rfl (lv_at hl 0 rfl) ?_
        refine lv_iload_n hx hb dX4_payStrikes_25 rfl (lv_at hl 1 rfl) ?_
        refine xc_Mi hw (va_runV (As := [.int (nI j)]) (rest := []) S (c_X4_stands l D cy ad τ j (by omega) _) (cwV 1 S.2.2.2.2 gX4_payStrikes_X4_stands rfl rfl rfl (by decide +kernel) ⟨Nat.le_of_ble_eq_true rfl, Nat.le_of_ble_eq_true rfl⟩) (xc_preV (XOK.tt _ _) hX hw (by decide) rfl rfl rfl) rfl rfl hl.1 rfl (lv_room (Nat.le_of_ble_eq_true rfl)) dX4_payStrikes_26 ⟨Nat.le_of_ble_eq_true rfl, Nat.le_of_ble_eq_true rfl⟩) (fun r9 u H locs hp hw => ?_)
        obtain ⟨hu9, hr9⟩ := hp
        rw [hu9] at hw
        rw [hr9]
        clear hu9 hr9
        refine lv_if_eq (tgt := 69) hx hb dX4_payStrikes_29 (by decide) (fun c3 => ?_) (fun c3 => ?_)
        · refine lv_iinc (v := nI (j + 1)) (lv' := [(1, .int (nI (j + 1))), (0, .ref (ad 0))]) hx hb dX4_payStrikes_69 hl (k := 1) rfl (nI_1 j) (by decide) rfl (fun ls hl => ?_)
          refine lv_goto (tgt := 2) hx hb dX4_payStrikes_72 (by decide) ?_
          exact ih (j + 1) τ H locs ls (by omega) (by omega) (by show _ = psS (psF σ j) j; rw [← hτ]; exact (if_neg (fun q => q.2.1 c3)).symm) hw (lv_sub hl [1, 0] rfl) kk
        · refine lv_aload_n hx hb dX4_payStrikes_32 rfl (lv_at hl 0 rfl) ?_
          refine xr_get S hw (j := 3) (by decide) rfl rfl inX4_payStrikes_X4 (by decide) (hts (.fieldLink RX4 100 "UnionOfficeModel" "money" "I") (by decide +kernel)) rfl dX4_payStrikes_33 ?_
          refine lv_aload_n hx hb dX4_payStrikes_36 rfl (lv_at hl 0 rfl) ?_
          refine xr_get S hw (j := 1) (by decide) rfl rfl inX4_payStrikes_X4 (by decide) (hts (.fieldLink RX4 62 "UnionOfficeModel" "pay" "I") (by decide +kernel)) rfl dX4_payStrikes_37 ?_
          refine lv_icmp_lt (tgt := 69) hx hb dX4_payStrikes_40 (by decide) (fun c4 => ?_) (fun c4 => ?_)
          · refine lv_iinc (v := nI (j + 1)) (lv' := [(1, .int (nI (j + 1))), (0, .ref (ad 0))]) hx hb dX4_payStrikes_69 hl (k := 1) rfl (nI_1 j) (by decide) rfl (fun ls hl => ?_)
            refine lv_goto (tgt := 2) hx hb dX4_payStrikes_72 (by decide) ?_
            exact ih (j + 1) τ H locs ls (by omega) (by omega) (by show _ = psS (psF σ j) j; rw [← hτ]; exact (if_neg (fun q => q.2.2 c4)).symm) hw (lv_sub hl [1, 0] rfl) kk
          · refine lv_aload_n hx hb dX4_payStrikes_43 rfl (lv_at hl 0 rfl) ?_
            refine lv_dup hx hb dX4_payStrikes_44 rfl ?_
            refine xr_get S hw (j := 3) (by decide) rfl rfl inX4_payStrikes_X4 (by decide) (hts (.fieldLink RX4 100 "UnionOfficeModel" "money" "I") (by decide +kernel)) rfl dX4_payStrikes_45 ?_
            refine lv_aload_n hx hb dX4_payStrikes_48 rfl (lv_at hl 0 rfl) ?_
            refine xr_get S hw (j := 1) (by decide) rfl rfl inX4_payStrikes_X4 (by decide) (hts (.fieldLink RX4 62 "UnionOfficeModel" "pay" "I") (by decide +kernel)) rfl dX4_payStrikes_49 ?_
            refine lv_isub hx hb dX4_payStrikes_52 ?_
            obtain ⟨σ1, hσ1⟩ : ∃ y : S3, y = su τ 19 0 0 ((τ 19 0 0) - (τ 17 0 0)) := ⟨_, rfl⟩
            refine xr_put S hw tyX4 tyX4_ok nmX4 (j := 3) (by decide) rfl rfl inX4_payStrikes_X4 (by decide) (hts (.fieldLink RX4 100 "UnionOfficeModel" "money" "I") (by decide +kernel)) rfl (tyX4_ok 3 (by decide)) rfl rfl (Nat.le_of_ble_eq_true rfl) dX4_payStrikes_53 (mE cy ad σ1) (by rw [hσ1]; exact mu_money _ _ _ _) (fun H locs hw => ?_)
            refine lv_aload_n hx hb dX4_payStrikes_56 rfl (lv_at hl 0 rfl) ?_
            refine xr_get S hw (j := 11) (by decide) rfl rfl inX4_payStrikes_X4 (by decide) (hts (.fieldLink RX4 29 "UnionOfficeModel" "strikePays" "[I") (by decide +kernel)) rfl dX4_payStrikes_57 ?_
            refine lv_iload_n hx hb dX4_payStrikes_60 rfl (lv_at hl 1 rfl) ?_
            refine lv_dup2_11 hx hb dX4_payStrikes_61 rfl rfl ?_
            refine xv_iald S hw (t0 := 0) (v := σ1 6 j 0) (by decide) rfl rfl (by omega) (by decide) rfl dX4_payStrikes_62 ?_
            refine lv_aload_n hx hb dX4_payStrikes_63 rfl (lv_at hl 0 rfl) ?_
            refine xr_get S hw (j := 1) (by decide) rfl rfl inX4_payStrikes_X4 (by decide) (hts (.fieldLink RX4 62 "UnionOfficeModel" "pay" "I") (by decide +kernel)) rfl dX4_payStrikes_64 ?_
            refine lv_iadd hx hb dX4_payStrikes_67 ?_
            obtain ⟨σ2, hσ2⟩ : ∃ y : S3, y = su σ1 6 j 0 ((σ1 6 j 0) + (σ1 17 0 0)) := ⟨_, rfl⟩
            refine xn_iast S hw (t0 := 0) (by decide) rfl rfl (by omega) (by decide) dX4_payStrikes_68 (mE cy ad σ2) (by rw [hσ2]; exact mu_spays _ _ _ j _) (fun H locs hw => ?_)
            refine lv_iinc (v := nI (j + 1)) (lv' := [(1, .int (nI (j + 1))), (0, .ref (ad 0))]) hx hb dX4_payStrikes_69 hl (k := 1) rfl (nI_1 j) (by decide) rfl (fun ls hl => ?_)
            refine lv_goto (tgt := 2) hx hb dX4_payStrikes_72 (by decide) ?_
            exact ih (j + 1) σ2 H locs ls (by omega) (by omega) (by show _ = psS (psF σ j) j; rw [← hτ, show psS τ j = _ from if_pos ⟨c2, c3, c4⟩, hσ2, hσ1]; simp [su]) hw (lv_sub hl [1, 0] rfl) kk
set_option maxHeartbeats 1000000 in
set_option maxRecDepth 100000 in
/-- payStrikes -/
theorem c_X4_payStrikes (l : Launch) (D : va_G) (cy : Nat → ClassId) (ad : Nat → Nat) (σ : S3)  : MM l yX4_payStrikes wsX4_payStrikes rmX4_payStrikes D cy ad [.ref (ad 0)] σ (xPv fun u => u = psF σ (nm σ)) := by
  refine xs_M (cc := cX4_payStrikes) (maxL := 2) (ret := none) (by decide +kernel) rfl (Nat.le_of_ble_eq_true rfl) ?_
  intro p e s m below meth c ls S hr hlocks hnm hw hX hl
  have S : CallFix p m c cX4_payStrikes 2 s [.ref (ad 0)].toArray wsX4_payStrikes RX4 := S
  have hx := S.1
  have hb := S.2.1
  have hts := S.2.2.2.2
  have hl : lv_has ls 2 [(0, .ref (ad 0))] := hl
  have hnm16 := nm_le σ
  have hnw18 := nw_le σ
  refine lv_iconst (v := 0) hx hb dX4_payStrikes_0 (by decide) ?_
  refine lv_istore_n (lv' := [(1, .int 0), (0, .ref (ad 0))]) hx hb dX4_payStrikes_1 rfl hl (by decide) rfl (fun ls hl => ?_)
  refine lp_X4_payStrikes S trivial hnm16 17 0 σ _ _ ls (by omega) (by omega) rfl hw (lv_sub hl [1, 0] rfl) (fun H locs ls hw hl => ?_)
  exact xe_v S.1 S.2.1 hr hlocks hw (rfl) (Nat.le_of_ble_eq_true rfl) (Nat.le_of_ble_eq_true rfl) dX4_payStrikes_75
abbrev rmX4_takeDues : Room := { frames := 1, cells := 0, slots := 0, locals := 24 }
abbrev tdP (σ : S3) (j : Nat) : Prop := σ 3 j 0 = 0 ∧ σ 4 j 0 = 0
def tdS (σ : S3) (m j : Nat) : S3 := if tdP σ j then mlA (su σ 7 j m (σ 7 j m + σ 0 (bd σ j) 0)) j else σ
def tdF (σ : S3) (m : Nat) : Nat → S3
  | 0 => σ
  | j + 1 => tdS (tdF σ m j) m j
theorem nm_tdS (σ : S3) (m j : Nat) : nm (tdS σ m j) = nm σ := by
  unfold tdS
  split
  · rw [nm_mlA, nm_suk (by decide)]
  · rfl
theorem nw_tdS (σ : S3) (m j : Nat) : nw (tdS σ m j) = nw σ := by
  unfold tdS
  split
  · rw [nw_mlA, nw_suk (by decide)]
  · rfl
theorem nm_tdF (σ : S3) (m : Nat) : ∀ j, nm (tdF σ m j) = nm σ
  | 0 => rfl
  | j + 1 => (nm_tdS _ _ _).trans (nm_tdF σ m j)
theorem nw_tdF (σ : S3) (m : Nat) : ∀ j, nw (tdF σ m j) = nw σ
  | 0 => rfl
  | j + 1 => (nw_tdS _ _ _).trans (nw_tdF σ m j)
theorem inX4_takeDues_X4 : (∀ w ∈ wsX40, w ∈ wsX4_takeDues) := by decide +kernel
set_option maxHeartbeats 1000000 in
set_option maxRecDepth 100000 in
theorem lp_X4_takeDues {p : Program} {l : Launch} {e : Env} {s : State} {m : MethodId} {args : Array Value} {below : List Frame} {meth : Method} {c : Code} {Q : State → Prop} (S : CallFix p m c cX4_takeDues 3 s args wsX4_takeDues RX4) {D : va_G} {cy : Nat → ClassId} {ad : Nat → Nat} {σ : S3} {mm : Nat} (hmm : mm < 60) (hX : True) (hnmσ : nm σ ≤ 16) : ∀ (k : Nat) (j : Nat) (τ : S3) (H : Heap) (locs : List Loc) (ls : Array Slot), nm σ - j < k → j ≤ nm σ → τ = tdF σ mm j → MW D cy s ad τ H locs → lv_has ls 3 [(0, .ref (ad 0)), (1, .int (nI mm)), (2, .int (nI j))] → (∀ (H : Heap) (locs : List Loc) (ls : Array Slot), MW D cy s ad (tdF σ mm (nm σ)) H locs → lv_has ls 3 [(0, .ref (ad 0))] → W p l e rmX4_takeDues s m args below meth c H locs 0 0 Q (F0 m 72 ls [])) → W p l e rmX4_takeDues s m args below meth c H locs 0 0 Q (F0 m 10 ls []) := by
  have hx := S.1
  have hb := S.2.1
  have hts := S.2.2.2.2
  intro k
  induction k with
  | zero => intro j τ H locs ls hk; exact absurd hk (Nat.not_lt_zero _)
  | succ k ih =>
    intro j τ H locs ls hk hj hτ hw hl kk
    refine lv_iload_n hx hb dX4_takeDues_10 rfl (lv_at hl 2 rfl) ?_
    refine lv_aload_n hx hb dX4_takeDues_11 rfl (lv_at hl 0 rfl) ?_
    refine xr_get S hw (j := 5) (by decide) rfl rfl inX4_takeDues_X4 (by decide) (hts (.fieldLink RX4 72 "UnionOfficeModel" "memberMany" "I") (by decide +kernel)) rfl dX4_takeDues_12 ?_
    refine lv_icmp_ge (tgt := 72) hx hb dX4_takeDues_15 (by decide) (fun c1 => ?_) (fun c1 => ?_)
    · have hj6 : j = nm σ := by
        have := nm_le τ
        have hq := (nI_leI (a := nm τ) (b := j) (by omega) (by omega)).mp c1
        rw [hτ, nm_tdF] at hq
        omega
      exact kk H locs ls (by rw [← hj6, ← hτ]; exact hw) (lv_sub hl [0] rfl)
    · have hnm16 := nm_le τ
      have hnmτ : nm τ = nm σ := by rw [hτ, nm_tdF]
      have hj6 : j < nm τ := (lnm (by omega) (by omega)).mp c1
      refine lv_aload_n hx hb dX4_takeDues_18 rfl (lv_at hl 0 rfl) ?_
      refine xr_get S hw (j := 8) (by decide) rfl rfl inX4_takeDues_X4 (by decide) (hts (.fieldLink RX4 19 "UnionOfficeModel" "hasLeft" "[Z") (by decide +kernel)) rfl dX4_takeDues_19 ?_
      refine lv_iload_n hx hb dX4_takeDues_22 rfl (lv_at hl 2 rfl) ?_
      refine xv_zald S hw (t0 := 1) (v := τ 3 j 0) (by decide) rfl rfl (by omega) (by decide) rfl dX4_takeDues_23 ?_
      refine lv_if_ne (tgt := 66) hx hb dX4_takeDues_24 (by decide) (fun c2 => ?_) (fun c2 => ?_)
      · refine lv_iinc (v := nI (j + 1)) (lv' := [(2, .int (nI (j + 1))), (0, .ref (ad 0)), (1, .int (nI mm))]) hx hb dX4_takeDues_66 hl (k := 2) rfl (nI_1 j) (by decide) rfl (fun ls hl => ?_)
        refine lv_goto (tgt := 10) hx hb dX4_takeDues_69 (by decide) ?_
        exact ih (j + 1) (τ) H locs ls (by omega) (by omega) (by show _ = tdS (tdF σ mm j) mm j; rw [← hτ]; exact (if_neg (fun q => c2 q.1)).symm) hw (lv_sub hl [1, 2, 0] rfl) kk
      · refine lv_aload_n hx hb dX4_takeDues_27 rfl (lv_at hl 0 rfl) ?_
        refine xr_get S hw (j := 9) (by decide) rfl rfl inX4_takeDues_X4 (by decide) (hts (.fieldLink RX4 23 "UnionOfficeModel" "isAway" "[Z") (by decide +kernel)) rfl dX4_takeDues_28 ?_
        refine lv_iload_n hx hb dX4_takeDues_31 rfl (lv_at hl 2 rfl) ?_
        refine xv_zald S hw (t0 := 1) (v := τ 4 j 0) (by decide) rfl rfl (by omega) (by decide) rfl dX4_takeDues_32 ?_
        refine lv_if_ne (tgt := 66) hx hb dX4_takeDues_33 (by decide) (fun c3 => ?_) (fun c3 => ?_)
        · refine lv_iinc (v := nI (j + 1)) (lv' := [(2, .int (nI (j + 1))), (0, .ref (ad 0)), (1, .int (nI mm))]) hx hb dX4_takeDues_66 hl (k := 2) rfl (nI_1 j) (by decide) rfl (fun ls hl => ?_)
          refine lv_goto (tgt := 10) hx hb dX4_takeDues_69 (by decide) ?_
          exact ih (j + 1) (τ) H locs ls (by omega) (by omega) (by show _ = tdS (tdF σ mm j) mm j; rw [← hτ]; exact (if_neg (fun q => c3 q.2)).symm) hw (lv_sub hl [1, 2, 0] rfl) kk
        · refine lv_aload_n hx hb dX4_takeDues_36 rfl (lv_at hl 0 rfl) ?_
          refine xr_get S hw (j := 12) (by decide) rfl rfl inX4_takeDues_X4 (by decide) (hts (.fieldLink RX4 32 "UnionOfficeModel" "debts" "[I") (by decide +kernel)) rfl dX4_takeDues_37 ?_
          refine lv_bipush (v := 60) hx hb dX4_takeDues_40 (by decide) ?_
          refine lv_iload_n hx hb dX4_takeDues_42 rfl (lv_at hl 2 rfl) ?_
          refine lv_imul hx hb dX4_takeDues_43 ?_
          refine lv_iload_n hx hb dX4_takeDues_44 rfl (lv_at hl 1 rfl) ?_
          refine lv_iadd hx hb dX4_takeDues_45 ?_
          rw [show ((60 * (nI j)) + (nI mm)) = nI (60 * j + mm) from mulN 60 j mm]
          refine lv_dup2_11 hx hb dX4_takeDues_46 rfl rfl ?_
          refine xv_iald S hw (t0 := 0) (v := τ 7 j mm) (by decide) rfl rfl (by omega) (by decide) (fl60 _ (by omega)) dX4_takeDues_47 ?_
          refine lv_aload_n hx hb dX4_takeDues_48 rfl (lv_at hl 0 rfl) ?_
          refine xr_get S hw (j := 0) (by decide) rfl rfl inX4_takeDues_X4 (by decide) (hts (.fieldLink RX4 7 "UnionOfficeModel" "duesOf" "[I") (by decide +kernel)) rfl dX4_takeDues_49 ?_
          refine lv_aload_n hx hb dX4_takeDues_52 rfl (lv_at hl 0 rfl) ?_
          refine xr_get S hw (j := 7) (by decide) rfl rfl inX4_takeDues_X4 (by decide) (hts (.fieldLink RX4 16 "UnionOfficeModel" "bands" "[I") (by decide +kernel)) rfl dX4_takeDues_53 ?_
          refine lv_iload_n hx hb dX4_takeDues_56 rfl (lv_at hl 2 rfl) ?_
          refine xv_iald S hw (t0 := 0) (v := nI (bd τ j)) (by decide) rfl rfl (by omega) (by decide) rfl dX4_takeDues_57 ?_
          have hql1 := bd_lt τ j
          refine xv_iald S hw (t0 := 0) (v := τ 0 (bd τ j) 0) (by decide) rfl rfl (by omega) (by decide) rfl dX4_takeDues_58 ?_
          refine lv_iadd hx hb dX4_takeDues_59 ?_
          obtain ⟨σ1, hσ1⟩ : ∃ y : S3, y = su τ 7 j mm ((τ 7 j mm) + (τ 0 (bd τ j) 0)) := ⟨_, rfl⟩
          refine xn_iast S hw (t0 := 0) (by decide) rfl rfl (by omega) (by decide) dX4_takeDues_60 (mE cy ad σ1) (by rw [hσ1]; exact mu_debts _ _ _ j (by omega) _) (fun H locs hw => ?_)
          refine lv_aload_n hx hb dX4_takeDues_61 rfl (lv_at hl 0 rfl) ?_
          refine lv_iload_n hx hb dX4_takeDues_62 rfl (lv_at hl 2 rfl) ?_
          refine xc_Mv hw (va_runV (As := [.int (nI j)]) (rest := []) S (c_X4_lay l D cy ad σ1 j (by omega) _) (cwV 1 S.2.2.2.2 gX4_takeDues_X4_lay rfl rfl rfl (by decide +kernel) ⟨Nat.le_of_ble_eq_true rfl, Nat.le_of_ble_eq_true rfl⟩) (xc_preV (XOK.tt _ _) hX hw (by decide) rfl rfl rfl) rfl rfl hl.1 rfl (lv_room (Nat.le_of_ble_eq_true rfl)) dX4_takeDues_63 ⟨Nat.le_of_ble_eq_true rfl, Nat.le_of_ble_eq_true rfl⟩) (fun u H locs hp hw => ?_)
          obtain rfl := hp
          refine lv_iinc (v := nI (j + 1)) (lv' := [(2, .int (nI (j + 1))), (0, .ref (ad 0)), (1, .int (nI mm))]) hx hb dX4_takeDues_66 hl (k := 2) rfl (nI_1 j) (by decide) rfl (fun ls hl => ?_)
          refine lv_goto (tgt := 10) hx hb dX4_takeDues_69 (by decide) ?_
          exact ih (j + 1) (mlA σ1 j) H locs ls (by omega) (by omega) (by show _ = tdS (tdF σ mm j) mm j; rw [← hτ, show tdS τ mm j = _ from if_pos ⟨c2, c3⟩, hσ1]) hw (lv_sub hl [1, 2, 0] rfl) kk
set_option maxHeartbeats 1000000 in
set_option maxRecDepth 100000 in
/-- takeDues -/
theorem c_X4_takeDues (l : Launch) (D : va_G) (cy : Nat → ClassId) (ad : Nat → Nat) (σ : S3) (hnw : nw σ < 1800) : MM l yX4_takeDues wsX4_takeDues rmX4_takeDues D cy ad [.ref (ad 0)] σ (xPv fun u => u = tdF σ (nw σ / 30) (nm σ)) := by
  refine xs_M (cc := cX4_takeDues) (maxL := 3) (ret := none) (by decide +kernel) rfl (Nat.le_of_ble_eq_true rfl) ?_
  intro p e s m below meth c ls S hr hlocks hnm hw hX hl
  have S : CallFix p m c cX4_takeDues 3 s [.ref (ad 0)].toArray wsX4_takeDues RX4 := S
  have hx := S.1
  have hb := S.2.1
  have hts := S.2.2.2.2
  have hl : lv_has ls 3 [(0, .ref (ad 0))] := hl
  have hnm16 := nm_le σ
  have hnw18 := nw_le σ
  refine lv_aload_n hx hb dX4_takeDues_0 rfl (lv_at hl 0 rfl) ?_
  refine xr_get S hw (j := 2) (by decide) rfl rfl inX4_takeDues_X4 (by decide) (hts (.fieldLink RX4 79 "UnionOfficeModel" "now" "I") (by decide +kernel)) rfl dX4_takeDues_1 ?_
  refine lv_bipush (v := 30) hx hb dX4_takeDues_4 (by decide) ?_
  refine lv_idiv hx hb dX4_takeDues_6 (by decide) ?_
  rw [show nI (nw σ) / 30 = nI (nw σ / 30) from pk_div (by omega) (by decide) (by decide)]
  refine lv_istore_n (lv' := [(1, .int (nI (nw σ / 30))), (0, .ref (ad 0))]) hx hb dX4_takeDues_7 rfl hl (by decide) rfl (fun ls hl => ?_)
  refine lv_iconst (v := 0) hx hb dX4_takeDues_8 (by decide) ?_
  refine lv_istore_n (lv' := [(2, .int 0), (1, .int (nI (nw σ / 30))), (0, .ref (ad 0))]) hx hb dX4_takeDues_9 rfl hl (by decide) rfl (fun ls hl => ?_)
  refine lp_X4_takeDues S (mm := nw σ / 30) (by omega) trivial hnm16 17 0 σ _ _ ls (by omega) (by omega) rfl hw (lv_sub hl [2, 1, 0] rfl) (fun H locs ls hw hl => ?_)
  exact xe_v S.1 S.2.1 hr hlocks hw (rfl) (Nat.le_of_ble_eq_true rfl) (Nat.le_of_ble_eq_true rfl) dX4_takeDues_72
abbrev ehP (σ : S3) (x : Int32) : Prop := ¬ x < 0 ∧ ¬ nI (nw σ) < 30 * (x + 1)
abbrev rmX4_hasEnded : Room := { frames := 0, cells := 0, slots := 0, locals := 0 }
theorem inX4_hasEnded_X4 : (∀ w ∈ wsX40, w ∈ wsX4_hasEnded) := by decide +kernel
set_option maxHeartbeats 1000000 in
set_option maxRecDepth 100000 in
/-- hasEnded -/
theorem c_X4_hasEnded (l : Launch) (D : va_G) (cy : Nat → ClassId) (ad : Nat → Nat) (σ : S3) (x0 : Int32) : MM l yX4_hasEnded wsX4_hasEnded rmX4_hasEnded D cy ad [.ref (ad 0), .int x0] σ (xPi fun r u => u = σ ∧ r = bI (ehP σ x0)) := by
  refine xs_M (cc := cX4_hasEnded) (maxL := 2) (ret := (some .boolean)) (by decide +kernel) rfl (Nat.le_of_ble_eq_true rfl) ?_
  intro p e s m below meth c ls S hr hlocks hnm hw hX hl
  have S : CallFix p m c cX4_hasEnded 2 s [.ref (ad 0), .int x0].toArray wsX4_hasEnded RX4 := S
  have hx := S.1
  have hb := S.2.1
  have hts := S.2.2.2.2
  have hl : lv_has ls 2 [(0, .ref (ad 0)), (1, .int x0)] := hl
  have hnm16 := nm_le σ
  have hnw18 := nw_le σ
  refine lv_iload_n hx hb dX4_hasEnded_0 rfl (lv_at hl 1 rfl) ?_
  refine lv_if_lt (tgt := 21) hx hb dX4_hasEnded_1 (by decide) (fun c1 => ?_) (fun c1 => ?_)
  · refine lv_iconst (v := 0) hx hb dX4_hasEnded_21 (by decide) ?_
    exact xe_z S.1 S.2.1 hr (Or.inl rfl) hlocks hw (⟨rfl, by simp [bI, ehP, c1]⟩) (Nat.le_of_ble_eq_true rfl) (Nat.le_of_ble_eq_true rfl) dX4_hasEnded_22
  · refine lv_aload_n hx hb dX4_hasEnded_4 rfl (lv_at hl 0 rfl) ?_
    refine xr_get S hw (j := 2) (by decide) rfl rfl inX4_hasEnded_X4 (by decide) (hts (.fieldLink RX4 79 "UnionOfficeModel" "now" "I") (by decide +kernel)) rfl dX4_hasEnded_5 ?_
    refine lv_bipush (v := 30) hx hb dX4_hasEnded_8 (by decide) ?_
    refine lv_iload_n hx hb dX4_hasEnded_10 rfl (lv_at hl 1 rfl) ?_
    refine lv_iconst (v := 1) hx hb dX4_hasEnded_11 (by decide) ?_
    refine lv_iadd hx hb dX4_hasEnded_12 ?_
    refine lv_imul hx hb dX4_hasEnded_13 ?_
    refine lv_icmp_lt (tgt := 21) hx hb dX4_hasEnded_14 (by decide) (fun c2 => ?_) (fun c2 => ?_)
    · refine lv_iconst (v := 0) hx hb dX4_hasEnded_21 (by decide) ?_
      exact xe_z S.1 S.2.1 hr (Or.inl rfl) hlocks hw (⟨rfl, by simp [bI, ehP, c1, c2]⟩) (Nat.le_of_ble_eq_true rfl) (Nat.le_of_ble_eq_true rfl) dX4_hasEnded_22
    · refine lv_iconst (v := 1) hx hb dX4_hasEnded_17 (by decide) ?_
      refine lv_goto (tgt := 22) hx hb dX4_hasEnded_18 (by decide) ?_
      exact xe_z S.1 S.2.1 hr (Or.inr rfl) hlocks hw (⟨rfl, by simp [bI, ehP, c1, c2]⟩) (Nat.le_of_ble_eq_true rfl) (Nat.le_of_ble_eq_true rfl) dX4_hasEnded_22
abbrev rmX4_thrown : Room := { frames := 0, cells := 0, slots := 0, locals := 0 }
theorem inX4_thrown_X4 : (∀ w ∈ wsX40, w ∈ wsX4_thrown) := by decide +kernel
set_option maxHeartbeats 1000000 in
set_option maxRecDepth 100000 in
/-- thrown -/
theorem c_X4_thrown (l : Launch) (D : va_G) (cy : Nat → ClassId) (ad : Nat → Nat) (σ : S3)  : MM l yX4_thrown wsX4_thrown rmX4_thrown D cy ad [.ref (ad 0)] σ (xPi fun r u => u = σ ∧ r = σ 23 0 0) := by
  refine xs_M (cc := cX4_thrown) (maxL := 1) (ret := (some .int)) (by decide +kernel) rfl (Nat.le_of_ble_eq_true rfl) ?_
  intro p e s m below meth c ls S hr hlocks hnm hw hX hl
  have S : CallFix p m c cX4_thrown 1 s [.ref (ad 0)].toArray wsX4_thrown RX4 := S
  have hx := S.1
  have hb := S.2.1
  have hts := S.2.2.2.2
  have hl : lv_has ls 1 [(0, .ref (ad 0))] := hl
  have hnm16 := nm_le σ
  have hnw18 := nw_le σ
  refine lv_aload_n hx hb dX4_thrown_0 rfl (lv_at hl 0 rfl) ?_
  refine xr_get S hw (j := 22) (by decide) rfl rfl inX4_thrown_X4 (by decide) (hts (.fieldLink RX4 69 "UnionOfficeModel" "thrown" "I") (by decide +kernel)) rfl dX4_thrown_1 ?_
  exact xe_i S.1 S.2.1 hr hlocks hw (⟨rfl, rfl⟩) (Nat.le_of_ble_eq_true rfl) (Nat.le_of_ble_eq_true rfl) dX4_thrown_4
