/-! ===== Integer.bitCount; UnionOffice$Branch ===== -/
def ushr (x y : Int32) : Int32 := (x.toUInt32 >>> (y.toUInt32 &&& Int32.toUInt32 31)).toInt32
def bc1 (x : Int32) : Int32 := x - (ushr x 1 &&& 1431655765)
def bc2 (x : Int32) : Int32 := (x &&& 858993459) + (ushr x 2 &&& 858993459)
def bc3 (x : Int32) : Int32 := x + ushr x 4 &&& 252645135
def bc4 (x : Int32) : Int32 := x + ushr x 8
def bc5 (x : Int32) : Int32 := x + ushr x 16
/-- Integer.bitCount, as its bytecode reckons -/
def bcF (x : Int32) : Int32 := bc5 (bc4 (bc3 (bc2 (bc1 x)))) &&& 63
abbrev rmJ6_bitCount_0f7a4 : Room := { frames := 0, cells := 0, slots := 0, locals := 0 }
set_option maxHeartbeats 1000000 in
set_option maxRecDepth 100000 in
/-- Integer.bitCount -/
theorem c_J6_bitCount_0f7a4 (l : Launch) (D : va_G) (cy : Nat → ClassId) (ad : Nat → Nat) (n : Nat) (σ : S3) (x0 : Int32) : CM l yJ6_bitCount_0f7a4 wsJ6_bitCount_0f7a4 rmJ6_bitCount_0f7a4 D cy ad n [.int x0] σ (xPi fun r u => u = σ ∧ r = bcF x0) := by
  refine xs_M (cc := cJ6_bitCount_0f7a4) (maxL := 1) (ret := (some .int)) (by decide +kernel) rfl (Nat.le_of_ble_eq_true rfl) ?_
  intro p e s m below meth c ls S hr hlocks hnm hw hX hl
  have S : CallFix p m c cJ6_bitCount_0f7a4 1 s [.int x0].toArray wsJ6_bitCount_0f7a4 RJ6 := S
  have hx := S.1
  have hb := S.2.1
  have hts := S.2.2.2.2
  have hl : lv_has ls 1 [(0, .int x0)] := hl
  refine lv_iload_n hx hb dJ6_bitCount_0f7a4_0 rfl (lv_at hl 0 rfl) ?_
  refine lv_iload_n hx hb dJ6_bitCount_0f7a4_1 rfl (lv_at hl 0 rfl) ?_
  refine lv_iconst (v := 1) hx hb dJ6_bitCount_0f7a4_2 (by decide) ?_
  refine lv_iushr (v := ushr x0 1) hx hb dJ6_bitCount_0f7a4_3 rfl ?_
  refine lv_ldcw hx hb S.2.2.2.1 (hts (.constant RJ6 265 (1431655765)) (by decide +kernel)) dJ6_bitCount_0f7a4_4 ?_
  refine lv_iand hx hb dJ6_bitCount_0f7a4_7 ?_
  refine lv_isub hx hb dJ6_bitCount_0f7a4_8 ?_
  refine lv_istore_n (lv' := [(0, .int (x0 - ((ushr x0 1) &&& 1431655765)))]) hx hb dJ6_bitCount_0f7a4_9 rfl hl (by decide) rfl (fun ls hl => ?_)
  refine lv_iload_n hx hb dJ6_bitCount_0f7a4_10 rfl (lv_at hl 0 rfl) ?_
  refine lv_ldcw hx hb S.2.2.2.1 (hts (.constant RJ6 266 (858993459)) (by decide +kernel)) dJ6_bitCount_0f7a4_11 ?_
  refine lv_iand hx hb dJ6_bitCount_0f7a4_14 ?_
  refine lv_iload_n hx hb dJ6_bitCount_0f7a4_15 rfl (lv_at hl 0 rfl) ?_
  refine lv_iconst (v := 2) hx hb dJ6_bitCount_0f7a4_16 (by decide) ?_
  refine lv_iushr (v := ushr (x0 - ((ushr x0 1) &&& 1431655765)) 2) hx hb dJ6_bitCount_0f7a4_17 rfl ?_
  refine lv_ldcw hx hb S.2.2.2.1 (hts (.constant RJ6 266 (858993459)) (by decide +kernel)) dJ6_bitCount_0f7a4_18 ?_
  refine lv_iand hx hb dJ6_bitCount_0f7a4_21 ?_
  refine lv_iadd hx hb dJ6_bitCount_0f7a4_22 ?_
  refine lv_istore_n (lv' := [(0, .int (((x0 - ((ushr x0 1) &&& 1431655765)) &&& 858993459) + ((ushr (x0 - ((ushr x0 1) &&& 1431655765)) 2) &&& 858993459)))]) hx hb dJ6_bitCount_0f7a4_23 rfl hl (by decide) rfl (fun ls hl => ?_)
  refine lv_iload_n hx hb dJ6_bitCount_0f7a4_24 rfl (lv_at hl 0 rfl) ?_
  refine lv_iload_n hx hb dJ6_bitCount_0f7a4_25 rfl (lv_at hl 0 rfl) ?_
  refine lv_iconst (v := 4) hx hb dJ6_bitCount_0f7a4_26 (by decide) ?_
  refine lv_iushr (v := ushr (((x0 - ((ushr x0 1) &&& 1431655765)) &&& 858993459) + ((ushr (x0 - ((ushr x0 1) &&& 1431655765)) 2) &&& 858993459)) 4) hx hb dJ6_bitCount_0f7a4_27 rfl ?_
  refine lv_iadd hx hb dJ6_bitCount_0f7a4_28 ?_
  refine lv_ldcw hx hb S.2.2.2.1 (hts (.constant RJ6 267 (252645135)) (by decide +kernel)) dJ6_bitCount_0f7a4_29 ?_
  refine lv_iand hx hb dJ6_bitCount_0f7a4_32 ?_
  refine lv_istore_n (lv' := [(0, .int (((((x0 - ((ushr x0 1) &&& 1431655765)) &&& 858993459) + ((ushr (x0 - ((ushr x0 1) &&& 1431655765)) 2) &&& 858993459)) + (ushr (((x0 - ((ushr x0 1) &&& 1431655765)) &&& 858993459) + ((ushr (x0 - ((ushr x0 1) &&& 1431655765)) 2) &&& 858993459)) 4)) &&& 252645135))]) hx hb dJ6_bitCount_0f7a4_33 rfl hl (by decide) rfl (fun ls hl => ?_)
  refine lv_iload_n hx hb dJ6_bitCount_0f7a4_34 rfl (lv_at hl 0 rfl) ?_
  refine lv_iload_n hx hb dJ6_bitCount_0f7a4_35 rfl (lv_at hl 0 rfl) ?_
  refine lv_bipush (v := 8) hx hb dJ6_bitCount_0f7a4_36 (by decide) ?_
  refine lv_iushr (v := ushr (((((x0 - ((ushr x0 1) &&& 1431655765)) &&& 858993459) + ((ushr (x0 - ((ushr x0 1) &&& 1431655765)) 2) &&& 858993459)) + (ushr (((x0 - ((ushr x0 1) &&& 1431655765)) &&& 858993459) + ((ushr (x0 - ((ushr x0 1) &&& 1431655765)) 2) &&& 858993459)) 4)) &&& 252645135) 8) hx hb dJ6_bitCount_0f7a4_38 rfl ?_
  refine lv_iadd hx hb dJ6_bitCount_0f7a4_39 ?_
  refine lv_istore_n (lv' := [(0, .int ((((((x0 - ((ushr x0 1) &&& 1431655765)) &&& 858993459) + ((ushr (x0 - ((ushr x0 1) &&& 1431655765)) 2) &&& 858993459)) + (ushr (((x0 - ((ushr x0 1) &&& 1431655765)) &&& 858993459) + ((ushr (x0 - ((ushr x0 1) &&& 1431655765)) 2) &&& 858993459)) 4)) &&& 252645135) + (ushr (((((x0 - ((ushr x0 1) &&& 1431655765)) &&& 858993459) + ((ushr (x0 - ((ushr x0 1) &&& 1431655765)) 2) &&& 858993459)) + (ushr (((x0 - ((ushr x0 1) &&& 1431655765)) &&& 858993459) + ((ushr (x0 - ((ushr x0 1) &&& 1431655765)) 2) &&& 858993459)) 4)) &&& 252645135) 8)))]) hx hb dJ6_bitCount_0f7a4_40 rfl hl (by decide) rfl (fun ls hl => ?_)
  refine lv_iload_n hx hb dJ6_bitCount_0f7a4_41 rfl (lv_at hl 0 rfl) ?_
  refine lv_iload_n hx hb dJ6_bitCount_0f7a4_42 rfl (lv_at hl 0 rfl) ?_
  refine lv_bipush (v := 16) hx hb dJ6_bitCount_0f7a4_43 (by decide) ?_
  refine lv_iushr (v := ushr ((((((x0 - ((ushr x0 1) &&& 1431655765)) &&& 858993459) + ((ushr (x0 - ((ushr x0 1) &&& 1431655765)) 2) &&& 858993459)) + (ushr (((x0 - ((ushr x0 1) &&& 1431655765)) &&& 858993459) + ((ushr (x0 - ((ushr x0 1) &&& 1431655765)) 2) &&& 858993459)) 4)) &&& 252645135) + (ushr (((((x0 - ((ushr x0 1) &&& 1431655765)) &&& 858993459) + ((ushr (x0 - ((ushr x0 1) &&& 1431655765)) 2) &&& 858993459)) + (ushr (((x0 - ((ushr x0 1) &&& 1431655765)) &&& 858993459) + ((ushr (x0 - ((ushr x0 1) &&& 1431655765)) 2) &&& 858993459)) 4)) &&& 252645135) 8)) 16) hx hb dJ6_bitCount_0f7a4_45 rfl ?_
  refine lv_iadd hx hb dJ6_bitCount_0f7a4_46 ?_
  refine lv_istore_n (lv' := [(0, .int (((((((x0 - ((ushr x0 1) &&& 1431655765)) &&& 858993459) + ((ushr (x0 - ((ushr x0 1) &&& 1431655765)) 2) &&& 858993459)) + (ushr (((x0 - ((ushr x0 1) &&& 1431655765)) &&& 858993459) + ((ushr (x0 - ((ushr x0 1) &&& 1431655765)) 2) &&& 858993459)) 4)) &&& 252645135) + (ushr (((((x0 - ((ushr x0 1) &&& 1431655765)) &&& 858993459) + ((ushr (x0 - ((ushr x0 1) &&& 1431655765)) 2) &&& 858993459)) + (ushr (((x0 - ((ushr x0 1) &&& 1431655765)) &&& 858993459) + ((ushr (x0 - ((ushr x0 1) &&& 1431655765)) 2) &&& 858993459)) 4)) &&& 252645135) 8)) + (ushr ((((((x0 - ((ushr x0 1) &&& 1431655765)) &&& 858993459) + ((ushr (x0 - ((ushr x0 1) &&& 1431655765)) 2) &&& 858993459)) + (ushr (((x0 - ((ushr x0 1) &&& 1431655765)) &&& 858993459) + ((ushr (x0 - ((ushr x0 1) &&& 1431655765)) 2) &&& 858993459)) 4)) &&& 252645135) + (ushr (((((x0 - ((ushr x0 1) &&& 1431655765)) &&& 858993459) + ((ushr (x0 - ((ushr x0 1) &&& 1431655765)) 2) &&& 858993459)) + (ushr (((x0 - ((ushr x0 1) &&& 1431655765)) &&& 858993459) + ((ushr (x0 - ((ushr x0 1) &&& 1431655765)) 2) &&& 858993459)) 4)) &&& 252645135) 8)) 16)))]) hx hb dJ6_bitCount_0f7a4_47 rfl hl (by decide) rfl (fun ls hl => ?_)
  refine lv_iload_n hx hb dJ6_bitCount_0f7a4_48 rfl (lv_at hl 0 rfl) ?_
  refine lv_bipush (v := 63) hx hb dJ6_bitCount_0f7a4_49 (by decide) ?_
  refine lv_iand hx hb dJ6_bitCount_0f7a4_51 ?_
  exact xe_i S.1 S.2.1 hr hlocks hw (⟨rfl, rfl⟩) (Nat.le_of_ble_eq_true rfl) (Nat.le_of_ble_eq_true rfl) dJ6_bitCount_0f7a4_52
abbrev rmX1_beginBallot : Room := { frames := 0, cells := 0, slots := 0, locals := 0 }
def bgF (σ : S3) (b : Nat) : S3 := su (su (su σ 10 b 0 1) 12 b 0 0) 11 b 0 0
theorem inX1_beginBallot_X1 : (∀ w ∈ wsX10, w ∈ wsX1_beginBallot) := by decide +kernel
set_option maxHeartbeats 1000000 in
set_option maxRecDepth 100000 in
/-- beginBallot() -/
theorem c_X1_beginBallot (l : Launch) (D : va_G) (cy : Nat → ClassId) (ad : Nat → Nat) (n : Nat) (σ : S3) (b : Nat) (hb4 : b < 4) : CM l yX1_beginBallot wsX1_beginBallot rmX1_beginBallot D cy ad n [.ref (ad (7 + b))] σ (xPv fun u => u = bgF σ b) := by
  refine xs_M (cc := cX1_beginBallot) (maxL := 1) (ret := none) (by decide +kernel) rfl (Nat.le_of_ble_eq_true rfl) ?_
  intro p e s m below meth c ls S hr hlocks hnm hw hX hl
  have S : CallFix p m c cX1_beginBallot 1 s [.ref (ad (7 + b))].toArray wsX1_beginBallot RX1 := S
  have hx := S.1
  have hb := S.2.1
  have hts := S.2.2.2.2
  have hl : lv_has ls 1 [(0, .ref (ad (7 + b)))] := hl
  refine lv_aload_n hx hb dX1_beginBallot_0 rfl (lv_at hl 0 rfl) ?_
  refine lv_iconst (v := 1) hx hb dX1_beginBallot_1 (by decide) ?_
  obtain ⟨σ1, hσ1⟩ : ∃ y : S3, y = su σ 10 b 0 1 := ⟨_, rfl⟩
  refine xr_put S hw tyX1 tyX1_ok nmX1 (j := 1) (k_br n hb4) (cE_br _ _ _ _ hb4) rfl inX1_beginBallot_X1 (by decide) (hts (.fieldLink RX1 15 "UnionOffice$Branch" "hasBallot" "Z") (by decide +kernel)) rfl (tyX1_ok 1 (by decide)) (nar_z (Or.inr rfl)) (fit_z (Or.inr rfl)) (Nat.le_of_ble_eq_true rfl) dX1_beginBallot_2 (cE cy ad n σ1) (by rw [hσ1]; exact up_ballot _ _ _ _ hb4 _) (fun H locs hw => ?_)
  refine lv_aload_n hx hb dX1_beginBallot_5 rfl (lv_at hl 0 rfl) ?_
  refine lv_iconst (v := 0) hx hb dX1_beginBallot_6 (by decide) ?_
  obtain ⟨σ2, hσ2⟩ : ∃ y : S3, y = su σ1 12 b 0 0 := ⟨_, rfl⟩
  refine xr_put S hw tyX1 tyX1_ok nmX1 (j := 2) (k_br n hb4) (cE_br _ _ _ _ hb4) rfl inX1_beginBallot_X1 (by decide) (hts (.fieldLink RX1 19 "UnionOffice$Branch" "voters" "I") (by decide +kernel)) rfl (tyX1_ok 2 (by decide)) rfl rfl (Nat.le_of_ble_eq_true rfl) dX1_beginBallot_7 (cE cy ad n σ2) (by rw [hσ2]; exact up_voters _ _ _ _ hb4 _) (fun H locs hw => ?_)
  refine lv_aload_n hx hb dX1_beginBallot_10 rfl (lv_at hl 0 rfl) ?_
  refine lv_iconst (v := 0) hx hb dX1_beginBallot_11 (by decide) ?_
  obtain ⟨σ3, hσ3⟩ : ∃ y : S3, y = su σ2 11 b 0 0 := ⟨_, rfl⟩
  refine xr_put S hw tyX1 tyX1_ok nmX1 (j := 3) (k_br n hb4) (cE_br _ _ _ _ hb4) rfl inX1_beginBallot_X1 (by decide) (hts (.fieldLink RX1 23 "UnionOffice$Branch" "yesVoters" "I") (by decide +kernel)) rfl (tyX1_ok 3 (by decide)) rfl rfl (Nat.le_of_ble_eq_true rfl) dX1_beginBallot_12 (cE cy ad n σ3) (by rw [hσ3]; exact up_yes _ _ _ _ hb4 _) (fun H locs hw => ?_)
  exact xe_v S.1 S.2.1 hr hlocks hw (by rw [hσ3, hσ2, hσ1]; rfl) (Nat.le_of_ble_eq_true rfl) (Nat.le_of_ble_eq_true rfl) dX1_beginBallot_15
abbrev rmX1_hasVoteOf : Room := { frames := 1, cells := 0, slots := 0, locals := 20 }
abbrev bitI (i : Nat) : Int32 := 1 <<< (nI i &&& 31)
def hvI (σ : S3) (b i : Nat) : Int32 := if σ 12 b 0 &&& bitI i = 0 then 0 else 1
theorem inX1_hasVoteOf_X1 : (∀ w ∈ wsX10, w ∈ wsX1_hasVoteOf) := by decide +kernel
set_option maxHeartbeats 1000000 in
set_option maxRecDepth 100000 in
/-- hasVoteOf(member) -/
theorem c_X1_hasVoteOf (l : Launch) (D : va_G) (cy : Nat → ClassId) (ad : Nat → Nat) (n : Nat) (σ : S3) (b : Nat) (hb4 : b < 4) (i : Nat) (hi : i < n) : CM l yX1_hasVoteOf wsX1_hasVoteOf rmX1_hasVoteOf D cy ad n [.ref (ad (7 + b)), .ref (ad (15 + 3 * i))] σ (xPi fun r u => u = σ ∧ r = hvI σ b i) := by
  refine xs_M (cc := cX1_hasVoteOf) (maxL := 2) (ret := (some .boolean)) (by decide +kernel) rfl (Nat.le_of_ble_eq_true rfl) ?_
  intro p e s m below meth c ls S hr hlocks hnm hw hX hl
  have S : CallFix p m c cX1_hasVoteOf 2 s [.ref (ad (7 + b)), .ref (ad (15 + 3 * i))].toArray wsX1_hasVoteOf RX1 := S
  have hx := S.1
  have hb := S.2.1
  have hts := S.2.2.2.2
  have hl : lv_has ls 2 [(0, .ref (ad (7 + b))), (1, .ref (ad (15 + 3 * i)))] := hl
  refine lv_aload_n hx hb dX1_hasVoteOf_0 rfl (lv_at hl 0 rfl) ?_
  refine xr_get S hw (j := 2) (k_br n hb4) (cE_br _ _ _ _ hb4) rfl inX1_hasVoteOf_X1 (by decide) (hts (.fieldLink RX1 19 "UnionOffice$Branch" "voters" "I") (by decide +kernel)) rfl dX1_hasVoteOf_1 ?_
  refine lv_aload_n hx hb dX1_hasVoteOf_4 rfl (lv_at hl 1 rfl) ?_
  refine xc_Mi hw (va_runVN (As := []) (rest := [.int (σ 12 b 0)]) S (c_X2_bit l D cy ad n σ i hi _) ⟨va_cnB 0 S.2.2.2.2 gX1_hasVoteOf_X2_bit_n35 rfl rfl rfl (hX.1.w (w := .methodLinkNest RX1 35 yX2_bit "UnionOffice") (by decide +kernel)) (hts (.initialized RX2) (by decide +kernel)) (by decide +kernel) ⟨Nat.le_of_ble_eq_true rfl, Nat.le_of_ble_eq_true rfl⟩, hts (.instanceMethod yX2_bit) (by decide +kernel), hts (.selects RX2 yX2_bit yX2_bit) (by decide +kernel)⟩ (xc_preV (cX_ok _ _) hX hw (k_m hi) (cE_m _ _ _ _ _) rfl rfl) rfl rfl hl.1 rfl (lv_room (Nat.le_of_ble_eq_true rfl)) dX1_hasVoteOf_5 ⟨Nat.le_of_ble_eq_true rfl, Nat.le_of_ble_eq_true rfl⟩) (fun r9 u H locs hp hw => ?_)
  obtain ⟨hu9, rfl⟩ := hp
  rw [hu9] at hw
  clear hu9
  refine lv_iand hx hb dX1_hasVoteOf_8 ?_
  refine lv_if_eq (tgt := 16) hx hb dX1_hasVoteOf_9 (by decide) (fun c1 => ?_) (fun c1 => ?_)
  · refine lv_iconst (v := 0) hx hb dX1_hasVoteOf_16 (by decide) ?_
    exact xe_z S.1 S.2.1 hr (Or.inl rfl) hlocks hw (⟨rfl, by simp [hvI, c1]⟩) (Nat.le_of_ble_eq_true rfl) (Nat.le_of_ble_eq_true rfl) dX1_hasVoteOf_17
  · refine lv_iconst (v := 1) hx hb dX1_hasVoteOf_12 (by decide) ?_
    refine lv_goto (tgt := 17) hx hb dX1_hasVoteOf_13 (by decide) ?_
    exact xe_z S.1 S.2.1 hr (Or.inr rfl) hlocks hw (⟨rfl, by simp [hvI, c1]⟩) (Nat.le_of_ble_eq_true rfl) (Nat.le_of_ble_eq_true rfl) dX1_hasVoteOf_17
abbrev rmX1_takeVote : Room := { frames := 1, cells := 0, slots := 0, locals := 20 }
def tvF (σ : S3) (b i : Nat) (y : Int32) : S3 := if y = 0 then su σ 12 b 0 (σ 12 b 0 ||| bitI i) else su (su σ 12 b 0 (σ 12 b 0 ||| bitI i)) 11 b 0 (σ 11 b 0 ||| bitI i)
theorem inX1_takeVote_X1 : (∀ w ∈ wsX10, w ∈ wsX1_takeVote) := by decide +kernel
set_option maxHeartbeats 1000000 in
set_option maxRecDepth 100000 in
/-- takeVote(member, isYes) -/
theorem c_X1_takeVote (l : Launch) (D : va_G) (cy : Nat → ClassId) (ad : Nat → Nat) (n : Nat) (σ : S3) (b : Nat) (hb4 : b < 4) (i : Nat) (hi : i < n) (x0 : Int32) : CM l yX1_takeVote wsX1_takeVote rmX1_takeVote D cy ad n [.ref (ad (7 + b)), .ref (ad (15 + 3 * i)), .int x0] σ (xPv fun u => u = tvF σ b i x0) := by
  refine xs_M (cc := cX1_takeVote) (maxL := 3) (ret := none) (by decide +kernel) rfl (Nat.le_of_ble_eq_true rfl) ?_
  intro p e s m below meth c ls S hr hlocks hnm hw hX hl
  have S : CallFix p m c cX1_takeVote 3 s [.ref (ad (7 + b)), .ref (ad (15 + 3 * i)), .int x0].toArray wsX1_takeVote RX1 := S
  have hx := S.1
  have hb := S.2.1
  have hts := S.2.2.2.2
  have hl : lv_has ls 3 [(0, .ref (ad (7 + b))), (1, .ref (ad (15 + 3 * i))), (2, .int x0)] := hl
  refine lv_aload_n hx hb dX1_takeVote_0 rfl (lv_at hl 0 rfl) ?_
  refine lv_dup hx hb dX1_takeVote_1 rfl ?_
  refine xr_get S hw (j := 2) (k_br n hb4) (cE_br _ _ _ _ hb4) rfl inX1_takeVote_X1 (by decide) (hts (.fieldLink RX1 19 "UnionOffice$Branch" "voters" "I") (by decide +kernel)) rfl dX1_takeVote_2 ?_
  refine lv_aload_n hx hb dX1_takeVote_5 rfl (lv_at hl 1 rfl) ?_
  refine xc_Mi hw (va_runVN (As := []) (rest := [.int (σ 12 b 0), .ref (ad (7 + b))]) S (c_X2_bit l D cy ad n σ i hi _) ⟨va_cnB 0 S.2.2.2.2 gX1_takeVote_X2_bit_n35 rfl rfl rfl (hX.1.w (w := .methodLinkNest RX1 35 yX2_bit "UnionOffice") (by decide +kernel)) (hts (.initialized RX2) (by decide +kernel)) (by decide +kernel) ⟨Nat.le_of_ble_eq_true rfl, Nat.le_of_ble_eq_true rfl⟩, hts (.instanceMethod yX2_bit) (by decide +kernel), hts (.selects RX2 yX2_bit yX2_bit) (by decide +kernel)⟩ (xc_preV (cX_ok _ _) hX hw (k_m hi) (cE_m _ _ _ _ _) rfl rfl) rfl rfl hl.1 rfl (lv_room (Nat.le_of_ble_eq_true rfl)) dX1_takeVote_6 ⟨Nat.le_of_ble_eq_true rfl, Nat.le_of_ble_eq_true rfl⟩) (fun r9 u H locs hp hw => ?_)
  obtain ⟨hu9, rfl⟩ := hp
  rw [hu9] at hw
  clear hu9
  refine lv_ior hx hb dX1_takeVote_9 ?_
  obtain ⟨σ1, hσ1⟩ : ∃ y : S3, y = su σ 12 b 0 ((σ 12 b 0) ||| (1 <<< (nI i &&& 31))) := ⟨_, rfl⟩
  refine xr_put S hw tyX1 tyX1_ok nmX1 (j := 2) (k_br n hb4) (cE_br _ _ _ _ hb4) rfl inX1_takeVote_X1 (by decide) (hts (.fieldLink RX1 19 "UnionOffice$Branch" "voters" "I") (by decide +kernel)) rfl (tyX1_ok 2 (by decide)) rfl rfl (Nat.le_of_ble_eq_true rfl) dX1_takeVote_10 (cE cy ad n σ1) (by rw [hσ1]; exact up_voters _ _ _ _ hb4 _) (fun H locs hw => ?_)
  refine lv_iload_n hx hb dX1_takeVote_13 rfl (lv_at hl 2 rfl) ?_
  refine lv_if_eq (tgt := 30) hx hb dX1_takeVote_14 (by decide) (fun c1 => ?_) (fun c1 => ?_)
  · exact xe_v S.1 S.2.1 hr hlocks hw (by rw [hσ1]; exact (if_pos c1).symm) (Nat.le_of_ble_eq_true rfl) (Nat.le_of_ble_eq_true rfl) dX1_takeVote_30
  · refine lv_aload_n hx hb dX1_takeVote_17 rfl (lv_at hl 0 rfl) ?_
    refine lv_dup hx hb dX1_takeVote_18 rfl ?_
    refine xr_get S hw (j := 3) (k_br n hb4) (cE_br _ _ _ _ hb4) rfl inX1_takeVote_X1 (by decide) (hts (.fieldLink RX1 23 "UnionOffice$Branch" "yesVoters" "I") (by decide +kernel)) rfl dX1_takeVote_19 ?_
    refine lv_aload_n hx hb dX1_takeVote_22 rfl (lv_at hl 1 rfl) ?_
    refine xc_Mi hw (va_runVN (As := []) (rest := [.int (σ1 11 b 0), .ref (ad (7 + b))]) S (c_X2_bit l D cy ad n σ1 i hi _) ⟨va_cnB 0 S.2.2.2.2 gX1_takeVote_X2_bit_n35 rfl rfl rfl (hX.1.w (w := .methodLinkNest RX1 35 yX2_bit "UnionOffice") (by decide +kernel)) (hts (.initialized RX2) (by decide +kernel)) (by decide +kernel) ⟨Nat.le_of_ble_eq_true rfl, Nat.le_of_ble_eq_true rfl⟩, hts (.instanceMethod yX2_bit) (by decide +kernel), hts (.selects RX2 yX2_bit yX2_bit) (by decide +kernel)⟩ (xc_preV (cX_ok _ _) hX hw (k_m hi) (cE_m _ _ _ _ _) rfl rfl) rfl rfl hl.1 rfl (lv_room (Nat.le_of_ble_eq_true rfl)) dX1_takeVote_23 ⟨Nat.le_of_ble_eq_true rfl, Nat.le_of_ble_eq_true rfl⟩) (fun r9 u H locs hp hw => ?_)
    obtain ⟨hu9, rfl⟩ := hp
    rw [hu9] at hw
    clear hu9
    refine lv_ior hx hb dX1_takeVote_26 ?_
    obtain ⟨σ2, hσ2⟩ : ∃ y : S3, y = su σ1 11 b 0 ((σ1 11 b 0) ||| (1 <<< (nI i &&& 31))) := ⟨_, rfl⟩
    refine xr_put S hw tyX1 tyX1_ok nmX1 (j := 3) (k_br n hb4) (cE_br _ _ _ _ hb4) rfl inX1_takeVote_X1 (by decide) (hts (.fieldLink RX1 23 "UnionOffice$Branch" "yesVoters" "I") (by decide +kernel)) rfl (tyX1_ok 3 (by decide)) rfl rfl (Nat.le_of_ble_eq_true rfl) dX1_takeVote_27 (cE cy ad n σ2) (by rw [hσ2]; exact up_yes _ _ _ _ hb4 _) (fun H locs hw => ?_)
    exact xe_v S.1 S.2.1 hr hlocks hw (by rw [hσ2, hσ1]; exact (if_neg c1).symm) (Nat.le_of_ble_eq_true rfl) (Nat.le_of_ble_eq_true rfl) dX1_takeVote_30
abbrev rmX1_countVotes : Room := { frames := 1, cells := 0, slots := 0, locals := 20 }
theorem inX1_countVotes_X1 : (∀ w ∈ wsX10, w ∈ wsX1_countVotes) := by decide +kernel
set_option maxHeartbeats 1000000 in
set_option maxRecDepth 100000 in
/-- countVotes() -/
theorem c_X1_countVotes (l : Launch) (D : va_G) (cy : Nat → ClassId) (ad : Nat → Nat) (n : Nat) (σ : S3) (b : Nat) (hb4 : b < 4) : CM l yX1_countVotes wsX1_countVotes rmX1_countVotes D cy ad n [.ref (ad (7 + b))] σ (xPi fun r u => u = σ ∧ r = bcF (σ 12 b 0)) := by
  refine xs_M (cc := cX1_countVotes) (maxL := 1) (ret := (some .int)) (by decide +kernel) rfl (Nat.le_of_ble_eq_true rfl) ?_
  intro p e s m below meth c ls S hr hlocks hnm hw hX hl
  have S : CallFix p m c cX1_countVotes 1 s [.ref (ad (7 + b))].toArray wsX1_countVotes RX1 := S
  have hx := S.1
  have hb := S.2.1
  have hts := S.2.2.2.2
  have hl : lv_has ls 1 [(0, .ref (ad (7 + b)))] := hl
  refine lv_aload_n hx hb dX1_countVotes_0 rfl (lv_at hl 0 rfl) ?_
  refine xr_get S hw (j := 2) (k_br n hb4) (cE_br _ _ _ _ hb4) rfl inX1_countVotes_X1 (by decide) (hts (.fieldLink RX1 19 "UnionOffice$Branch" "voters" "I") (by decide +kernel)) rfl dX1_countVotes_1 ?_
  refine xc_Mi hw (va_runS (As := [.int (σ 12 b 0)]) (rest := []) S (c_J6_bitCount_0f7a4 l D cy ad n σ (σ 12 b 0) _) (va_cwS 1 S.2.2.2.2 gX1_countVotes_J6_bitCount_0f7a4 rfl rfl rfl (by decide +kernel) ⟨Nat.le_of_ble_eq_true rfl, Nat.le_of_ble_eq_true rfl⟩) (xc_preS (cX_ok _ _) hX hw _) rfl rfl hl.1 rfl (lv_room (Nat.le_of_ble_eq_true rfl)) dX1_countVotes_4 ⟨Nat.le_of_ble_eq_true rfl, Nat.le_of_ble_eq_true rfl⟩) (fun r9 u H locs hp hw => ?_)
  obtain ⟨hu9, rfl⟩ := hp
  rw [hu9] at hw
  clear hu9
  exact xe_i S.1 S.2.1 hr hlocks hw (⟨rfl, rfl⟩) (Nat.le_of_ble_eq_true rfl) (Nat.le_of_ble_eq_true rfl) dX1_countVotes_7
abbrev rmX1_endBallot : Room := { frames := 2, cells := 0, slots := 0, locals := 40 }
def wonP (σ : S3) (b : Nat) (x : Int32) : Prop := ¬ bcF (σ 11 b 0) ≤ bcF (σ 12 b 0) - bcF (σ 11 b 0) ∧ ¬ 2 * bcF (σ 12 b 0) < x
def wonI (σ : S3) (b : Nat) (x : Int32) : Int32 := if bcF (σ 11 b 0) ≤ bcF (σ 12 b 0) - bcF (σ 11 b 0) then 0 else if 2 * bcF (σ 12 b 0) < x then 0 else 1
theorem wonI_01 (σ : S3) (b : Nat) (x : Int32) : wonI σ b x = 0 ∨ wonI σ b x = 1 := by
  unfold wonI
  split
  · exact Or.inl rfl
  · split
    · exact Or.inl rfl
    · exact Or.inr rfl
def ebF (σ : S3) (b : Nat) (x : Int32) : S3 := su (su σ 10 b 0 0) 13 b 0 (wonI σ b x)
theorem inX1_endBallot_X1 : (∀ w ∈ wsX10, w ∈ wsX1_endBallot) := by decide +kernel
set_option maxHeartbeats 1000000 in
set_option maxRecDepth 100000 in
/-- endBallot(standing) -/
theorem c_X1_endBallot (l : Launch) (D : va_G) (cy : Nat → ClassId) (ad : Nat → Nat) (n : Nat) (σ : S3) (b : Nat) (hb4 : b < 4) (x0 : Int32) : CM l yX1_endBallot wsX1_endBallot rmX1_endBallot D cy ad n [.ref (ad (7 + b)), .int x0] σ (xPv fun u => u = ebF σ b x0) := by
  refine xs_M (cc := cX1_endBallot) (maxL := 4) (ret := none) (by decide +kernel) rfl (Nat.le_of_ble_eq_true rfl) ?_
  intro p e s m below meth c ls S hr hlocks hnm hw hX hl
  have S : CallFix p m c cX1_endBallot 4 s [.ref (ad (7 + b)), .int x0].toArray wsX1_endBallot RX1 := S
  have hx := S.1
  have hb := S.2.1
  have hts := S.2.2.2.2
  have hl : lv_has ls 4 [(0, .ref (ad (7 + b))), (1, .int x0)] := hl
  refine lv_aload_n hx hb dX1_endBallot_0 rfl (lv_at hl 0 rfl) ?_
  refine xc_Mi hw (va_runV (As := []) (rest := []) S (c_X1_countVotes l D cy ad n σ b hb4 _) (cwV 0 S.2.2.2.2 gX1_endBallot_X1_countVotes rfl rfl rfl (by decide +kernel) ⟨Nat.le_of_ble_eq_true rfl, Nat.le_of_ble_eq_true rfl⟩) (xc_preV (cX_ok _ _) hX hw (k_br n hb4) (cE_br _ _ _ _ hb4) rfl rfl) rfl rfl hl.1 rfl (lv_room (Nat.le_of_ble_eq_true rfl)) dX1_endBallot_1 ⟨Nat.le_of_ble_eq_true rfl, Nat.le_of_ble_eq_true rfl⟩) (fun r9 u H locs hp hw => ?_)
  obtain ⟨hu9, rfl⟩ := hp
  rw [hu9] at hw
  clear hu9
  refine lv_istore_n (lv' := [(2, .int (bcF (σ 12 b 0))), (0, .ref (ad (7 + b))), (1, .int x0)]) hx hb dX1_endBallot_4 rfl hl (by decide) rfl (fun ls hl => ?_)
  refine lv_aload_n hx hb dX1_endBallot_5 rfl (lv_at hl 1 rfl) ?_
  refine xr_get S hw (j := 3) (k_br n hb4) (cE_br _ _ _ _ hb4) rfl inX1_endBallot_X1 (by decide) (hts (.fieldLink RX1 23 "UnionOffice$Branch" "yesVoters" "I") (by decide +kernel)) rfl dX1_endBallot_6 ?_
  refine xc_Mi hw (va_runS (As := [.int (σ 11 b 0)]) (rest := []) S (c_J6_bitCount_0f7a4 l D cy ad n σ (σ 11 b 0) _) (va_cwS 1 S.2.2.2.2 gX1_endBallot_J6_bitCount_0f7a4 rfl rfl rfl (by decide +kernel) ⟨Nat.le_of_ble_eq_true rfl, Nat.le_of_ble_eq_true rfl⟩) (xc_preS (cX_ok _ _) hX hw _) rfl rfl hl.1 rfl (lv_room (Nat.le_of_ble_eq_true rfl)) dX1_endBallot_9 ⟨Nat.le_of_ble_eq_true rfl, Nat.le_of_ble_eq_true rfl⟩) (fun r9 u H locs hp hw => ?_)
  obtain ⟨hu9, rfl⟩ := hp
  rw [hu9] at hw
  clear hu9
  refine lv_istore_n (lv' := [(3, .int (bcF (σ 11 b 0))), (2, .int (bcF (σ 12 b 0))), (0, .ref (ad (7 + b))), (1, .int x0)]) hx hb dX1_endBallot_12 rfl hl (by decide) rfl (fun ls hl => ?_)
  refine lv_aload_n hx hb dX1_endBallot_13 rfl (lv_at hl 2 rfl) ?_
  refine lv_iconst (v := 0) hx hb dX1_endBallot_14 (by decide) ?_
  obtain ⟨σ1, hσ1⟩ : ∃ y : S3, y = su σ 10 b 0 0 := ⟨_, rfl⟩
  refine xr_put S hw tyX1 tyX1_ok nmX1 (j := 1) (k_br n hb4) (cE_br _ _ _ _ hb4) rfl inX1_endBallot_X1 (by decide) (hts (.fieldLink RX1 15 "UnionOffice$Branch" "hasBallot" "Z") (by decide +kernel)) rfl (tyX1_ok 1 (by decide)) (nar_z (Or.inl rfl)) (fit_z (Or.inl rfl)) (Nat.le_of_ble_eq_true rfl) dX1_endBallot_15 (cE cy ad n σ1) (by rw [hσ1]; exact up_ballot _ _ _ _ hb4 _) (fun H locs hw => ?_)
  refine lv_aload_n hx hb dX1_endBallot_18 rfl (lv_at hl 2 rfl) ?_
  refine lv_iload_n hx hb dX1_endBallot_19 rfl (lv_at hl 0 rfl) ?_
  refine lv_iload_n hx hb dX1_endBallot_20 rfl (lv_at hl 1 rfl) ?_
  refine lv_iload_n hx hb dX1_endBallot_21 rfl (lv_at hl 0 rfl) ?_
  refine lv_isub hx hb dX1_endBallot_22 ?_
  refine lv_icmp_le (tgt := 37) hx hb dX1_endBallot_23 (by decide) (fun c1 => ?_) (fun c1 => ?_)
  · refine lv_iconst (v := 0) hx hb dX1_endBallot_37 (by decide) ?_
    obtain ⟨σ2, hσ2⟩ : ∃ y : S3, y = su σ1 13 b 0 0 := ⟨_, rfl⟩
    refine xr_put S hw tyX1 tyX1_ok nmX1 (j := 4) (k_br n hb4) (cE_br _ _ _ _ hb4) rfl inX1_endBallot_X1 (by decide) (hts (.fieldLink RX1 26 "UnionOffice$Branch" "mayStrike" "Z") (by decide +kernel)) rfl (tyX1_ok 4 (by decide)) (nar_z (Or.inl rfl)) (fit_z (Or.inl rfl)) (Nat.le_of_ble_eq_true rfl) dX1_endBallot_38 (cE cy ad n σ2) (by rw [hσ2]; exact up_may _ _ _ _ hb4 _) (fun H locs hw => ?_)
    exact xe_v S.1 S.2.1 hr hlocks hw (by
          rw [hσ2, hσ1]; unfold ebF; rw [show wonI σ b x0 = _ from if_pos c1]) (Nat.le_of_ble_eq_true rfl) (Nat.le_of_ble_eq_true rfl) dX1_endBallot_41
  · refine lv_iconst (v := 2) hx hb dX1_endBallot_26 (by decide) ?_
    refine lv_iload_n hx hb dX1_endBallot_27 rfl (lv_at hl 1 rfl) ?_
    refine lv_imul hx hb dX1_endBallot_28 ?_
    refine lv_iload_n hx hb dX1_endBallot_29 rfl (lv_at hl 3 rfl) ?_
    refine lv_icmp_lt (tgt := 37) hx hb dX1_endBallot_30 (by decide) (fun c2 => ?_) (fun c2 => ?_)
    · refine lv_iconst (v := 0) hx hb dX1_endBallot_37 (by decide) ?_
      obtain ⟨σ3, hσ3⟩ : ∃ y : S3, y = su σ1 13 b 0 0 := ⟨_, rfl⟩
      refine xr_put S hw tyX1 tyX1_ok nmX1 (j := 4) (k_br n hb4) (cE_br _ _ _ _ hb4) rfl inX1_endBallot_X1 (by decide) (hts (.fieldLink RX1 26 "UnionOffice$Branch" "mayStrike" "Z") (by decide +kernel)) rfl (tyX1_ok 4 (by decide)) (nar_z (Or.inl rfl)) (fit_z (Or.inl rfl)) (Nat.le_of_ble_eq_true rfl) dX1_endBallot_38 (cE cy ad n σ3) (by rw [hσ3]; exact up_may _ _ _ _ hb4 _) (fun H locs hw => ?_)
      exact xe_v S.1 S.2.1 hr hlocks hw (by
            rw [hσ3, hσ1]; unfold ebF; rw [show wonI σ b x0 = _ from (if_neg c1).trans (if_pos c2)]) (Nat.le_of_ble_eq_true rfl) (Nat.le_of_ble_eq_true rfl) dX1_endBallot_41
    · refine lv_iconst (v := 1) hx hb dX1_endBallot_33 (by decide) ?_
      refine lv_goto (tgt := 38) hx hb dX1_endBallot_34 (by decide) ?_
      obtain ⟨σ4, hσ4⟩ : ∃ y : S3, y = su σ1 13 b 0 1 := ⟨_, rfl⟩
      refine xr_put S hw tyX1 tyX1_ok nmX1 (j := 4) (k_br n hb4) (cE_br _ _ _ _ hb4) rfl inX1_endBallot_X1 (by decide) (hts (.fieldLink RX1 26 "UnionOffice$Branch" "mayStrike" "Z") (by decide +kernel)) rfl (tyX1_ok 4 (by decide)) (nar_z (Or.inr rfl)) (fit_z (Or.inr rfl)) (Nat.le_of_ble_eq_true rfl) dX1_endBallot_38 (cE cy ad n σ4) (by rw [hσ4]; exact up_may _ _ _ _ hb4 _) (fun H locs hw => ?_)
      exact xe_v S.1 S.2.1 hr hlocks hw (by
            rw [hσ4, hσ1]; unfold ebF; rw [show wonI σ b x0 = _ from (if_neg c1).trans (if_neg c2)]) (Nat.le_of_ble_eq_true rfl) (Nat.le_of_ble_eq_true rfl) dX1_endBallot_41
abbrev rmX1_canBeCalledOut : Room := { frames := 0, cells := 0, slots := 0, locals := 0 }
def coI (σ : S3) (b : Nat) : Int32 := if σ 13 b 0 = 0 then 0 else if ¬ σ 14 b 0 = 0 then 0 else if ¬ σ 10 b 0 = 0 then 0 else 1
theorem inX1_canBeCalledOut_X1 : (∀ w ∈ wsX10, w ∈ wsX1_canBeCalledOut) := by decide +kernel
set_option maxHeartbeats 1000000 in
set_option maxRecDepth 100000 in
/-- canBeCalledOut() -/
theorem c_X1_canBeCalledOut (l : Launch) (D : va_G) (cy : Nat → ClassId) (ad : Nat → Nat) (n : Nat) (σ : S3) (b : Nat) (hb4 : b < 4) : CM l yX1_canBeCalledOut wsX1_canBeCalledOut rmX1_canBeCalledOut D cy ad n [.ref (ad (7 + b))] σ (xPi fun r u => u = σ ∧ r = coI σ b) := by
  refine xs_M (cc := cX1_canBeCalledOut) (maxL := 1) (ret := (some .boolean)) (by decide +kernel) rfl (Nat.le_of_ble_eq_true rfl) ?_
  intro p e s m below meth c ls S hr hlocks hnm hw hX hl
  have S : CallFix p m c cX1_canBeCalledOut 1 s [.ref (ad (7 + b))].toArray wsX1_canBeCalledOut RX1 := S
  have hx := S.1
  have hb := S.2.1
  have hts := S.2.2.2.2
  have hl : lv_has ls 1 [(0, .ref (ad (7 + b)))] := hl
  refine lv_aload_n hx hb dX1_canBeCalledOut_0 rfl (lv_at hl 0 rfl) ?_
  refine xr_get S hw (j := 4) (k_br n hb4) (cE_br _ _ _ _ hb4) rfl inX1_canBeCalledOut_X1 (by decide) (hts (.fieldLink RX1 26 "UnionOffice$Branch" "mayStrike" "Z") (by decide +kernel)) rfl dX1_canBeCalledOut_1 ?_
  refine lv_if_eq (tgt := 25) hx hb dX1_canBeCalledOut_4 (by decide) (fun c1 => ?_) (fun c1 => ?_)
  · refine lv_iconst (v := 0) hx hb dX1_canBeCalledOut_25 (by decide) ?_
    exact xe_z S.1 S.2.1 hr (Or.inl rfl) hlocks hw (⟨rfl, by simp [coI, c1]⟩) (Nat.le_of_ble_eq_true rfl) (Nat.le_of_ble_eq_true rfl) dX1_canBeCalledOut_26
  · refine lv_aload_n hx hb dX1_canBeCalledOut_7 rfl (lv_at hl 0 rfl) ?_
    refine xr_get S hw (j := 5) (k_br n hb4) (cE_br _ _ _ _ hb4) rfl inX1_canBeCalledOut_X1 (by decide) (hts (.fieldLink RX1 29 "UnionOffice$Branch" "isOnStrike" "Z") (by decide +kernel)) rfl dX1_canBeCalledOut_8 ?_
    refine lv_if_ne (tgt := 25) hx hb dX1_canBeCalledOut_11 (by decide) (fun c2 => ?_) (fun c2 => ?_)
    · refine lv_iconst (v := 0) hx hb dX1_canBeCalledOut_25 (by decide) ?_
      exact xe_z S.1 S.2.1 hr (Or.inl rfl) hlocks hw (⟨rfl, by simp [coI, c1, c2]⟩) (Nat.le_of_ble_eq_true rfl) (Nat.le_of_ble_eq_true rfl) dX1_canBeCalledOut_26
    · refine lv_aload_n hx hb dX1_canBeCalledOut_14 rfl (lv_at hl 0 rfl) ?_
      refine xr_get S hw (j := 1) (k_br n hb4) (cE_br _ _ _ _ hb4) rfl inX1_canBeCalledOut_X1 (by decide) (hts (.fieldLink RX1 15 "UnionOffice$Branch" "hasBallot" "Z") (by decide +kernel)) rfl dX1_canBeCalledOut_15 ?_
      refine lv_if_ne (tgt := 25) hx hb dX1_canBeCalledOut_18 (by decide) (fun c3 => ?_) (fun c3 => ?_)
      · refine lv_iconst (v := 0) hx hb dX1_canBeCalledOut_25 (by decide) ?_
        exact xe_z S.1 S.2.1 hr (Or.inl rfl) hlocks hw (⟨rfl, by simp [coI, c1, c2, c3]⟩) (Nat.le_of_ble_eq_true rfl) (Nat.le_of_ble_eq_true rfl) dX1_canBeCalledOut_26
      · refine lv_iconst (v := 1) hx hb dX1_canBeCalledOut_21 (by decide) ?_
        refine lv_goto (tgt := 26) hx hb dX1_canBeCalledOut_22 (by decide) ?_
        exact xe_z S.1 S.2.1 hr (Or.inr rfl) hlocks hw (⟨rfl, by simp [coI, c1, c2, c3]⟩) (Nat.le_of_ble_eq_true rfl) (Nat.le_of_ble_eq_true rfl) dX1_canBeCalledOut_26
