/-! ===== the reference: the public methods ===== -/
abbrev mP1 (σ : S3) (P : Prop) (R : Int32) (U : S3) : Int32 → S3 → Prop := fun r u => (¬ P ∧ r = 0 ∧ u = su σ 23 0 0 1) ∨ (P ∧ r = R ∧ u = U)
abbrev mP2 (σ : S3) (P P2 : Prop) (R : Int32) (U : S3) : Int32 → S3 → Prop := fun r u => (¬ P ∧ r = 0 ∧ u = su σ 23 0 0 1) ∨ (P ∧ ¬ P2 ∧ r = 0 ∧ u = su σ 23 0 0 2) ∨ (P ∧ P2 ∧ r = R ∧ u = U)
abbrev mV2 (σ : S3) (P P2 : Prop) (U : S3) : S3 → Prop := fun u => (¬ P ∧ u = su σ 23 0 0 1) ∨ (P ∧ ¬ P2 ∧ u = su σ 23 0 0 2) ∨ (P ∧ P2 ∧ u = U)
abbrev th0 (σ : S3) : S3 := su σ 23 0 0 0
theorem su_su (σ : S3) (k i m : Nat) (a b : Int32) : su (su σ k i m a) k i m b = su σ k i m b := by
  funext x y z
  unfold su
  split
  · split
    · split
      · rfl
      · rfl
    · rfl
  · rfl
theorem nm16 (σ : S3) : nI (nm σ) = 16 ↔ nm σ = 16 := by
  have h := nm_le σ
  rw [show (16 : Int32) = nI 16 from rfl]
  exact nI_eq (by omega) (by decide)
theorem eh60 {σ : S3} {x : Int32} (h : ¬ 60 < x) (he : ehP σ x) : ∃ j : Nat, j < 60 ∧ x = nI j := by
  obtain ⟨j, hj, rfl⟩ := nI_of2 (n := 60) (M := 60) rfl he.1 (Int32.not_lt.mp h)
  have h2 := he.2
  have hn := nw_le σ
  rw [nI_1, show (30 : Int32) = nI 30 from rfl, pk_mul] at h2
  have h3 := mt (nI_ltI (a := nw σ) (b := 30 * (j + 1)) (by omega) (by omega)).mpr h2
  exact ⟨j, by omega, rfl⟩
def asI (σ : S3) (x : Int32) : Int32 := if inI x (nm σ) then 0 else 1
theorem asI_0 {σ : S3} {x : Int32} (h : inI x (nm σ)) : asI σ x = 0 := if_pos h
theorem asI_1 {σ : S3} {x : Int32} (h : ¬ inI x (nm σ)) : asI σ x = 1 := if_neg h
abbrev rmX4_setDues : Room := { frames := 2, cells := 0, slots := 0, locals := 42 }
theorem inX4_setDues_X4 : (∀ w ∈ wsX40, w ∈ wsX4_setDues) := by decide +kernel
set_option maxHeartbeats 1000000 in
set_option maxRecDepth 100000 in
/-- setDues -/
theorem c_X4_setDues (l : Launch) (D : va_G) (cy : Nat → ClassId) (ad : Nat → Nat) (σ : S3) (x0 x1 : Int32) : MM l yX4_setDues wsX4_setDues rmX4_setDues D cy ad [.ref (ad 0), .int x0, .int x1] σ (xPi (mP2 σ (inI x0 3) (rgI x1 0 100000) (th0 σ 0 x0.toNatClampNeg 0) (su (th0 σ) 0 x0.toNatClampNeg 0 x1))) := by
  refine xs_M (cc := cX4_setDues) (maxL := 4) (ret := (some .int)) (by decide +kernel) rfl (Nat.le_of_ble_eq_true rfl) ?_
  intro p e s m below meth c ls S hr hlocks hnm hw hX hl
  have S : CallFix p m c cX4_setDues 4 s [.ref (ad 0), .int x0, .int x1].toArray wsX4_setDues RX4 := S
  have hx := S.1
  have hb := S.2.1
  have hts := S.2.2.2.2
  have hl : lv_has ls 4 [(0, .ref (ad 0)), (1, .int x0), (2, .int x1)] := hl
  have hnm16 := nm_le σ
  have hnw18 := nw_le σ
  refine lv_aload_n hx hb dX4_setDues_0 rfl (lv_at hl 0 rfl) ?_
  refine lv_iload_n hx hb dX4_setDues_1 rfl (lv_at hl 1 rfl) ?_
  refine xc_Mi hw (va_runS (As := [.int x0]) (rest := [.ref (ad 0)]) S (c_X4_isBand l D cy ad σ x0 _) (va_cwS 1 S.2.2.2.2 gX4_setDues_X4_isBand rfl rfl rfl (by decide +kernel) ⟨Nat.le_of_ble_eq_true rfl, Nat.le_of_ble_eq_true rfl⟩) (xc_preS (XOK.tt _ _) hX hw _) rfl rfl hl.1 rfl (lv_room (Nat.le_of_ble_eq_true rfl)) dX4_setDues_2 ⟨Nat.le_of_ble_eq_true rfl, Nat.le_of_ble_eq_true rfl⟩) (fun r9 u H locs hp hw => ?_)
  obtain ⟨hu9, hr9⟩ := hp
  rw [hu9] at hw
  rw [hr9]
  clear hu9 hr9
  refine lv_if_ne (tgt := 12) hx hb dX4_setDues_5 (by decide) (fun c1 => ?_) (fun c1 => ?_)
  · have hc1 : inI x0 3 := bI_1.mp c1
    obtain ⟨b, hbb, rfl⟩ := in_ix hc1
    refine lv_iload_n hx hb dX4_setDues_12 rfl (lv_at hl 2 rfl) ?_
    refine lv_iconst (v := 0) hx hb dX4_setDues_13 (by decide) ?_
    refine lv_ldc hx hb S.2.2.2.1 (hts (.constant RX4 89 (100000)) (by decide +kernel)) dX4_setDues_14 ?_
    refine xc_Mi hw (va_runS (As := [.int x1, .int 0, .int 100000]) (rest := [.ref (ad 0)]) S (c_X4_in l D cy ad σ x1 0 100000 _) (va_cwS 3 S.2.2.2.2 gX4_setDues_X4_in rfl rfl rfl (by decide +kernel) ⟨Nat.le_of_ble_eq_true rfl, Nat.le_of_ble_eq_true rfl⟩) (xc_preS (XOK.tt _ _) hX hw _) rfl rfl hl.1 rfl (lv_room (Nat.le_of_ble_eq_true rfl)) dX4_setDues_16 ⟨Nat.le_of_ble_eq_true rfl, Nat.le_of_ble_eq_true rfl⟩) (fun r9 u H locs hp hw => ?_)
    obtain ⟨hu9, hr9⟩ := hp
    rw [hu9] at hw
    rw [hr9]
    clear hu9 hr9
    refine lv_if_ne (tgt := 26) hx hb dX4_setDues_19 (by decide) (fun c2 => ?_) (fun c2 => ?_)
    · have hc2 : rgI x1 0 100000 := bI_1.mp c2
      refine lv_iconst (v := 0) hx hb dX4_setDues_26 (by decide) ?_
      obtain ⟨σ1, hσ1⟩ : ∃ y : S3, y = su σ 23 0 0 0 := ⟨_, rfl⟩
      refine xr_put S hw tyX4 tyX4_ok nmX4 (j := 22) (by decide) rfl rfl inX4_setDues_X4 (by decide) (hts (.fieldLink RX4 69 "UnionOfficeModel" "thrown" "I") (by decide +kernel)) rfl (tyX4_ok 22 (by decide)) rfl rfl (Nat.le_of_ble_eq_true rfl) dX4_setDues_27 (mE cy ad σ1) (by rw [hσ1]; exact mu_thrown _ _ _ _) (fun H locs hw => ?_)
      refine lv_aload_n hx hb dX4_setDues_30 rfl (lv_at hl 0 rfl) ?_
      have hth1 : σ1 23 0 0 = 0 := by rw [hσ1]; rfl
      refine xr_get S hw (j := 22) (v := .int 0) (by decide) rfl rfl inX4_setDues_X4 (by decide) (hts (.fieldLink RX4 69 "UnionOfficeModel" "thrown" "I") (by decide +kernel)) (congrArg (fun z => some (Value.int z)) hth1) dX4_setDues_31 ?_
      refine lv_if_le (tgt := 39) hx hb dX4_setDues_34 (by decide) (fun _ => ?_) (fun h => absurd h (by decide))
      refine lv_aload_n hx hb dX4_setDues_39 rfl (lv_at hl 0 rfl) ?_
      refine xr_get S hw (j := 0) (by decide) rfl rfl inX4_setDues_X4 (by decide) (hts (.fieldLink RX4 7 "UnionOfficeModel" "duesOf" "[I") (by decide +kernel)) rfl dX4_setDues_40 ?_
      refine lv_iload_n hx hb dX4_setDues_43 rfl (lv_at hl 1 rfl) ?_
      refine xv_iald S hw (t0 := 0) (v := σ1 0 b 0) (by decide) rfl rfl (by omega) (by decide) rfl dX4_setDues_44 ?_
      refine lv_istore_n (lv' := [(3, .int (σ1 0 b 0)), (0, .ref (ad 0)), (1, .int (nI b)), (2, .int x1)]) hx hb dX4_setDues_45 rfl hl (by decide) rfl (fun ls hl => ?_)
      refine lv_aload_n hx hb dX4_setDues_46 rfl (lv_at hl 1 rfl) ?_
      refine xr_get S hw (j := 0) (by decide) rfl rfl inX4_setDues_X4 (by decide) (hts (.fieldLink RX4 7 "UnionOfficeModel" "duesOf" "[I") (by decide +kernel)) rfl dX4_setDues_47 ?_
      refine lv_iload_n hx hb dX4_setDues_50 rfl (lv_at hl 2 rfl) ?_
      refine lv_iload_n hx hb dX4_setDues_51 rfl (lv_at hl 3 rfl) ?_
      obtain ⟨σ2, hσ2⟩ : ∃ y : S3, y = su σ1 0 b 0 x1 := ⟨_, rfl⟩
      refine xn_iast S hw (t0 := 0) (by decide) rfl rfl (by omega) (by decide) dX4_setDues_52 (mE cy ad σ2) (by rw [hσ2]; exact mu_dues _ _ _ b _) (fun H locs hw => ?_)
      refine lv_iload_n hx hb dX4_setDues_53 rfl (lv_at hl 0 rfl) ?_
      exact xe_i S.1 S.2.1 hr hlocks hw (Or.inr (Or.inr ⟨hc1, hc2, by rw [cl_nI (by omega), hσ1], by rw [cl_nI (by omega), hσ2, hσ1]⟩)) (Nat.le_of_ble_eq_true rfl) (Nat.le_of_ble_eq_true rfl) dX4_setDues_54
    · have hc2 : ¬ (rgI x1 0 100000) := bI_0.mp c2
      refine lv_iconst (v := 2) hx hb dX4_setDues_22 (by decide) ?_
      refine lv_goto (tgt := 27) hx hb dX4_setDues_23 (by decide) ?_
      obtain ⟨σ3, hσ3⟩ : ∃ y : S3, y = su σ 23 0 0 2 := ⟨_, rfl⟩
      refine xr_put S hw tyX4 tyX4_ok nmX4 (j := 22) (by decide) rfl rfl inX4_setDues_X4 (by decide) (hts (.fieldLink RX4 69 "UnionOfficeModel" "thrown" "I") (by decide +kernel)) rfl (tyX4_ok 22 (by decide)) rfl rfl (Nat.le_of_ble_eq_true rfl) dX4_setDues_27 (mE cy ad σ3) (by rw [hσ3]; exact mu_thrown _ _ _ _) (fun H locs hw => ?_)
      refine lv_aload_n hx hb dX4_setDues_30 rfl (lv_at hl 0 rfl) ?_
      have hth2 : σ3 23 0 0 = 2 := by rw [hσ3]; rfl
      refine xr_get S hw (j := 22) (v := .int 2) (by decide) rfl rfl inX4_setDues_X4 (by decide) (hts (.fieldLink RX4 69 "UnionOfficeModel" "thrown" "I") (by decide +kernel)) (congrArg (fun z => some (Value.int z)) hth2) dX4_setDues_31 ?_
      refine lv_if_le (tgt := 39) hx hb dX4_setDues_34 (by decide) (fun h => absurd h (by decide)) (fun _ => ?_)
      refine lv_iconst (v := 0) hx hb dX4_setDues_37 (by decide) ?_
      exact xe_i S.1 S.2.1 hr hlocks hw (Or.inr (Or.inl ⟨hc1, hc2, rfl, hσ3⟩)) (Nat.le_of_ble_eq_true rfl) (Nat.le_of_ble_eq_true rfl) dX4_setDues_38
  · have hc1 : ¬ (inI x0 3) := bI_0.mp c1
    refine lv_iconst (v := 1) hx hb dX4_setDues_8 (by decide) ?_
    refine lv_goto (tgt := 27) hx hb dX4_setDues_9 (by decide) ?_
    obtain ⟨σ4, hσ4⟩ : ∃ y : S3, y = su σ 23 0 0 1 := ⟨_, rfl⟩
    refine xr_put S hw tyX4 tyX4_ok nmX4 (j := 22) (by decide) rfl rfl inX4_setDues_X4 (by decide) (hts (.fieldLink RX4 69 "UnionOfficeModel" "thrown" "I") (by decide +kernel)) rfl (tyX4_ok 22 (by decide)) rfl rfl (Nat.le_of_ble_eq_true rfl) dX4_setDues_27 (mE cy ad σ4) (by rw [hσ4]; exact mu_thrown _ _ _ _) (fun H locs hw => ?_)
    refine lv_aload_n hx hb dX4_setDues_30 rfl (lv_at hl 0 rfl) ?_
    have hth3 : σ4 23 0 0 = 1 := by rw [hσ4]; rfl
    refine xr_get S hw (j := 22) (v := .int 1) (by decide) rfl rfl inX4_setDues_X4 (by decide) (hts (.fieldLink RX4 69 "UnionOfficeModel" "thrown" "I") (by decide +kernel)) (congrArg (fun z => some (Value.int z)) hth3) dX4_setDues_31 ?_
    refine lv_if_le (tgt := 39) hx hb dX4_setDues_34 (by decide) (fun h => absurd h (by decide)) (fun _ => ?_)
    refine lv_iconst (v := 0) hx hb dX4_setDues_37 (by decide) ?_
    exact xe_i S.1 S.2.1 hr hlocks hw (Or.inl ⟨hc1, rfl, hσ4⟩) (Nat.le_of_ble_eq_true rfl) (Nat.le_of_ble_eq_true rfl) dX4_setDues_38
abbrev rmX4_setStrikePay : Room := { frames := 1, cells := 0, slots := 0, locals := 22 }
theorem inX4_setStrikePay_X4 : (∀ w ∈ wsX40, w ∈ wsX4_setStrikePay) := by decide +kernel
set_option maxHeartbeats 1000000 in
set_option maxRecDepth 100000 in
/-- setStrikePay -/
theorem c_X4_setStrikePay (l : Launch) (D : va_G) (cy : Nat → ClassId) (ad : Nat → Nat) (σ : S3) (x0 : Int32) : MM l yX4_setStrikePay wsX4_setStrikePay rmX4_setStrikePay D cy ad [.ref (ad 0), .int x0] σ (xPi (mP1 σ (rgI x0 0 100000) (th0 σ 17 0 0) (su (th0 σ) 17 0 0 x0))) := by
  refine xs_M (cc := cX4_setStrikePay) (maxL := 3) (ret := (some .int)) (by decide +kernel) rfl (Nat.le_of_ble_eq_true rfl) ?_
  intro p e s m below meth c ls S hr hlocks hnm hw hX hl
  have S : CallFix p m c cX4_setStrikePay 3 s [.ref (ad 0), .int x0].toArray wsX4_setStrikePay RX4 := S
  have hx := S.1
  have hb := S.2.1
  have hts := S.2.2.2.2
  have hl : lv_has ls 3 [(0, .ref (ad 0)), (1, .int x0)] := hl
  have hnm16 := nm_le σ
  have hnw18 := nw_le σ
  refine lv_aload_n hx hb dX4_setStrikePay_0 rfl (lv_at hl 0 rfl) ?_
  refine lv_iload_n hx hb dX4_setStrikePay_1 rfl (lv_at hl 1 rfl) ?_
  refine lv_iconst (v := 0) hx hb dX4_setStrikePay_2 (by decide) ?_
  refine lv_ldc hx hb S.2.2.2.1 (hts (.constant RX4 89 (100000)) (by decide +kernel)) dX4_setStrikePay_3 ?_
  refine xc_Mi hw (va_runS (As := [.int x0, .int 0, .int 100000]) (rest := [.ref (ad 0)]) S (c_X4_in l D cy ad σ x0 0 100000 _) (va_cwS 3 S.2.2.2.2 gX4_setStrikePay_X4_in rfl rfl rfl (by decide +kernel) ⟨Nat.le_of_ble_eq_true rfl, Nat.le_of_ble_eq_true rfl⟩) (xc_preS (XOK.tt _ _) hX hw _) rfl rfl hl.1 rfl (lv_room (Nat.le_of_ble_eq_true rfl)) dX4_setStrikePay_5 ⟨Nat.le_of_ble_eq_true rfl, Nat.le_of_ble_eq_true rfl⟩) (fun r9 u H locs hp hw => ?_)
  obtain ⟨hu9, hr9⟩ := hp
  rw [hu9] at hw
  rw [hr9]
  clear hu9 hr9
  refine lv_if_eq (tgt := 15) hx hb dX4_setStrikePay_8 (by decide) (fun c1 => ?_) (fun c1 => ?_)
  · have hc1 : ¬ (rgI x0 0 100000) := bI_0.mp c1
    refine lv_iconst (v := 1) hx hb dX4_setStrikePay_15 (by decide) ?_
    obtain ⟨σ1, hσ1⟩ : ∃ y : S3, y = su σ 23 0 0 1 := ⟨_, rfl⟩
    refine xr_put S hw tyX4 tyX4_ok nmX4 (j := 22) (by decide) rfl rfl inX4_setStrikePay_X4 (by decide) (hts (.fieldLink RX4 69 "UnionOfficeModel" "thrown" "I") (by decide +kernel)) rfl (tyX4_ok 22 (by decide)) rfl rfl (Nat.le_of_ble_eq_true rfl) dX4_setStrikePay_16 (mE cy ad σ1) (by rw [hσ1]; exact mu_thrown _ _ _ _) (fun H locs hw => ?_)
    refine lv_aload_n hx hb dX4_setStrikePay_19 rfl (lv_at hl 0 rfl) ?_
    have hth1 : σ1 23 0 0 = 1 := by rw [hσ1]; rfl
    refine xr_get S hw (j := 22) (v := .int 1) (by decide) rfl rfl inX4_setStrikePay_X4 (by decide) (hts (.fieldLink RX4 69 "UnionOfficeModel" "thrown" "I") (by decide +kernel)) (congrArg (fun z => some (Value.int z)) hth1) dX4_setStrikePay_20 ?_
    refine lv_if_le (tgt := 28) hx hb dX4_setStrikePay_23 (by decide) (fun h => absurd h (by decide)) (fun _ => ?_)
    refine lv_iconst (v := 0) hx hb dX4_setStrikePay_26 (by decide) ?_
    exact xe_i S.1 S.2.1 hr hlocks hw (Or.inl ⟨hc1, rfl, hσ1⟩) (Nat.le_of_ble_eq_true rfl) (Nat.le_of_ble_eq_true rfl) dX4_setStrikePay_27
  · have hc1 : rgI x0 0 100000 := bI_1.mp c1
    refine lv_iconst (v := 0) hx hb dX4_setStrikePay_11 (by decide) ?_
    refine lv_goto (tgt := 16) hx hb dX4_setStrikePay_12 (by decide) ?_
    obtain ⟨σ2, hσ2⟩ : ∃ y : S3, y = su σ 23 0 0 0 := ⟨_, rfl⟩
    refine xr_put S hw tyX4 tyX4_ok nmX4 (j := 22) (by decide) rfl rfl inX4_setStrikePay_X4 (by decide) (hts (.fieldLink RX4 69 "UnionOfficeModel" "thrown" "I") (by decide +kernel)) rfl (tyX4_ok 22 (by decide)) rfl rfl (Nat.le_of_ble_eq_true rfl) dX4_setStrikePay_16 (mE cy ad σ2) (by rw [hσ2]; exact mu_thrown _ _ _ _) (fun H locs hw => ?_)
    refine lv_aload_n hx hb dX4_setStrikePay_19 rfl (lv_at hl 0 rfl) ?_
    have hth2 : σ2 23 0 0 = 0 := by rw [hσ2]; rfl
    refine xr_get S hw (j := 22) (v := .int 0) (by decide) rfl rfl inX4_setStrikePay_X4 (by decide) (hts (.fieldLink RX4 69 "UnionOfficeModel" "thrown" "I") (by decide +kernel)) (congrArg (fun z => some (Value.int z)) hth2) dX4_setStrikePay_20 ?_
    refine lv_if_le (tgt := 28) hx hb dX4_setStrikePay_23 (by decide) (fun _ => ?_) (fun h => absurd h (by decide))
    refine lv_aload_n hx hb dX4_setStrikePay_28 rfl (lv_at hl 0 rfl) ?_
    refine xr_get S hw (j := 1) (by decide) rfl rfl inX4_setStrikePay_X4 (by decide) (hts (.fieldLink RX4 62 "UnionOfficeModel" "pay" "I") (by decide +kernel)) rfl dX4_setStrikePay_29 ?_
    refine lv_istore_n (lv' := [(2, .int (σ2 17 0 0)), (0, .ref (ad 0)), (1, .int x0)]) hx hb dX4_setStrikePay_32 rfl hl (by decide) rfl (fun ls hl => ?_)
    refine lv_aload_n hx hb dX4_setStrikePay_33 rfl (lv_at hl 1 rfl) ?_
    refine lv_iload_n hx hb dX4_setStrikePay_34 rfl (lv_at hl 2 rfl) ?_
    obtain ⟨σ3, hσ3⟩ : ∃ y : S3, y = su σ2 17 0 0 x0 := ⟨_, rfl⟩
    refine xr_put S hw tyX4 tyX4_ok nmX4 (j := 1) (by decide) rfl rfl inX4_setStrikePay_X4 (by decide) (hts (.fieldLink RX4 62 "UnionOfficeModel" "pay" "I") (by decide +kernel)) rfl (tyX4_ok 1 (by decide)) rfl rfl (Nat.le_of_ble_eq_true rfl) dX4_setStrikePay_35 (mE cy ad σ3) (by rw [hσ3]; exact mu_pay _ _ _ _) (fun H locs hw => ?_)
    refine lv_iload_n hx hb dX4_setStrikePay_38 rfl (lv_at hl 0 rfl) ?_
    exact xe_i S.1 S.2.1 hr hlocks hw (Or.inr ⟨hc1, by rw [hσ2], by rw [hσ3, hσ2]⟩) (Nat.le_of_ble_eq_true rfl) (Nat.le_of_ble_eq_true rfl) dX4_setStrikePay_39
abbrev rmX4_join : Room := { frames := 2, cells := 0, slots := 0, locals := 42 }
theorem inX4_join_X4 : (∀ w ∈ wsX40, w ∈ wsX4_join) := by decide +kernel
set_option maxHeartbeats 1000000 in
set_option maxRecDepth 100000 in
/-- join -/
theorem c_X4_join (l : Launch) (D : va_G) (cy : Nat → ClassId) (ad : Nat → Nat) (σ : S3) (x0 x1 : Int32) : MM l yX4_join wsX4_join rmX4_join D cy ad [.ref (ad 0), .int x0, .int x1] σ (xPi (mP2 σ (inI x0 4 ∧ inI x1 3) (nm σ < 16) (nI (nm σ)) (su (su (su (th0 σ) 1 (nm σ) 0 (nI x0.toNatClampNeg)) 2 (nm σ) 0 (nI x1.toNatClampNeg)) 21 0 0 (nI (nm σ + 1))))) := by
  refine xs_M (cc := cX4_join) (maxL := 3) (ret := (some .int)) (by decide +kernel) rfl (Nat.le_of_ble_eq_true rfl) ?_
  intro p e s m below meth c ls S hr hlocks hnm hw hX hl
  have S : CallFix p m c cX4_join 3 s [.ref (ad 0), .int x0, .int x1].toArray wsX4_join RX4 := S
  have hx := S.1
  have hb := S.2.1
  have hts := S.2.2.2.2
  have hl : lv_has ls 3 [(0, .ref (ad 0)), (1, .int x0), (2, .int x1)] := hl
  have hnm16 := nm_le σ
  have hnw18 := nw_le σ
  refine lv_aload_n hx hb dX4_join_0 rfl (lv_at hl 0 rfl) ?_
  refine lv_iload_n hx hb dX4_join_1 rfl (lv_at hl 1 rfl) ?_
  refine xc_Mi hw (va_runS (As := [.int x0]) (rest := [.ref (ad 0)]) S (c_X4_isBranch l D cy ad σ x0 _) (va_cwS 1 S.2.2.2.2 gX4_join_X4_isBranch rfl rfl rfl (by decide +kernel) ⟨Nat.le_of_ble_eq_true rfl, Nat.le_of_ble_eq_true rfl⟩) (xc_preS (XOK.tt _ _) hX hw _) rfl rfl hl.1 rfl (lv_room (Nat.le_of_ble_eq_true rfl)) dX4_join_2 ⟨Nat.le_of_ble_eq_true rfl, Nat.le_of_ble_eq_true rfl⟩) (fun r9 u H locs hp hw => ?_)
  obtain ⟨hu9, hr9⟩ := hp
  rw [hu9] at hw
  rw [hr9]
  clear hu9 hr9
  refine lv_if_eq (tgt := 15) hx hb dX4_join_5 (by decide) (fun c1 => ?_) (fun c1 => ?_)
  · have hc1 : ¬ (inI x0 4) := bI_0.mp c1
    refine lv_iconst (v := 1) hx hb dX4_join_15 (by decide) ?_
    refine lv_goto (tgt := 33) hx hb dX4_join_16 (by decide) ?_
    obtain ⟨σ1, hσ1⟩ : ∃ y : S3, y = su σ 23 0 0 1 := ⟨_, rfl⟩
    refine xr_put S hw tyX4 tyX4_ok nmX4 (j := 22) (by decide) rfl rfl inX4_join_X4 (by decide) (hts (.fieldLink RX4 69 "UnionOfficeModel" "thrown" "I") (by decide +kernel)) rfl (tyX4_ok 22 (by decide)) rfl rfl (Nat.le_of_ble_eq_true rfl) dX4_join_33 (mE cy ad σ1) (by rw [hσ1]; exact mu_thrown _ _ _ _) (fun H locs hw => ?_)
    refine lv_aload_n hx hb dX4_join_36 rfl (lv_at hl 0 rfl) ?_
    have hth1 : σ1 23 0 0 = 1 := by rw [hσ1]; rfl
    refine xr_get S hw (j := 22) (v := .int 1) (by decide) rfl rfl inX4_join_X4 (by decide) (hts (.fieldLink RX4 69 "UnionOfficeModel" "thrown" "I") (by decide +kernel)) (congrArg (fun z => some (Value.int z)) hth1) dX4_join_37 ?_
    refine lv_if_le (tgt := 45) hx hb dX4_join_40 (by decide) (fun h => absurd h (by decide)) (fun _ => ?_)
    refine lv_iconst (v := 0) hx hb dX4_join_43 (by decide) ?_
    exact xe_i S.1 S.2.1 hr hlocks hw (Or.inl ⟨fun h => hc1 h.1, rfl, hσ1⟩) (Nat.le_of_ble_eq_true rfl) (Nat.le_of_ble_eq_true rfl) dX4_join_44
  · have hc1 : inI x0 4 := bI_1.mp c1
    obtain ⟨b, hbb, rfl⟩ := in_ix hc1
    refine lv_iload_n hx hb dX4_join_8 rfl (lv_at hl 2 rfl) ?_
    refine xc_Mi hw (va_runS (As := [.int x1]) (rest := [.ref (ad 0)]) S (c_X4_isBand l D cy ad σ x1 _) (va_cwS 1 S.2.2.2.2 gX4_join_X4_isBand rfl rfl rfl (by decide +kernel) ⟨Nat.le_of_ble_eq_true rfl, Nat.le_of_ble_eq_true rfl⟩) (xc_preS (XOK.tt _ _) hX hw _) rfl rfl hl.1 rfl (lv_room (Nat.le_of_ble_eq_true rfl)) dX4_join_9 ⟨Nat.le_of_ble_eq_true rfl, Nat.le_of_ble_eq_true rfl⟩) (fun r9 u H locs hp hw => ?_)
    obtain ⟨hu9, hr9⟩ := hp
    rw [hu9] at hw
    rw [hr9]
    clear hu9 hr9
    refine lv_if_ne (tgt := 19) hx hb dX4_join_12 (by decide) (fun c3 => ?_) (fun c3 => ?_)
    · have hc3 : inI x1 3 := bI_1.mp c3
      obtain ⟨b1, hb1, rfl⟩ := in_ix hc3
      refine lv_aload_n hx hb dX4_join_19 rfl (lv_at hl 0 rfl) ?_
      refine xr_get S hw (j := 5) (by decide) rfl rfl inX4_join_X4 (by decide) (hts (.fieldLink RX4 72 "UnionOfficeModel" "memberMany" "I") (by decide +kernel)) rfl dX4_join_20 ?_
      refine lv_bipush (v := 16) hx hb dX4_join_23 (by decide) ?_
      refine lv_icmp_ne (tgt := 32) hx hb dX4_join_25 (by decide) (fun c4 => ?_) (fun c4 => ?_)
      · have h16 : nm σ < 16 := by have := mt (nm16 σ).mpr c4; omega
        refine lv_iconst (v := 0) hx hb dX4_join_32 (by decide) ?_
        obtain ⟨σ2, hσ2⟩ : ∃ y : S3, y = su σ 23 0 0 0 := ⟨_, rfl⟩
        refine xr_put S hw tyX4 tyX4_ok nmX4 (j := 22) (by decide) rfl rfl inX4_join_X4 (by decide) (hts (.fieldLink RX4 69 "UnionOfficeModel" "thrown" "I") (by decide +kernel)) rfl (tyX4_ok 22 (by decide)) rfl rfl (Nat.le_of_ble_eq_true rfl) dX4_join_33 (mE cy ad σ2) (by rw [hσ2]; exact mu_thrown _ _ _ _) (fun H locs hw => ?_)
        refine lv_aload_n hx hb dX4_join_36 rfl (lv_at hl 0 rfl) ?_
        have hth2 : σ2 23 0 0 = 0 := by rw [hσ2]; rfl
        refine xr_get S hw (j := 22) (v := .int 0) (by decide) rfl rfl inX4_join_X4 (by decide) (hts (.fieldLink RX4 69 "UnionOfficeModel" "thrown" "I") (by decide +kernel)) (congrArg (fun z => some (Value.int z)) hth2) dX4_join_37 ?_
        refine lv_if_le (tgt := 45) hx hb dX4_join_40 (by decide) (fun _ => ?_) (fun h => absurd h (by decide))
        have hn1 : nm σ2 = nm σ := by rw [hσ2, nm_suk (by decide)]
        refine lv_aload_n hx hb dX4_join_45 rfl (lv_at hl 0 rfl) ?_
        refine xr_get S hw (j := 6) (by decide) rfl rfl inX4_join_X4 (by decide) (hts (.fieldLink RX4 13 "UnionOfficeModel" "branches" "[I") (by decide +kernel)) rfl dX4_join_46 ?_
        refine lv_aload_n hx hb dX4_join_49 rfl (lv_at hl 0 rfl) ?_
        refine xr_get S hw (j := 5) (by decide) rfl rfl inX4_join_X4 (by decide) (hts (.fieldLink RX4 72 "UnionOfficeModel" "memberMany" "I") (by decide +kernel)) rfl dX4_join_50 ?_
        refine lv_iload_n hx hb dX4_join_53 rfl (lv_at hl 1 rfl) ?_
        obtain ⟨σ3, hσ3⟩ : ∃ y : S3, y = su σ2 1 (nm σ2) 0 (nI b) := ⟨_, rfl⟩
        refine xn_iast S hw (t0 := 0) (by decide) rfl rfl (by omega) (by decide) dX4_join_54 (mE cy ad σ3) (by rw [hσ3]; exact mu_mbr _ _ _ (nm σ2) (by omega)) (fun H locs hw => ?_)
        have hn2 : nm σ3 = nm σ := by rw [hσ3, hσ2, nm_suk (by decide), nm_suk (by decide)]
        refine lv_aload_n hx hb dX4_join_55 rfl (lv_at hl 0 rfl) ?_
        refine xr_get S hw (j := 7) (by decide) rfl rfl inX4_join_X4 (by decide) (hts (.fieldLink RX4 16 "UnionOfficeModel" "bands" "[I") (by decide +kernel)) rfl dX4_join_56 ?_
        refine lv_aload_n hx hb dX4_join_59 rfl (lv_at hl 0 rfl) ?_
        refine xr_get S hw (j := 5) (by decide) rfl rfl inX4_join_X4 (by decide) (hts (.fieldLink RX4 72 "UnionOfficeModel" "memberMany" "I") (by decide +kernel)) rfl dX4_join_60 ?_
        refine lv_iload_n hx hb dX4_join_63 rfl (lv_at hl 2 rfl) ?_
        obtain ⟨σ4, hσ4⟩ : ∃ y : S3, y = su σ3 2 (nm σ3) 0 (nI b1) := ⟨_, rfl⟩
        refine xn_iast S hw (t0 := 0) (by decide) rfl rfl (by omega) (by decide) dX4_join_64 (mE cy ad σ4) (by rw [hσ4]; exact mu_mbd _ _ _ (nm σ3) (by omega)) (fun H locs hw => ?_)
        have hn3 : nm σ4 = nm σ := by rw [hσ4, hσ3, hσ2, nm_suk (by decide), nm_suk (by decide), nm_suk (by decide)]
        refine lv_aload_n hx hb dX4_join_65 rfl (lv_at hl 0 rfl) ?_
        refine lv_dup hx hb dX4_join_66 rfl ?_
        refine xr_get S hw (j := 5) (by decide) rfl rfl inX4_join_X4 (by decide) (hts (.fieldLink RX4 72 "UnionOfficeModel" "memberMany" "I") (by decide +kernel)) rfl dX4_join_67 ?_
        refine lv_iconst (v := 1) hx hb dX4_join_70 (by decide) ?_
        refine lv_iadd hx hb dX4_join_71 ?_
        rw [show nI (nm σ4) + 1 = nI (nm σ4 + 1) from nI_1 _]
        obtain ⟨σ5, hσ5⟩ : ∃ y : S3, y = su σ4 21 0 0 (nI (nm σ4 + 1)) := ⟨_, rfl⟩
        refine xr_put S hw tyX4 tyX4_ok nmX4 (j := 5) (by decide) rfl rfl inX4_join_X4 (by decide) (hts (.fieldLink RX4 72 "UnionOfficeModel" "memberMany" "I") (by decide +kernel)) rfl (tyX4_ok 5 (by decide)) rfl rfl (Nat.le_of_ble_eq_true rfl) dX4_join_72 (mE cy ad σ5) (by rw [hσ5]; exact mu_many _ _ _ (by omega)) (fun H locs hw => ?_)
        refine lv_aload_n hx hb dX4_join_75 rfl (lv_at hl 0 rfl) ?_
        refine xr_get S hw (j := 5) (by decide) rfl rfl inX4_join_X4 (by decide) (hts (.fieldLink RX4 72 "UnionOfficeModel" "memberMany" "I") (by decide +kernel)) rfl dX4_join_76 ?_
        refine lv_iconst (v := 1) hx hb dX4_join_79 (by decide) ?_
        refine lv_isub hx hb dX4_join_80 ?_
        exact xe_i S.1 S.2.1 hr hlocks hw (Or.inr (Or.inr ⟨⟨hc1, hc3⟩, h16, by
              have hn4 : nm σ5 = nm σ4 + 1 := by rw [hσ5]; exact nm_su (by omega)
              rw [hn4, hn3]; exact nI_pred _, by rw [cl_nI (show b < 2 ^ 31 by omega), cl_nI (show b1 < 2 ^ 31 by omega), hσ5, hn3, hσ4, hσ3, hσ2]; repeat rw [nm_suk (by decide)]⟩)) (Nat.le_of_ble_eq_true rfl) (Nat.le_of_ble_eq_true rfl) dX4_join_81
      · have h16 : ¬ nm σ < 16 := by have := (nm16 σ).mp c4; omega
        refine lv_iconst (v := 2) hx hb dX4_join_28 (by decide) ?_
        refine lv_goto (tgt := 33) hx hb dX4_join_29 (by decide) ?_
        obtain ⟨σ6, hσ6⟩ : ∃ y : S3, y = su σ 23 0 0 2 := ⟨_, rfl⟩
        refine xr_put S hw tyX4 tyX4_ok nmX4 (j := 22) (by decide) rfl rfl inX4_join_X4 (by decide) (hts (.fieldLink RX4 69 "UnionOfficeModel" "thrown" "I") (by decide +kernel)) rfl (tyX4_ok 22 (by decide)) rfl rfl (Nat.le_of_ble_eq_true rfl) dX4_join_33 (mE cy ad σ6) (by rw [hσ6]; exact mu_thrown _ _ _ _) (fun H locs hw => ?_)
        refine lv_aload_n hx hb dX4_join_36 rfl (lv_at hl 0 rfl) ?_
        have hth3 : σ6 23 0 0 = 2 := by rw [hσ6]; rfl
        refine xr_get S hw (j := 22) (v := .int 2) (by decide) rfl rfl inX4_join_X4 (by decide) (hts (.fieldLink RX4 69 "UnionOfficeModel" "thrown" "I") (by decide +kernel)) (congrArg (fun z => some (Value.int z)) hth3) dX4_join_37 ?_
        refine lv_if_le (tgt := 45) hx hb dX4_join_40 (by decide) (fun h => absurd h (by decide)) (fun _ => ?_)
        refine lv_iconst (v := 0) hx hb dX4_join_43 (by decide) ?_
        exact xe_i S.1 S.2.1 hr hlocks hw (Or.inr (Or.inl ⟨⟨hc1, hc3⟩, h16, rfl, hσ6⟩)) (Nat.le_of_ble_eq_true rfl) (Nat.le_of_ble_eq_true rfl) dX4_join_44
    · have hc3 : ¬ (inI x1 3) := bI_0.mp c3
      refine lv_iconst (v := 1) hx hb dX4_join_15 (by decide) ?_
      refine lv_goto (tgt := 33) hx hb dX4_join_16 (by decide) ?_
      obtain ⟨σ7, hσ7⟩ : ∃ y : S3, y = su σ 23 0 0 1 := ⟨_, rfl⟩
      refine xr_put S hw tyX4 tyX4_ok nmX4 (j := 22) (by decide) rfl rfl inX4_join_X4 (by decide) (hts (.fieldLink RX4 69 "UnionOfficeModel" "thrown" "I") (by decide +kernel)) rfl (tyX4_ok 22 (by decide)) rfl rfl (Nat.le_of_ble_eq_true rfl) dX4_join_33 (mE cy ad σ7) (by rw [hσ7]; exact mu_thrown _ _ _ _) (fun H locs hw => ?_)
      refine lv_aload_n hx hb dX4_join_36 rfl (lv_at hl 0 rfl) ?_
      have hth4 : σ7 23 0 0 = 1 := by rw [hσ7]; rfl
      refine xr_get S hw (j := 22) (v := .int 1) (by decide) rfl rfl inX4_join_X4 (by decide) (hts (.fieldLink RX4 69 "UnionOfficeModel" "thrown" "I") (by decide +kernel)) (congrArg (fun z => some (Value.int z)) hth4) dX4_join_37 ?_
      refine lv_if_le (tgt := 45) hx hb dX4_join_40 (by decide) (fun h => absurd h (by decide)) (fun _ => ?_)
      refine lv_iconst (v := 0) hx hb dX4_join_43 (by decide) ?_
      exact xe_i S.1 S.2.1 hr hlocks hw (Or.inl ⟨fun h => hc3 h.2, rfl, hσ7⟩) (Nat.le_of_ble_eq_true rfl) (Nat.le_of_ble_eq_true rfl) dX4_join_44
abbrev rmX4_move : Room := { frames := 2, cells := 0, slots := 0, locals := 43 }
theorem inX4_move_X4 : (∀ w ∈ wsX40, w ∈ wsX4_move) := by decide +kernel
set_option maxHeartbeats 1000000 in
set_option maxRecDepth 100000 in
/-- move -/
theorem c_X4_move (l : Launch) (D : va_G) (cy : Nat → ClassId) (ad : Nat → Nat) (σ : S3) (x0 x1 x2 : Int32) : MM l yX4_move wsX4_move rmX4_move D cy ad [.ref (ad 0), .int x0, .int x1, .int x2] σ (xPv (mV2 σ (inI x0 (nm σ) ∧ inI x1 4 ∧ inI x2 3) (σ 3 x0.toNatClampNeg 0 = 0) (su (su (th0 σ) 1 x0.toNatClampNeg 0 (nI x1.toNatClampNeg)) 2 x0.toNatClampNeg 0 (nI x2.toNatClampNeg)))) := by
  refine xs_M (cc := cX4_move) (maxL := 4) (ret := none) (by decide +kernel) rfl (Nat.le_of_ble_eq_true rfl) ?_
  intro p e s m below meth c ls S hr hlocks hnm hw hX hl
  have S : CallFix p m c cX4_move 4 s [.ref (ad 0), .int x0, .int x1, .int x2].toArray wsX4_move RX4 := S
  have hx := S.1
  have hb := S.2.1
  have hts := S.2.2.2.2
  have hl : lv_has ls 4 [(0, .ref (ad 0)), (1, .int x0), (2, .int x1), (3, .int x2)] := hl
  have hnm16 := nm_le σ
  have hnw18 := nw_le σ
  refine lv_aload_n hx hb dX4_move_0 rfl (lv_at hl 0 rfl) ?_
  refine lv_aload_n hx hb dX4_move_1 rfl (lv_at hl 0 rfl) ?_
  refine lv_iload_n hx hb dX4_move_2 rfl (lv_at hl 1 rfl) ?_
  refine xc_Mi hw (va_runV (As := [.int x0]) (rest := [.ref (ad 0)]) S (c_X4_isMember l D cy ad σ x0 _) (cwV 1 S.2.2.2.2 gX4_move_X4_isMember rfl rfl rfl (by decide +kernel) ⟨Nat.le_of_ble_eq_true rfl, Nat.le_of_ble_eq_true rfl⟩) (xc_preV (XOK.tt _ _) hX hw (by decide) rfl rfl rfl) rfl rfl hl.1 rfl (lv_room (Nat.le_of_ble_eq_true rfl)) dX4_move_3 ⟨Nat.le_of_ble_eq_true rfl, Nat.le_of_ble_eq_true rfl⟩) (fun r9 u H locs hp hw => ?_)
  obtain ⟨hu9, hr9⟩ := hp
  rw [hu9] at hw
  rw [hr9]
  clear hu9 hr9
  refine lv_if_eq (tgt := 23) hx hb dX4_move_6 (by decide) (fun c1 => ?_) (fun c1 => ?_)
  · have hc1 : ¬ (inI x0 (nm σ)) := bI_0.mp c1
    refine lv_iconst (v := 1) hx hb dX4_move_23 (by decide) ?_
    refine lv_goto (tgt := 41) hx hb dX4_move_24 (by decide) ?_
    obtain ⟨σ1, hσ1⟩ : ∃ y : S3, y = su σ 23 0 0 1 := ⟨_, rfl⟩
    refine xr_put S hw tyX4 tyX4_ok nmX4 (j := 22) (by decide) rfl rfl inX4_move_X4 (by decide) (hts (.fieldLink RX4 69 "UnionOfficeModel" "thrown" "I") (by decide +kernel)) rfl (tyX4_ok 22 (by decide)) rfl rfl (Nat.le_of_ble_eq_true rfl) dX4_move_41 (mE cy ad σ1) (by rw [hσ1]; exact mu_thrown _ _ _ _) (fun H locs hw => ?_)
    refine lv_aload_n hx hb dX4_move_44 rfl (lv_at hl 0 rfl) ?_
    have hth1 : σ1 23 0 0 = 1 := by rw [hσ1]; rfl
    refine xr_get S hw (j := 22) (v := .int 1) (by decide) rfl rfl inX4_move_X4 (by decide) (hts (.fieldLink RX4 69 "UnionOfficeModel" "thrown" "I") (by decide +kernel)) (congrArg (fun z => some (Value.int z)) hth1) dX4_move_45 ?_
    refine lv_if_ne (tgt := 65) hx hb dX4_move_48 (by decide) (fun _ => ?_) (fun h => absurd h (by decide))
    exact xe_v S.1 S.2.1 hr hlocks hw (Or.inl ⟨fun h => hc1 h.1, hσ1⟩) (Nat.le_of_ble_eq_true rfl) (Nat.le_of_ble_eq_true rfl) dX4_move_65
  · have hc1 : inI x0 (nm σ) := bI_1.mp c1
    obtain ⟨i, hi, rfl⟩ := in_ix hc1
    refine lv_iload_n hx hb dX4_move_9 rfl (lv_at hl 2 rfl) ?_
    refine xc_Mi hw (va_runS (As := [.int x1]) (rest := [.ref (ad 0)]) S (c_X4_isBranch l D cy ad σ x1 _) (va_cwS 1 S.2.2.2.2 gX4_move_X4_isBranch rfl rfl rfl (by decide +kernel) ⟨Nat.le_of_ble_eq_true rfl, Nat.le_of_ble_eq_true rfl⟩) (xc_preS (XOK.tt _ _) hX hw _) rfl rfl hl.1 rfl (lv_room (Nat.le_of_ble_eq_true rfl)) dX4_move_10 ⟨Nat.le_of_ble_eq_true rfl, Nat.le_of_ble_eq_true rfl⟩) (fun r9 u H locs hp hw => ?_)
    obtain ⟨hu9, hr9⟩ := hp
    rw [hu9] at hw
    rw [hr9]
    clear hu9 hr9
    refine lv_if_eq (tgt := 23) hx hb dX4_move_13 (by decide) (fun c3 => ?_) (fun c3 => ?_)
    · have hc3 : ¬ (inI x1 4) := bI_0.mp c3
      refine lv_iconst (v := 1) hx hb dX4_move_23 (by decide) ?_
      refine lv_goto (tgt := 41) hx hb dX4_move_24 (by decide) ?_
      obtain ⟨σ2, hσ2⟩ : ∃ y : S3, y = su σ 23 0 0 1 := ⟨_, rfl⟩
      refine xr_put S hw tyX4 tyX4_ok nmX4 (j := 22) (by decide) rfl rfl inX4_move_X4 (by decide) (hts (.fieldLink RX4 69 "UnionOfficeModel" "thrown" "I") (by decide +kernel)) rfl (tyX4_ok 22 (by decide)) rfl rfl (Nat.le_of_ble_eq_true rfl) dX4_move_41 (mE cy ad σ2) (by rw [hσ2]; exact mu_thrown _ _ _ _) (fun H locs hw => ?_)
      refine lv_aload_n hx hb dX4_move_44 rfl (lv_at hl 0 rfl) ?_
      have hth2 : σ2 23 0 0 = 1 := by rw [hσ2]; rfl
      refine xr_get S hw (j := 22) (v := .int 1) (by decide) rfl rfl inX4_move_X4 (by decide) (hts (.fieldLink RX4 69 "UnionOfficeModel" "thrown" "I") (by decide +kernel)) (congrArg (fun z => some (Value.int z)) hth2) dX4_move_45 ?_
      refine lv_if_ne (tgt := 65) hx hb dX4_move_48 (by decide) (fun _ => ?_) (fun h => absurd h (by decide))
      exact xe_v S.1 S.2.1 hr hlocks hw (Or.inl ⟨fun h => hc3 h.2.1, hσ2⟩) (Nat.le_of_ble_eq_true rfl) (Nat.le_of_ble_eq_true rfl) dX4_move_65
    · have hc3 : inI x1 4 := bI_1.mp c3
      obtain ⟨b1, hb1, rfl⟩ := in_ix hc3
      refine lv_iload_n hx hb dX4_move_16 rfl (lv_at hl 3 rfl) ?_
      refine xc_Mi hw (va_runS (As := [.int x2]) (rest := [.ref (ad 0)]) S (c_X4_isBand l D cy ad σ x2 _) (va_cwS 1 S.2.2.2.2 gX4_move_X4_isBand rfl rfl rfl (by decide +kernel) ⟨Nat.le_of_ble_eq_true rfl, Nat.le_of_ble_eq_true rfl⟩) (xc_preS (XOK.tt _ _) hX hw _) rfl rfl hl.1 rfl (lv_room (Nat.le_of_ble_eq_true rfl)) dX4_move_17 ⟨Nat.le_of_ble_eq_true rfl, Nat.le_of_ble_eq_true rfl⟩) (fun r9 u H locs hp hw => ?_)
      obtain ⟨hu9, hr9⟩ := hp
      rw [hu9] at hw
      rw [hr9]
      clear hu9 hr9
      refine lv_if_ne (tgt := 27) hx hb dX4_move_20 (by decide) (fun c5 => ?_) (fun c5 => ?_)
      · have hc5 : inI x2 3 := bI_1.mp c5
        obtain ⟨b2, hb2, rfl⟩ := in_ix hc5
        refine lv_aload_n hx hb dX4_move_27 rfl (lv_at hl 0 rfl) ?_
        refine xr_get S hw (j := 8) (by decide) rfl rfl inX4_move_X4 (by decide) (hts (.fieldLink RX4 19 "UnionOfficeModel" "hasLeft" "[Z") (by decide +kernel)) rfl dX4_move_28 ?_
        refine lv_iload_n hx hb dX4_move_31 rfl (lv_at hl 1 rfl) ?_
        refine xv_zald S hw (t0 := 1) (v := σ 3 i 0) (by decide) rfl rfl (by omega) (by decide) rfl dX4_move_32 ?_
        refine lv_if_eq (tgt := 40) hx hb dX4_move_33 (by decide) (fun c6 => ?_) (fun c6 => ?_)
        · refine lv_iconst (v := 0) hx hb dX4_move_40 (by decide) ?_
          obtain ⟨σ3, hσ3⟩ : ∃ y : S3, y = su σ 23 0 0 0 := ⟨_, rfl⟩
          refine xr_put S hw tyX4 tyX4_ok nmX4 (j := 22) (by decide) rfl rfl inX4_move_X4 (by decide) (hts (.fieldLink RX4 69 "UnionOfficeModel" "thrown" "I") (by decide +kernel)) rfl (tyX4_ok 22 (by decide)) rfl rfl (Nat.le_of_ble_eq_true rfl) dX4_move_41 (mE cy ad σ3) (by rw [hσ3]; exact mu_thrown _ _ _ _) (fun H locs hw => ?_)
          refine lv_aload_n hx hb dX4_move_44 rfl (lv_at hl 0 rfl) ?_
          have hth3 : σ3 23 0 0 = 0 := by rw [hσ3]; rfl
          refine xr_get S hw (j := 22) (v := .int 0) (by decide) rfl rfl inX4_move_X4 (by decide) (hts (.fieldLink RX4 69 "UnionOfficeModel" "thrown" "I") (by decide +kernel)) (congrArg (fun z => some (Value.int z)) hth3) dX4_move_45 ?_
          refine lv_if_ne (tgt := 65) hx hb dX4_move_48 (by decide) (fun h => absurd h (by decide)) (fun _ => ?_)
          refine lv_aload_n hx hb dX4_move_51 rfl (lv_at hl 0 rfl) ?_
          refine xr_get S hw (j := 6) (by decide) rfl rfl inX4_move_X4 (by decide) (hts (.fieldLink RX4 13 "UnionOfficeModel" "branches" "[I") (by decide +kernel)) rfl dX4_move_52 ?_
          refine lv_iload_n hx hb dX4_move_55 rfl (lv_at hl 1 rfl) ?_
          refine lv_iload_n hx hb dX4_move_56 rfl (lv_at hl 2 rfl) ?_
          obtain ⟨σ4, hσ4⟩ : ∃ y : S3, y = su σ3 1 i 0 (nI b1) := ⟨_, rfl⟩
          refine xn_iast S hw (t0 := 0) (by decide) rfl rfl (by omega) (by decide) dX4_move_57 (mE cy ad σ4) (by rw [hσ4]; exact mu_mbr _ _ _ i (by omega)) (fun H locs hw => ?_)
          refine lv_aload_n hx hb dX4_move_58 rfl (lv_at hl 0 rfl) ?_
          refine xr_get S hw (j := 7) (by decide) rfl rfl inX4_move_X4 (by decide) (hts (.fieldLink RX4 16 "UnionOfficeModel" "bands" "[I") (by decide +kernel)) rfl dX4_move_59 ?_
          refine lv_iload_n hx hb dX4_move_62 rfl (lv_at hl 1 rfl) ?_
          refine lv_iload_n hx hb dX4_move_63 rfl (lv_at hl 3 rfl) ?_
          obtain ⟨σ5, hσ5⟩ : ∃ y : S3, y = su σ4 2 i 0 (nI b2) := ⟨_, rfl⟩
          refine xn_iast S hw (t0 := 0) (by decide) rfl rfl (by omega) (by decide) dX4_move_64 (mE cy ad σ5) (by rw [hσ5]; exact mu_mbd _ _ _ i (by omega)) (fun H locs hw => ?_)
          exact xe_v S.1 S.2.1 hr hlocks hw (Or.inr (Or.inr ⟨⟨hc1, hc3, hc5⟩, by rw [cl_nI (by omega)]; exact c6, by rw [cl_nI (show i < 2 ^ 31 by omega), cl_nI (show b1 < 2 ^ 31 by omega), cl_nI (show b2 < 2 ^ 31 by omega), hσ5, hσ4, hσ3]⟩)) (Nat.le_of_ble_eq_true rfl) (Nat.le_of_ble_eq_true rfl) dX4_move_65
        · refine lv_iconst (v := 2) hx hb dX4_move_36 (by decide) ?_
          refine lv_goto (tgt := 41) hx hb dX4_move_37 (by decide) ?_
          obtain ⟨σ6, hσ6⟩ : ∃ y : S3, y = su σ 23 0 0 2 := ⟨_, rfl⟩
          refine xr_put S hw tyX4 tyX4_ok nmX4 (j := 22) (by decide) rfl rfl inX4_move_X4 (by decide) (hts (.fieldLink RX4 69 "UnionOfficeModel" "thrown" "I") (by decide +kernel)) rfl (tyX4_ok 22 (by decide)) rfl rfl (Nat.le_of_ble_eq_true rfl) dX4_move_41 (mE cy ad σ6) (by rw [hσ6]; exact mu_thrown _ _ _ _) (fun H locs hw => ?_)
          refine lv_aload_n hx hb dX4_move_44 rfl (lv_at hl 0 rfl) ?_
          have hth4 : σ6 23 0 0 = 2 := by rw [hσ6]; rfl
          refine xr_get S hw (j := 22) (v := .int 2) (by decide) rfl rfl inX4_move_X4 (by decide) (hts (.fieldLink RX4 69 "UnionOfficeModel" "thrown" "I") (by decide +kernel)) (congrArg (fun z => some (Value.int z)) hth4) dX4_move_45 ?_
          refine lv_if_ne (tgt := 65) hx hb dX4_move_48 (by decide) (fun _ => ?_) (fun h => absurd h (by decide))
          exact xe_v S.1 S.2.1 hr hlocks hw (Or.inr (Or.inl ⟨⟨hc1, hc3, hc5⟩, by rw [cl_nI (by omega)]; exact c6, hσ6⟩)) (Nat.le_of_ble_eq_true rfl) (Nat.le_of_ble_eq_true rfl) dX4_move_65
      · have hc5 : ¬ (inI x2 3) := bI_0.mp c5
        refine lv_iconst (v := 1) hx hb dX4_move_23 (by decide) ?_
        refine lv_goto (tgt := 41) hx hb dX4_move_24 (by decide) ?_
        obtain ⟨σ7, hσ7⟩ : ∃ y : S3, y = su σ 23 0 0 1 := ⟨_, rfl⟩
        refine xr_put S hw tyX4 tyX4_ok nmX4 (j := 22) (by decide) rfl rfl inX4_move_X4 (by decide) (hts (.fieldLink RX4 69 "UnionOfficeModel" "thrown" "I") (by decide +kernel)) rfl (tyX4_ok 22 (by decide)) rfl rfl (Nat.le_of_ble_eq_true rfl) dX4_move_41 (mE cy ad σ7) (by rw [hσ7]; exact mu_thrown _ _ _ _) (fun H locs hw => ?_)
        refine lv_aload_n hx hb dX4_move_44 rfl (lv_at hl 0 rfl) ?_
        have hth5 : σ7 23 0 0 = 1 := by rw [hσ7]; rfl
        refine xr_get S hw (j := 22) (v := .int 1) (by decide) rfl rfl inX4_move_X4 (by decide) (hts (.fieldLink RX4 69 "UnionOfficeModel" "thrown" "I") (by decide +kernel)) (congrArg (fun z => some (Value.int z)) hth5) dX4_move_45 ?_
        refine lv_if_ne (tgt := 65) hx hb dX4_move_48 (by decide) (fun _ => ?_) (fun h => absurd h (by decide))
        exact xe_v S.1 S.2.1 hr hlocks hw (Or.inl ⟨fun h => hc5 h.2.2, hσ7⟩) (Nat.le_of_ble_eq_true rfl) (Nat.le_of_ble_eq_true rfl) dX4_move_65
abbrev rmX4_leave : Room := { frames := 2, cells := 0, slots := 0, locals := 43 }
theorem inX4_leave_X4 : (∀ w ∈ wsX40, w ∈ wsX4_leave) := by decide +kernel
set_option maxHeartbeats 1000000 in
set_option maxRecDepth 100000 in
/-- leave -/
theorem c_X4_leave (l : Launch) (D : va_G) (cy : Nat → ClassId) (ad : Nat → Nat) (σ : S3) (h4 : ∀ i, i < 16 → σ 4 i 0 = 0 ∨ σ 4 i 0 = 1) (x0 x1 : Int32) (hz1 : x1 = 0 ∨ x1 = 1) : MM l yX4_leave wsX4_leave rmX4_leave D cy ad [.ref (ad 0), .int x0, .int x1] σ (xPi (mP2 σ (inI x0 (nm σ)) (σ 3 x0.toNatClampNeg 0 = 0) (th0 σ 4 x0.toNatClampNeg 0) (su (th0 σ) 4 x0.toNatClampNeg 0 x1))) := by
  refine xs_M (cc := cX4_leave) (maxL := 4) (ret := (some .boolean)) (by decide +kernel) rfl (Nat.le_of_ble_eq_true rfl) ?_
  intro p e s m below meth c ls S hr hlocks hnm hw hX hl
  have S : CallFix p m c cX4_leave 4 s [.ref (ad 0), .int x0, .int x1].toArray wsX4_leave RX4 := S
  have hx := S.1
  have hb := S.2.1
  have hts := S.2.2.2.2
  have hl : lv_has ls 4 [(0, .ref (ad 0)), (1, .int x0), (2, .int x1)] := hl
  have hnm16 := nm_le σ
  have hnw18 := nw_le σ
  refine lv_aload_n hx hb dX4_leave_0 rfl (lv_at hl 0 rfl) ?_
  refine lv_aload_n hx hb dX4_leave_1 rfl (lv_at hl 0 rfl) ?_
  refine lv_iload_n hx hb dX4_leave_2 rfl (lv_at hl 1 rfl) ?_
  refine xc_Mi hw (va_runV (As := [.int x0]) (rest := [.ref (ad 0)]) S (c_X4_isMember l D cy ad σ x0 _) (cwV 1 S.2.2.2.2 gX4_leave_X4_isMember rfl rfl rfl (by decide +kernel) ⟨Nat.le_of_ble_eq_true rfl, Nat.le_of_ble_eq_true rfl⟩) (xc_preV (XOK.tt _ _) hX hw (by decide) rfl rfl rfl) rfl rfl hl.1 rfl (lv_room (Nat.le_of_ble_eq_true rfl)) dX4_leave_3 ⟨Nat.le_of_ble_eq_true rfl, Nat.le_of_ble_eq_true rfl⟩) (fun r9 u H locs hp hw => ?_)
  obtain ⟨hu9, hr9⟩ := hp
  rw [hu9] at hw
  rw [hr9]
  clear hu9 hr9
  refine lv_if_ne (tgt := 13) hx hb dX4_leave_6 (by decide) (fun c1 => ?_) (fun c1 => ?_)
  · have hc1 : inI x0 (nm σ) := bI_1.mp c1
    obtain ⟨i, hi, rfl⟩ := in_ix hc1
    refine lv_aload_n hx hb dX4_leave_13 rfl (lv_at hl 0 rfl) ?_
    refine xr_get S hw (j := 8) (by decide) rfl rfl inX4_leave_X4 (by decide) (hts (.fieldLink RX4 19 "UnionOfficeModel" "hasLeft" "[Z") (by decide +kernel)) rfl dX4_leave_14 ?_
    refine lv_iload_n hx hb dX4_leave_17 rfl (lv_at hl 1 rfl) ?_
    refine xv_zald S hw (t0 := 1) (v := σ 3 i 0) (by decide) rfl rfl (by omega) (by decide) rfl dX4_leave_18 ?_
    refine lv_if_eq (tgt := 26) hx hb dX4_leave_19 (by decide) (fun c2 => ?_) (fun c2 => ?_)
    · refine lv_iconst (v := 0) hx hb dX4_leave_26 (by decide) ?_
      obtain ⟨σ1, hσ1⟩ : ∃ y : S3, y = su σ 23 0 0 0 := ⟨_, rfl⟩
      refine xr_put S hw tyX4 tyX4_ok nmX4 (j := 22) (by decide) rfl rfl inX4_leave_X4 (by decide) (hts (.fieldLink RX4 69 "UnionOfficeModel" "thrown" "I") (by decide +kernel)) rfl (tyX4_ok 22 (by decide)) rfl rfl (Nat.le_of_ble_eq_true rfl) dX4_leave_27 (mE cy ad σ1) (by rw [hσ1]; exact mu_thrown _ _ _ _) (fun H locs hw => ?_)
      refine lv_aload_n hx hb dX4_leave_30 rfl (lv_at hl 0 rfl) ?_
      have hth1 : σ1 23 0 0 = 0 := by rw [hσ1]; rfl
      refine xr_get S hw (j := 22) (v := .int 0) (by decide) rfl rfl inX4_leave_X4 (by decide) (hts (.fieldLink RX4 69 "UnionOfficeModel" "thrown" "I") (by decide +kernel)) (congrArg (fun z => some (Value.int z)) hth1) dX4_leave_31 ?_
      refine lv_if_le (tgt := 39) hx hb dX4_leave_34 (by decide) (fun _ => ?_) (fun h => absurd h (by decide))
      refine lv_aload_n hx hb dX4_leave_39 rfl (lv_at hl 0 rfl) ?_
      refine xr_get S hw (j := 9) (by decide) rfl rfl inX4_leave_X4 (by decide) (hts (.fieldLink RX4 23 "UnionOfficeModel" "isAway" "[Z") (by decide +kernel)) rfl dX4_leave_40 ?_
      refine lv_iload_n hx hb dX4_leave_43 rfl (lv_at hl 1 rfl) ?_
      refine xv_zald S hw (t0 := 1) (v := σ1 4 i 0) (by decide) rfl rfl (by omega) (by decide) rfl dX4_leave_44 ?_
      refine lv_istore_n (lv' := [(3, .int (σ1 4 i 0)), (0, .ref (ad 0)), (1, .int (nI i)), (2, .int x1)]) hx hb dX4_leave_45 rfl hl (by decide) rfl (fun ls hl => ?_)
      refine lv_aload_n hx hb dX4_leave_46 rfl (lv_at hl 1 rfl) ?_
      refine xr_get S hw (j := 9) (by decide) rfl rfl inX4_leave_X4 (by decide) (hts (.fieldLink RX4 23 "UnionOfficeModel" "isAway" "[Z") (by decide +kernel)) rfl dX4_leave_47 ?_
      refine lv_iload_n hx hb dX4_leave_50 rfl (lv_at hl 2 rfl) ?_
      refine lv_iload_n hx hb dX4_leave_51 rfl (lv_at hl 3 rfl) ?_
      obtain ⟨σ2, hσ2⟩ : ∃ y : S3, y = su σ1 4 i 0 x1 := ⟨_, rfl⟩
      refine xn_zast S hw (t0 := 1) (by decide) rfl rfl (by omega) (by decide) (vpn_z hz1) dX4_leave_52 (mE cy ad σ2) (by rw [hσ2]; exact mu_away _ _ _ i _) (fun H locs hw => ?_)
      refine lv_iload_n hx hb dX4_leave_53 rfl (lv_at hl 0 rfl) ?_
      exact xe_z S.1 S.2.1 hr (by rw [hσ1]; rw [su_k (by decide)]; exact h4 _ (by omega)) hlocks hw (Or.inr (Or.inr ⟨hc1, by rw [cl_nI (by omega)]; exact c2, by rw [cl_nI (by omega), hσ1], by rw [cl_nI (by omega), hσ2, hσ1]⟩)) (Nat.le_of_ble_eq_true rfl) (Nat.le_of_ble_eq_true rfl) dX4_leave_54
    · refine lv_iconst (v := 2) hx hb dX4_leave_22 (by decide) ?_
      refine lv_goto (tgt := 27) hx hb dX4_leave_23 (by decide) ?_
      obtain ⟨σ3, hσ3⟩ : ∃ y : S3, y = su σ 23 0 0 2 := ⟨_, rfl⟩
      refine xr_put S hw tyX4 tyX4_ok nmX4 (j := 22) (by decide) rfl rfl inX4_leave_X4 (by decide) (hts (.fieldLink RX4 69 "UnionOfficeModel" "thrown" "I") (by decide +kernel)) rfl (tyX4_ok 22 (by decide)) rfl rfl (Nat.le_of_ble_eq_true rfl) dX4_leave_27 (mE cy ad σ3) (by rw [hσ3]; exact mu_thrown _ _ _ _) (fun H locs hw => ?_)
      refine lv_aload_n hx hb dX4_leave_30 rfl (lv_at hl 0 rfl) ?_
      have hth2 : σ3 23 0 0 = 2 := by rw [hσ3]; rfl
      refine xr_get S hw (j := 22) (v := .int 2) (by decide) rfl rfl inX4_leave_X4 (by decide) (hts (.fieldLink RX4 69 "UnionOfficeModel" "thrown" "I") (by decide +kernel)) (congrArg (fun z => some (Value.int z)) hth2) dX4_leave_31 ?_
      refine lv_if_le (tgt := 39) hx hb dX4_leave_34 (by decide) (fun h => absurd h (by decide)) (fun _ => ?_)
      refine lv_iconst (v := 0) hx hb dX4_leave_37 (by decide) ?_
      exact xe_z S.1 S.2.1 hr (Or.inl rfl) hlocks hw (Or.inr (Or.inl ⟨hc1, by rw [cl_nI (by omega)]; exact c2, rfl, hσ3⟩)) (Nat.le_of_ble_eq_true rfl) (Nat.le_of_ble_eq_true rfl) dX4_leave_38
  · have hc1 : ¬ (inI x0 (nm σ)) := bI_0.mp c1
    refine lv_iconst (v := 1) hx hb dX4_leave_9 (by decide) ?_
    refine lv_goto (tgt := 27) hx hb dX4_leave_10 (by decide) ?_
    obtain ⟨σ4, hσ4⟩ : ∃ y : S3, y = su σ 23 0 0 1 := ⟨_, rfl⟩
    refine xr_put S hw tyX4 tyX4_ok nmX4 (j := 22) (by decide) rfl rfl inX4_leave_X4 (by decide) (hts (.fieldLink RX4 69 "UnionOfficeModel" "thrown" "I") (by decide +kernel)) rfl (tyX4_ok 22 (by decide)) rfl rfl (Nat.le_of_ble_eq_true rfl) dX4_leave_27 (mE cy ad σ4) (by rw [hσ4]; exact mu_thrown _ _ _ _) (fun H locs hw => ?_)
    refine lv_aload_n hx hb dX4_leave_30 rfl (lv_at hl 0 rfl) ?_
    have hth3 : σ4 23 0 0 = 1 := by rw [hσ4]; rfl
    refine xr_get S hw (j := 22) (v := .int 1) (by decide) rfl rfl inX4_leave_X4 (by decide) (hts (.fieldLink RX4 69 "UnionOfficeModel" "thrown" "I") (by decide +kernel)) (congrArg (fun z => some (Value.int z)) hth3) dX4_leave_31 ?_
    refine lv_if_le (tgt := 39) hx hb dX4_leave_34 (by decide) (fun h => absurd h (by decide)) (fun _ => ?_)
    refine lv_iconst (v := 0) hx hb dX4_leave_37 (by decide) ?_
    exact xe_z S.1 S.2.1 hr (Or.inl rfl) hlocks hw (Or.inl ⟨hc1, rfl, hσ4⟩) (Nat.le_of_ble_eq_true rfl) (Nat.le_of_ble_eq_true rfl) dX4_leave_38
abbrev rmX4_quit : Room := { frames := 2, cells := 0, slots := 0, locals := 43 }
theorem inX4_quit_X4 : (∀ w ∈ wsX40, w ∈ wsX4_quit) := by decide +kernel
set_option maxHeartbeats 1000000 in
set_option maxRecDepth 100000 in
/-- quit -/
theorem c_X4_quit (l : Launch) (D : va_G) (cy : Nat → ClassId) (ad : Nat → Nat) (σ : S3) (x0 : Int32) : MM l yX4_quit wsX4_quit rmX4_quit D cy ad [.ref (ad 0), .int x0] σ (xPi (mP2 σ (inI x0 (nm σ)) (σ 3 x0.toNatClampNeg 0 = 0) (owM (su (th0 σ) 3 x0.toNatClampNeg 0 1) x0.toNatClampNeg) (su (th0 σ) 3 x0.toNatClampNeg 0 1))) := by
  refine xs_M (cc := cX4_quit) (maxL := 2) (ret := (some .int)) (by decide +kernel) rfl (Nat.le_of_ble_eq_true rfl) ?_
  intro p e s m below meth c ls S hr hlocks hnm hw hX hl
  have S : CallFix p m c cX4_quit 2 s [.ref (ad 0), .int x0].toArray wsX4_quit RX4 := S
  have hx := S.1
  have hb := S.2.1
  have hts := S.2.2.2.2
  have hl : lv_has ls 2 [(0, .ref (ad 0)), (1, .int x0)] := hl
  have hnm16 := nm_le σ
  have hnw18 := nw_le σ
  refine lv_aload_n hx hb dX4_quit_0 rfl (lv_at hl 0 rfl) ?_
  refine lv_aload_n hx hb dX4_quit_1 rfl (lv_at hl 0 rfl) ?_
  refine lv_iload_n hx hb dX4_quit_2 rfl (lv_at hl 1 rfl) ?_
  refine xc_Mi hw (va_runV (As := [.int x0]) (rest := [.ref (ad 0)]) S (c_X4_isMember l D cy ad σ x0 _) (cwV 1 S.2.2.2.2 gX4_quit_X4_isMember rfl rfl rfl (by decide +kernel) ⟨Nat.le_of_ble_eq_true rfl, Nat.le_of_ble_eq_true rfl⟩) (xc_preV (XOK.tt _ _) hX hw (by decide) rfl rfl rfl) rfl rfl hl.1 rfl (lv_room (Nat.le_of_ble_eq_true rfl)) dX4_quit_3 ⟨Nat.le_of_ble_eq_true rfl, Nat.le_of_ble_eq_true rfl⟩) (fun r9 u H locs hp hw => ?_)
  obtain ⟨hu9, hr9⟩ := hp
  rw [hu9] at hw
  rw [hr9]
  clear hu9 hr9
  refine lv_if_ne (tgt := 13) hx hb dX4_quit_6 (by decide) (fun c1 => ?_) (fun c1 => ?_)
  · have hc1 : inI x0 (nm σ) := bI_1.mp c1
    obtain ⟨i, hi, rfl⟩ := in_ix hc1
    refine lv_aload_n hx hb dX4_quit_13 rfl (lv_at hl 0 rfl) ?_
    refine xr_get S hw (j := 8) (by decide) rfl rfl inX4_quit_X4 (by decide) (hts (.fieldLink RX4 19 "UnionOfficeModel" "hasLeft" "[Z") (by decide +kernel)) rfl dX4_quit_14 ?_
    refine lv_iload_n hx hb dX4_quit_17 rfl (lv_at hl 1 rfl) ?_
    refine xv_zald S hw (t0 := 1) (v := σ 3 i 0) (by decide) rfl rfl (by omega) (by decide) rfl dX4_quit_18 ?_
    refine lv_if_eq (tgt := 26) hx hb dX4_quit_19 (by decide) (fun c2 => ?_) (fun c2 => ?_)
    · refine lv_iconst (v := 0) hx hb dX4_quit_26 (by decide) ?_
      obtain ⟨σ1, hσ1⟩ : ∃ y : S3, y = su σ 23 0 0 0 := ⟨_, rfl⟩
      refine xr_put S hw tyX4 tyX4_ok nmX4 (j := 22) (by decide) rfl rfl inX4_quit_X4 (by decide) (hts (.fieldLink RX4 69 "UnionOfficeModel" "thrown" "I") (by decide +kernel)) rfl (tyX4_ok 22 (by decide)) rfl rfl (Nat.le_of_ble_eq_true rfl) dX4_quit_27 (mE cy ad σ1) (by rw [hσ1]; exact mu_thrown _ _ _ _) (fun H locs hw => ?_)
      refine lv_aload_n hx hb dX4_quit_30 rfl (lv_at hl 0 rfl) ?_
      have hth1 : σ1 23 0 0 = 0 := by rw [hσ1]; rfl
      refine xr_get S hw (j := 22) (v := .int 0) (by decide) rfl rfl inX4_quit_X4 (by decide) (hts (.fieldLink RX4 69 "UnionOfficeModel" "thrown" "I") (by decide +kernel)) (congrArg (fun z => some (Value.int z)) hth1) dX4_quit_31 ?_
      refine lv_if_le (tgt := 39) hx hb dX4_quit_34 (by decide) (fun _ => ?_) (fun h => absurd h (by decide))
      refine lv_aload_n hx hb dX4_quit_39 rfl (lv_at hl 0 rfl) ?_
      refine xr_get S hw (j := 8) (by decide) rfl rfl inX4_quit_X4 (by decide) (hts (.fieldLink RX4 19 "UnionOfficeModel" "hasLeft" "[Z") (by decide +kernel)) rfl dX4_quit_40 ?_
      refine lv_iload_n hx hb dX4_quit_43 rfl (lv_at hl 1 rfl) ?_
      refine lv_iconst (v := 1) hx hb dX4_quit_44 (by decide) ?_
      obtain ⟨σ2, hσ2⟩ : ∃ y : S3, y = su σ1 3 i 0 1 := ⟨_, rfl⟩
      refine xn_zast S hw (t0 := 1) (by decide) rfl rfl (by omega) (by decide) (vpn_z (Or.inr rfl)) dX4_quit_45 (mE cy ad σ2) (by rw [hσ2]; exact mu_left _ _ _ i _) (fun H locs hw => ?_)
      refine lv_aload_n hx hb dX4_quit_46 rfl (lv_at hl 0 rfl) ?_
      refine lv_iload_n hx hb dX4_quit_47 rfl (lv_at hl 1 rfl) ?_
      refine xc_Mi hw (va_runV (As := [.int (nI i)]) (rest := []) S (c_X4_owedBy l D cy ad σ2 i (by omega) _) (cwV 1 S.2.2.2.2 gX4_quit_X4_owedBy rfl rfl rfl (by decide +kernel) ⟨Nat.le_of_ble_eq_true rfl, Nat.le_of_ble_eq_true rfl⟩) (xc_preV (XOK.tt _ _) hX hw (by decide) rfl rfl rfl) rfl rfl hl.1 rfl (lv_room (Nat.le_of_ble_eq_true rfl)) dX4_quit_48 ⟨Nat.le_of_ble_eq_true rfl, Nat.le_of_ble_eq_true rfl⟩) (fun r9 u H locs hp hw => ?_)
      obtain ⟨hu9, hr9⟩ := hp
      rw [hu9] at hw
      rw [hr9]
      clear hu9 hr9
      exact xe_i S.1 S.2.1 hr hlocks hw (Or.inr (Or.inr ⟨hc1, by rw [cl_nI (by omega)]; exact c2, by rw [cl_nI (by omega), hσ2, hσ1], by rw [cl_nI (by omega), hσ2, hσ1]⟩)) (Nat.le_of_ble_eq_true rfl) (Nat.le_of_ble_eq_true rfl) dX4_quit_51
    · refine lv_iconst (v := 2) hx hb dX4_quit_22 (by decide) ?_
      refine lv_goto (tgt := 27) hx hb dX4_quit_23 (by decide) ?_
      obtain ⟨σ3, hσ3⟩ : ∃ y : S3, y = su σ 23 0 0 2 := ⟨_, rfl⟩
      refine xr_put S hw tyX4 tyX4_ok nmX4 (j := 22) (by decide) rfl rfl inX4_quit_X4 (by decide) (hts (.fieldLink RX4 69 "UnionOfficeModel" "thrown" "I") (by decide +kernel)) rfl (tyX4_ok 22 (by decide)) rfl rfl (Nat.le_of_ble_eq_true rfl) dX4_quit_27 (mE cy ad σ3) (by rw [hσ3]; exact mu_thrown _ _ _ _) (fun H locs hw => ?_)
      refine lv_aload_n hx hb dX4_quit_30 rfl (lv_at hl 0 rfl) ?_
      have hth2 : σ3 23 0 0 = 2 := by rw [hσ3]; rfl
      refine xr_get S hw (j := 22) (v := .int 2) (by decide) rfl rfl inX4_quit_X4 (by decide) (hts (.fieldLink RX4 69 "UnionOfficeModel" "thrown" "I") (by decide +kernel)) (congrArg (fun z => some (Value.int z)) hth2) dX4_quit_31 ?_
      refine lv_if_le (tgt := 39) hx hb dX4_quit_34 (by decide) (fun h => absurd h (by decide)) (fun _ => ?_)
      refine lv_iconst (v := 0) hx hb dX4_quit_37 (by decide) ?_
      exact xe_i S.1 S.2.1 hr hlocks hw (Or.inr (Or.inl ⟨hc1, by rw [cl_nI (by omega)]; exact c2, rfl, hσ3⟩)) (Nat.le_of_ble_eq_true rfl) (Nat.le_of_ble_eq_true rfl) dX4_quit_38
  · have hc1 : ¬ (inI x0 (nm σ)) := bI_0.mp c1
    refine lv_iconst (v := 1) hx hb dX4_quit_9 (by decide) ?_
    refine lv_goto (tgt := 27) hx hb dX4_quit_10 (by decide) ?_
    obtain ⟨σ4, hσ4⟩ : ∃ y : S3, y = su σ 23 0 0 1 := ⟨_, rfl⟩
    refine xr_put S hw tyX4 tyX4_ok nmX4 (j := 22) (by decide) rfl rfl inX4_quit_X4 (by decide) (hts (.fieldLink RX4 69 "UnionOfficeModel" "thrown" "I") (by decide +kernel)) rfl (tyX4_ok 22 (by decide)) rfl rfl (Nat.le_of_ble_eq_true rfl) dX4_quit_27 (mE cy ad σ4) (by rw [hσ4]; exact mu_thrown _ _ _ _) (fun H locs hw => ?_)
    refine lv_aload_n hx hb dX4_quit_30 rfl (lv_at hl 0 rfl) ?_
    have hth3 : σ4 23 0 0 = 1 := by rw [hσ4]; rfl
    refine xr_get S hw (j := 22) (v := .int 1) (by decide) rfl rfl inX4_quit_X4 (by decide) (hts (.fieldLink RX4 69 "UnionOfficeModel" "thrown" "I") (by decide +kernel)) (congrArg (fun z => some (Value.int z)) hth3) dX4_quit_31 ?_
    refine lv_if_le (tgt := 39) hx hb dX4_quit_34 (by decide) (fun h => absurd h (by decide)) (fun _ => ?_)
    refine lv_iconst (v := 0) hx hb dX4_quit_37 (by decide) ?_
    exact xe_i S.1 S.2.1 hr hlocks hw (Or.inl ⟨hc1, rfl, hσ4⟩) (Nat.le_of_ble_eq_true rfl) (Nat.le_of_ble_eq_true rfl) dX4_quit_38
def mpF (σ : S3) (i : Nat) (a : Int32) : S3 := mlA (su (th0 σ) 5 i 0 (th0 σ 5 i 0 + a)) i
abbrev rmX4_pay : Room := { frames := 2, cells := 0, slots := 0, locals := 43 }
theorem inX4_pay_X4 : (∀ w ∈ wsX40, w ∈ wsX4_pay) := by decide +kernel
set_option maxHeartbeats 1000000 in
set_option maxRecDepth 100000 in
/-- pay -/
theorem c_X4_pay (l : Launch) (D : va_G) (cy : Nat → ClassId) (ad : Nat → Nat) (σ : S3) (x0 x1 : Int32) : MM l yX4_pay wsX4_pay rmX4_pay D cy ad [.ref (ad 0), .int x0, .int x1] σ (xPi (mP2 σ (inI x0 (nm σ)) (rgI x1 1 1000000) (owM (mpF σ x0.toNatClampNeg x1) x0.toNatClampNeg) (mpF σ x0.toNatClampNeg x1))) := by
  refine xs_M (cc := cX4_pay) (maxL := 3) (ret := (some .int)) (by decide +kernel) rfl (Nat.le_of_ble_eq_true rfl) ?_
  intro p e s m below meth c ls S hr hlocks hnm hw hX hl
  have S : CallFix p m c cX4_pay 3 s [.ref (ad 0), .int x0, .int x1].toArray wsX4_pay RX4 := S
  have hx := S.1
  have hb := S.2.1
  have hts := S.2.2.2.2
  have hl : lv_has ls 3 [(0, .ref (ad 0)), (1, .int x0), (2, .int x1)] := hl
  have hnm16 := nm_le σ
  have hnw18 := nw_le σ
  refine lv_aload_n hx hb dX4_pay_0 rfl (lv_at hl 0 rfl) ?_
  refine lv_aload_n hx hb dX4_pay_1 rfl (lv_at hl 0 rfl) ?_
  refine lv_iload_n hx hb dX4_pay_2 rfl (lv_at hl 1 rfl) ?_
  refine xc_Mi hw (va_runV (As := [.int x0]) (rest := [.ref (ad 0)]) S (c_X4_isMember l D cy ad σ x0 _) (cwV 1 S.2.2.2.2 gX4_pay_X4_isMember rfl rfl rfl (by decide +kernel) ⟨Nat.le_of_ble_eq_true rfl, Nat.le_of_ble_eq_true rfl⟩) (xc_preV (XOK.tt _ _) hX hw (by decide) rfl rfl rfl) rfl rfl hl.1 rfl (lv_room (Nat.le_of_ble_eq_true rfl)) dX4_pay_3 ⟨Nat.le_of_ble_eq_true rfl, Nat.le_of_ble_eq_true rfl⟩) (fun r9 u H locs hp hw => ?_)
  obtain ⟨hu9, hr9⟩ := hp
  rw [hu9] at hw
  rw [hr9]
  clear hu9 hr9
  refine lv_if_ne (tgt := 13) hx hb dX4_pay_6 (by decide) (fun c1 => ?_) (fun c1 => ?_)
  · have hc1 : inI x0 (nm σ) := bI_1.mp c1
    obtain ⟨i, hi, rfl⟩ := in_ix hc1
    refine lv_iload_n hx hb dX4_pay_13 rfl (lv_at hl 2 rfl) ?_
    refine lv_iconst (v := 1) hx hb dX4_pay_14 (by decide) ?_
    refine lv_ldc hx hb S.2.2.2.1 (hts (.constant RX4 103 (1000000)) (by decide +kernel)) dX4_pay_15 ?_
    refine xc_Mi hw (va_runS (As := [.int x1, .int 1, .int 1000000]) (rest := [.ref (ad 0)]) S (c_X4_in l D cy ad σ x1 1 1000000 _) (va_cwS 3 S.2.2.2.2 gX4_pay_X4_in rfl rfl rfl (by decide +kernel) ⟨Nat.le_of_ble_eq_true rfl, Nat.le_of_ble_eq_true rfl⟩) (xc_preS (XOK.tt _ _) hX hw _) rfl rfl hl.1 rfl (lv_room (Nat.le_of_ble_eq_true rfl)) dX4_pay_17 ⟨Nat.le_of_ble_eq_true rfl, Nat.le_of_ble_eq_true rfl⟩) (fun r9 u H locs hp hw => ?_)
    obtain ⟨hu9, hr9⟩ := hp
    rw [hu9] at hw
    rw [hr9]
    clear hu9 hr9
    refine lv_if_ne (tgt := 27) hx hb dX4_pay_20 (by decide) (fun c2 => ?_) (fun c2 => ?_)
    · have hc2 : rgI x1 1 1000000 := bI_1.mp c2
      refine lv_iconst (v := 0) hx hb dX4_pay_27 (by decide) ?_
      obtain ⟨σ1, hσ1⟩ : ∃ y : S3, y = su σ 23 0 0 0 := ⟨_, rfl⟩
      refine xr_put S hw tyX4 tyX4_ok nmX4 (j := 22) (by decide) rfl rfl inX4_pay_X4 (by decide) (hts (.fieldLink RX4 69 "UnionOfficeModel" "thrown" "I") (by decide +kernel)) rfl (tyX4_ok 22 (by decide)) rfl rfl (Nat.le_of_ble_eq_true rfl) dX4_pay_28 (mE cy ad σ1) (by rw [hσ1]; exact mu_thrown _ _ _ _) (fun H locs hw => ?_)
      refine lv_aload_n hx hb dX4_pay_31 rfl (lv_at hl 0 rfl) ?_
      have hth1 : σ1 23 0 0 = 0 := by rw [hσ1]; rfl
      refine xr_get S hw (j := 22) (v := .int 0) (by decide) rfl rfl inX4_pay_X4 (by decide) (hts (.fieldLink RX4 69 "UnionOfficeModel" "thrown" "I") (by decide +kernel)) (congrArg (fun z => some (Value.int z)) hth1) dX4_pay_32 ?_
      refine lv_if_le (tgt := 40) hx hb dX4_pay_35 (by decide) (fun _ => ?_) (fun h => absurd h (by decide))
      refine lv_aload_n hx hb dX4_pay_40 rfl (lv_at hl 0 rfl) ?_
      refine xr_get S hw (j := 10) (by decide) rfl rfl inX4_pay_X4 (by decide) (hts (.fieldLink RX4 26 "UnionOfficeModel" "credits" "[I") (by decide +kernel)) rfl dX4_pay_41 ?_
      refine lv_iload_n hx hb dX4_pay_44 rfl (lv_at hl 1 rfl) ?_
      refine lv_dup2_11 hx hb dX4_pay_45 rfl rfl ?_
      refine xv_iald S hw (t0 := 0) (v := σ1 5 i 0) (by decide) rfl rfl (by omega) (by decide) rfl dX4_pay_46 ?_
      refine lv_iload_n hx hb dX4_pay_47 rfl (lv_at hl 2 rfl) ?_
      refine lv_iadd hx hb dX4_pay_48 ?_
      obtain ⟨σ2, hσ2⟩ : ∃ y : S3, y = su σ1 5 i 0 ((σ1 5 i 0) + x1) := ⟨_, rfl⟩
      refine xn_iast S hw (t0 := 0) (by decide) rfl rfl (by omega) (by decide) dX4_pay_49 (mE cy ad σ2) (by rw [hσ2]; exact mu_credits _ _ _ i _) (fun H locs hw => ?_)
      refine lv_aload_n hx hb dX4_pay_50 rfl (lv_at hl 0 rfl) ?_
      refine lv_iload_n hx hb dX4_pay_51 rfl (lv_at hl 1 rfl) ?_
      refine xc_Mv hw (va_runV (As := [.int (nI i)]) (rest := []) S (c_X4_lay l D cy ad σ2 i (by omega) _) (cwV 1 S.2.2.2.2 gX4_pay_X4_lay rfl rfl rfl (by decide +kernel) ⟨Nat.le_of_ble_eq_true rfl, Nat.le_of_ble_eq_true rfl⟩) (xc_preV (XOK.tt _ _) hX hw (by decide) rfl rfl rfl) rfl rfl hl.1 rfl (lv_room (Nat.le_of_ble_eq_true rfl)) dX4_pay_52 ⟨Nat.le_of_ble_eq_true rfl, Nat.le_of_ble_eq_true rfl⟩) (fun u H locs hp hw => ?_)
      obtain rfl := hp
      refine lv_aload_n hx hb dX4_pay_55 rfl (lv_at hl 0 rfl) ?_
      refine lv_iload_n hx hb dX4_pay_56 rfl (lv_at hl 1 rfl) ?_
      refine xc_Mi hw (va_runV (As := [.int (nI i)]) (rest := []) S (c_X4_owedBy l D cy ad (mlA σ2 i) i (by omega) _) (cwV 1 S.2.2.2.2 gX4_pay_X4_owedBy rfl rfl rfl (by decide +kernel) ⟨Nat.le_of_ble_eq_true rfl, Nat.le_of_ble_eq_true rfl⟩) (xc_preV (XOK.tt _ _) hX hw (by decide) rfl rfl rfl) rfl rfl hl.1 rfl (lv_room (Nat.le_of_ble_eq_true rfl)) dX4_pay_57 ⟨Nat.le_of_ble_eq_true rfl, Nat.le_of_ble_eq_true rfl⟩) (fun r9 u H locs hp hw => ?_)
      obtain ⟨hu9, hr9⟩ := hp
      rw [hu9] at hw
      rw [hr9]
      clear hu9 hr9
      exact xe_i S.1 S.2.1 hr hlocks hw (Or.inr (Or.inr ⟨hc1, hc2, by rw [cl_nI (by omega), hσ2, hσ1]; rfl, by rw [cl_nI (by omega), hσ2, hσ1]; rfl⟩)) (Nat.le_of_ble_eq_true rfl) (Nat.le_of_ble_eq_true rfl) dX4_pay_60
    · have hc2 : ¬ (rgI x1 1 1000000) := bI_0.mp c2
      refine lv_iconst (v := 2) hx hb dX4_pay_23 (by decide) ?_
      refine lv_goto (tgt := 28) hx hb dX4_pay_24 (by decide) ?_
      obtain ⟨σ3, hσ3⟩ : ∃ y : S3, y = su σ 23 0 0 2 := ⟨_, rfl⟩
      refine xr_put S hw tyX4 tyX4_ok nmX4 (j := 22) (by decide) rfl rfl inX4_pay_X4 (by decide) (hts (.fieldLink RX4 69 "UnionOfficeModel" "thrown" "I") (by decide +kernel)) rfl (tyX4_ok 22 (by decide)) rfl rfl (Nat.le_of_ble_eq_true rfl) dX4_pay_28 (mE cy ad σ3) (by rw [hσ3]; exact mu_thrown _ _ _ _) (fun H locs hw => ?_)
      refine lv_aload_n hx hb dX4_pay_31 rfl (lv_at hl 0 rfl) ?_
      have hth2 : σ3 23 0 0 = 2 := by rw [hσ3]; rfl
      refine xr_get S hw (j := 22) (v := .int 2) (by decide) rfl rfl inX4_pay_X4 (by decide) (hts (.fieldLink RX4 69 "UnionOfficeModel" "thrown" "I") (by decide +kernel)) (congrArg (fun z => some (Value.int z)) hth2) dX4_pay_32 ?_
      refine lv_if_le (tgt := 40) hx hb dX4_pay_35 (by decide) (fun h => absurd h (by decide)) (fun _ => ?_)
      refine lv_iconst (v := 0) hx hb dX4_pay_38 (by decide) ?_
      exact xe_i S.1 S.2.1 hr hlocks hw (Or.inr (Or.inl ⟨hc1, hc2, rfl, hσ3⟩)) (Nat.le_of_ble_eq_true rfl) (Nat.le_of_ble_eq_true rfl) dX4_pay_39
  · have hc1 : ¬ (inI x0 (nm σ)) := bI_0.mp c1
    refine lv_iconst (v := 1) hx hb dX4_pay_9 (by decide) ?_
    refine lv_goto (tgt := 28) hx hb dX4_pay_10 (by decide) ?_
    obtain ⟨σ4, hσ4⟩ : ∃ y : S3, y = su σ 23 0 0 1 := ⟨_, rfl⟩
    refine xr_put S hw tyX4 tyX4_ok nmX4 (j := 22) (by decide) rfl rfl inX4_pay_X4 (by decide) (hts (.fieldLink RX4 69 "UnionOfficeModel" "thrown" "I") (by decide +kernel)) rfl (tyX4_ok 22 (by decide)) rfl rfl (Nat.le_of_ble_eq_true rfl) dX4_pay_28 (mE cy ad σ4) (by rw [hσ4]; exact mu_thrown _ _ _ _) (fun H locs hw => ?_)
    refine lv_aload_n hx hb dX4_pay_31 rfl (lv_at hl 0 rfl) ?_
    have hth3 : σ4 23 0 0 = 1 := by rw [hσ4]; rfl
    refine xr_get S hw (j := 22) (v := .int 1) (by decide) rfl rfl inX4_pay_X4 (by decide) (hts (.fieldLink RX4 69 "UnionOfficeModel" "thrown" "I") (by decide +kernel)) (congrArg (fun z => some (Value.int z)) hth3) dX4_pay_32 ?_
    refine lv_if_le (tgt := 40) hx hb dX4_pay_35 (by decide) (fun h => absurd h (by decide)) (fun _ => ?_)
    refine lv_iconst (v := 0) hx hb dX4_pay_38 (by decide) ?_
    exact xe_i S.1 S.2.1 hr hlocks hw (Or.inl ⟨hc1, rfl, hσ4⟩) (Nat.le_of_ble_eq_true rfl) (Nat.le_of_ble_eq_true rfl) dX4_pay_39
def ovF (σ : S3) (b : Nat) : Nat → S3
  | 0 => σ
  | j + 1 => su (ovF σ b j) 15 b j 0
def ovA (σ : S3) (b : Nat) : S3 := ovF σ b 16
def moF (σ : S3) (b : Nat) : S3 := ovA (su (su (su (th0 σ) 10 b 0 1) 11 b 0 0) 12 b 0 0) b
theorem inX4_open_X4 : (∀ w ∈ wsX40, w ∈ wsX4_open) := by decide +kernel
set_option maxHeartbeats 1000000 in
set_option maxRecDepth 100000 in
theorem lp_X4_open {p : Program} {l : Launch} {e : Env} {R : Room} {s : State} {m : MethodId} {args : Array Value} {below : List Frame} {meth : Method} {c : Code} {cells slots : Nat} {Q : State → Prop} (S : CallFix p m c cX4_open 3 s args wsX4_open RX4) {D : va_G} {cy : Nat → ClassId} {ad : Nat → Nat} {σ : S3} {b : Nat} (hb : b < 4) : ∀ (k : Nat) (j : Nat) (τ : S3) (H : Heap) (locs : List Loc) (ls : Array Slot), 16 - j < k → j ≤ 16 → τ = ovF σ b j → MW D cy s ad τ H locs → lv_has ls 3 [(0, .ref (ad 0)), (1, .int (nI b)), (2, .int (nI j))] → (∀ (H : Heap) (locs : List Loc) (ls : Array Slot), MW D cy s ad (ovA σ b) H locs → lv_has ls 3 [(0, .ref (ad 0)), (1, .int (nI b))] → W p l e R s m args below meth c H locs cells slots Q (F0 m 94 ls [])) → W p l e R s m args below meth c H locs cells slots Q (F0 m 70 ls []) := by
  have hx := S.1
  have hb := S.2.1
  have hts := S.2.2.2.2
  intro k
  induction k with
  | zero => intro j τ H locs ls hk; exact absurd hk (Nat.not_lt_zero _)
  | succ k ih =>
    intro j τ H locs ls hk hj hτ hw hl kk
    refine lv_iload_n hx hb dX4_open_70 rfl (lv_at hl 2 rfl) ?_
    refine lv_bipush (v := 16) hx hb dX4_open_71 (by decide) ?_
    refine lv_icmp_ge (tgt := 94) hx hb dX4_open_73 (by decide) (fun c1 => ?_) (fun c1 => ?_)
    · have hj6 : j = 16 := by
        rcases Nat.lt_or_ge j 16 with q | q
        · exact absurd c1 ((lt16 (by omega)).mpr q)
        · omega
      exact kk H locs ls (by unfold ovA; rw [← hj6, ← hτ]; exact hw) (lv_sub hl [0, 1] rfl)
    · have hj6 : j < 16 := (lt16 (by omega)).mp c1
      refine lv_aload_n hx hb dX4_open_76 rfl (lv_at hl 0 rfl) ?_
      refine xr_get S hw (j := 20) (by decide) rfl rfl inX4_open_X4 (by decide) (hts (.fieldLink RX4 56 "UnionOfficeModel" "hasVoted" "[Z") (by decide +kernel)) rfl dX4_open_77 ?_
      refine lv_bipush (v := 16) hx hb dX4_open_80 (by decide) ?_
      refine lv_iload_n hx hb dX4_open_82 rfl (lv_at hl 1 rfl) ?_
      refine lv_imul hx hb dX4_open_83 ?_
      refine lv_iload_n hx hb dX4_open_84 rfl (lv_at hl 2 rfl) ?_
      refine lv_iadd hx hb dX4_open_85 ?_
      rw [show ((16 * (nI b)) + (nI j)) = nI (16 * b + j) from mulN 16 b j]
      refine lv_iconst (v := 0) hx hb dX4_open_86 (by decide) ?_
      obtain ⟨σ1, hσ1⟩ : ∃ y : S3, y = su τ 15 b j 0 := ⟨_, rfl⟩
      refine xn_zast S hw (t0 := 1) (by decide) rfl rfl (by omega) (by decide) (vpn_z (Or.inl rfl)) dX4_open_87 (mE cy ad σ1) (by rw [hσ1]; exact mu_voted _ _ _ b (by omega) _) (fun H locs hw => ?_)
      refine lv_iinc (v := nI (j + 1)) (lv' := [(2, .int (nI (j + 1))), (0, .ref (ad 0)), (1, .int (nI b))]) hx hb dX4_open_88 hl (k := 2) rfl (nI_1 j) (by decide) rfl (fun ls hl => ?_)
      refine lv_goto (tgt := 70) hx hb dX4_open_91 (by decide) ?_
      exact ih (j + 1) σ1 H locs ls (by omega) (by omega) (by rw [hσ1, hτ]; rfl) hw (lv_sub hl [1, 2, 0] rfl) kk
abbrev rmX4_open : Room := { frames := 2, cells := 0, slots := 0, locals := 46 }
set_option maxHeartbeats 1000000 in
set_option maxRecDepth 100000 in
/-- open -/
theorem c_X4_open (l : Launch) (D : va_G) (cy : Nat → ClassId) (ad : Nat → Nat) (σ : S3) (x0 : Int32) : MM l yX4_open wsX4_open rmX4_open D cy ad [.ref (ad 0), .int x0] σ (xPi (mP2 σ (inI x0 4) (opP σ x0.toNatClampNeg) (cntM (moF σ x0.toNatClampNeg) (nI x0.toNatClampNeg) (nm (moF σ x0.toNatClampNeg))) (moF σ x0.toNatClampNeg))) := by
  refine xs_M (cc := cX4_open) (maxL := 3) (ret := (some .int)) (by decide +kernel) rfl (Nat.le_of_ble_eq_true rfl) ?_
  intro p e s m below meth c ls S hr hlocks hnm hw hX hl
  have S : CallFix p m c cX4_open 3 s [.ref (ad 0), .int x0].toArray wsX4_open RX4 := S
  have hx := S.1
  have hb := S.2.1
  have hts := S.2.2.2.2
  have hl : lv_has ls 3 [(0, .ref (ad 0)), (1, .int x0)] := hl
  have hnm16 := nm_le σ
  have hnw18 := nw_le σ
  refine lv_aload_n hx hb dX4_open_0 rfl (lv_at hl 0 rfl) ?_
  refine lv_iload_n hx hb dX4_open_1 rfl (lv_at hl 1 rfl) ?_
  refine xc_Mi hw (va_runS (As := [.int x0]) (rest := [.ref (ad 0)]) S (c_X4_isBranch l D cy ad σ x0 _) (va_cwS 1 S.2.2.2.2 gX4_open_X4_isBranch rfl rfl rfl (by decide +kernel) ⟨Nat.le_of_ble_eq_true rfl, Nat.le_of_ble_eq_true rfl⟩) (xc_preS (XOK.tt _ _) hX hw _) rfl rfl hl.1 rfl (lv_room (Nat.le_of_ble_eq_true rfl)) dX4_open_2 ⟨Nat.le_of_ble_eq_true rfl, Nat.le_of_ble_eq_true rfl⟩) (fun r9 u H locs hp hw => ?_)
  obtain ⟨hu9, hr9⟩ := hp
  rw [hu9] at hw
  rw [hr9]
  clear hu9 hr9
  refine lv_if_ne (tgt := 12) hx hb dX4_open_5 (by decide) (fun c1 => ?_) (fun c1 => ?_)
  · have hc1 : inI x0 4 := bI_1.mp c1
    obtain ⟨b, hbb, rfl⟩ := in_ix hc1
    refine lv_aload_n hx hb dX4_open_12 rfl (lv_at hl 0 rfl) ?_
    refine xr_get S hw (j := 15) (by decide) rfl rfl inX4_open_X4 (by decide) (hts (.fieldLink RX4 41 "UnionOfficeModel" "hasBallot" "[Z") (by decide +kernel)) rfl dX4_open_13 ?_
    refine lv_iload_n hx hb dX4_open_16 rfl (lv_at hl 1 rfl) ?_
    refine xv_zald S hw (t0 := 1) (v := σ 10 b 0) (by decide) rfl rfl (by omega) (by decide) rfl dX4_open_17 ?_
    refine lv_if_ne (tgt := 30) hx hb dX4_open_18 (by decide) (fun c2 => ?_) (fun c2 => ?_)
    · refine lv_iconst (v := 2) hx hb dX4_open_30 (by decide) ?_
      refine lv_goto (tgt := 35) hx hb dX4_open_31 (by decide) ?_
      obtain ⟨σ1, hσ1⟩ : ∃ y : S3, y = su σ 23 0 0 2 := ⟨_, rfl⟩
      refine xr_put S hw tyX4 tyX4_ok nmX4 (j := 22) (by decide) rfl rfl inX4_open_X4 (by decide) (hts (.fieldLink RX4 69 "UnionOfficeModel" "thrown" "I") (by decide +kernel)) rfl (tyX4_ok 22 (by decide)) rfl rfl (Nat.le_of_ble_eq_true rfl) dX4_open_35 (mE cy ad σ1) (by rw [hσ1]; exact mu_thrown _ _ _ _) (fun H locs hw => ?_)
      refine lv_aload_n hx hb dX4_open_38 rfl (lv_at hl 0 rfl) ?_
      have hth1 : σ1 23 0 0 = 2 := by rw [hσ1]; rfl
      refine xr_get S hw (j := 22) (v := .int 2) (by decide) rfl rfl inX4_open_X4 (by decide) (hts (.fieldLink RX4 69 "UnionOfficeModel" "thrown" "I") (by decide +kernel)) (congrArg (fun z => some (Value.int z)) hth1) dX4_open_39 ?_
      refine lv_if_le (tgt := 47) hx hb dX4_open_42 (by decide) (fun h => absurd h (by decide)) (fun _ => ?_)
      refine lv_iconst (v := 0) hx hb dX4_open_45 (by decide) ?_
      exact xe_i S.1 S.2.1 hr hlocks hw (Or.inr (Or.inl ⟨hc1, by rw [cl_nI (by omega)]; exact fun h => c2 h.1, rfl, hσ1⟩)) (Nat.le_of_ble_eq_true rfl) (Nat.le_of_ble_eq_true rfl) dX4_open_46
    · refine lv_aload_n hx hb dX4_open_21 rfl (lv_at hl 0 rfl) ?_
      refine xr_get S hw (j := 19) (by decide) rfl rfl inX4_open_X4 (by decide) (hts (.fieldLink RX4 53 "UnionOfficeModel" "isStriking" "[Z") (by decide +kernel)) rfl dX4_open_22 ?_
      refine lv_iload_n hx hb dX4_open_25 rfl (lv_at hl 1 rfl) ?_
      refine xv_zald S hw (t0 := 1) (v := σ 14 b 0) (by decide) rfl rfl (by omega) (by decide) rfl dX4_open_26 ?_
      refine lv_if_eq (tgt := 34) hx hb dX4_open_27 (by decide) (fun c4 => ?_) (fun c4 => ?_)
      · refine lv_iconst (v := 0) hx hb dX4_open_34 (by decide) ?_
        obtain ⟨σ2, hσ2⟩ : ∃ y : S3, y = su σ 23 0 0 0 := ⟨_, rfl⟩
        refine xr_put S hw tyX4 tyX4_ok nmX4 (j := 22) (by decide) rfl rfl inX4_open_X4 (by decide) (hts (.fieldLink RX4 69 "UnionOfficeModel" "thrown" "I") (by decide +kernel)) rfl (tyX4_ok 22 (by decide)) rfl rfl (Nat.le_of_ble_eq_true rfl) dX4_open_35 (mE cy ad σ2) (by rw [hσ2]; exact mu_thrown _ _ _ _) (fun H locs hw => ?_)
        refine lv_aload_n hx hb dX4_open_38 rfl (lv_at hl 0 rfl) ?_
        have hth2 : σ2 23 0 0 = 0 := by rw [hσ2]; rfl
        refine xr_get S hw (j := 22) (v := .int 0) (by decide) rfl rfl inX4_open_X4 (by decide) (hts (.fieldLink RX4 69 "UnionOfficeModel" "thrown" "I") (by decide +kernel)) (congrArg (fun z => some (Value.int z)) hth2) dX4_open_39 ?_
        refine lv_if_le (tgt := 47) hx hb dX4_open_42 (by decide) (fun _ => ?_) (fun h => absurd h (by decide))
        refine lv_aload_n hx hb dX4_open_47 rfl (lv_at hl 0 rfl) ?_
        refine xr_get S hw (j := 15) (by decide) rfl rfl inX4_open_X4 (by decide) (hts (.fieldLink RX4 41 "UnionOfficeModel" "hasBallot" "[Z") (by decide +kernel)) rfl dX4_open_48 ?_
        refine lv_iload_n hx hb dX4_open_51 rfl (lv_at hl 1 rfl) ?_
        refine lv_iconst (v := 1) hx hb dX4_open_52 (by decide) ?_
        obtain ⟨σ3, hσ3⟩ : ∃ y : S3, y = su σ2 10 b 0 1 := ⟨_, rfl⟩
        refine xn_zast S hw (t0 := 1) (by decide) rfl rfl (by omega) (by decide) (vpn_z (Or.inr rfl)) dX4_open_53 (mE cy ad σ3) (by rw [hσ3]; exact mu_ballot _ _ _ b _) (fun H locs hw => ?_)
        refine lv_aload_n hx hb dX4_open_54 rfl (lv_at hl 0 rfl) ?_
        refine xr_get S hw (j := 16) (by decide) rfl rfl inX4_open_X4 (by decide) (hts (.fieldLink RX4 44 "UnionOfficeModel" "yes" "[I") (by decide +kernel)) rfl dX4_open_55 ?_
        refine lv_iload_n hx hb dX4_open_58 rfl (lv_at hl 1 rfl) ?_
        refine lv_iconst (v := 0) hx hb dX4_open_59 (by decide) ?_
        obtain ⟨σ4, hσ4⟩ : ∃ y : S3, y = su σ3 11 b 0 0 := ⟨_, rfl⟩
        refine xn_iast S hw (t0 := 0) (by decide) rfl rfl (by omega) (by decide) dX4_open_60 (mE cy ad σ4) (by rw [hσ4]; exact mu_yes _ _ _ b _) (fun H locs hw => ?_)
        refine lv_aload_n hx hb dX4_open_61 rfl (lv_at hl 0 rfl) ?_
        refine xr_get S hw (j := 17) (by decide) rfl rfl inX4_open_X4 (by decide) (hts (.fieldLink RX4 47 "UnionOfficeModel" "no" "[I") (by decide +kernel)) rfl dX4_open_62 ?_
        refine lv_iload_n hx hb dX4_open_65 rfl (lv_at hl 1 rfl) ?_
        refine lv_iconst (v := 0) hx hb dX4_open_66 (by decide) ?_
        obtain ⟨σ5, hσ5⟩ : ∃ y : S3, y = su σ4 12 b 0 0 := ⟨_, rfl⟩
        refine xn_iast S hw (t0 := 0) (by decide) rfl rfl (by omega) (by decide) dX4_open_67 (mE cy ad σ5) (by rw [hσ5]; exact mu_no _ _ _ b _) (fun H locs hw => ?_)
        refine lv_iconst (v := 0) hx hb dX4_open_68 (by decide) ?_
        refine lv_istore_n (lv' := [(2, .int 0), (0, .ref (ad 0)), (1, .int (nI b))]) hx hb dX4_open_69 rfl hl (by decide) rfl (fun ls hl => ?_)
        refine lp_X4_open S hbb 17 0 σ5 _ _ ls (by omega) (by omega) rfl hw (lv_sub hl [1, 2, 0] rfl) (fun H locs ls hw hl => ?_)
        refine lv_aload_n hx hb dX4_open_94 rfl (lv_at hl 0 rfl) ?_
        refine lv_iload_n hx hb dX4_open_95 rfl (lv_at hl 1 rfl) ?_
        refine xc_Mi hw (va_runV (As := [.int (nI b)]) (rest := []) S (c_X4_standing l D cy ad (ovA σ5 b) (nI b) _) (cwV 1 S.2.2.2.2 gX4_open_X4_standing rfl rfl rfl (by decide +kernel) ⟨Nat.le_of_ble_eq_true rfl, Nat.le_of_ble_eq_true rfl⟩) (xc_preV (XOK.tt _ _) hX hw (by decide) rfl rfl rfl) rfl rfl hl.1 rfl (lv_room (Nat.le_of_ble_eq_true rfl)) dX4_open_96 ⟨Nat.le_of_ble_eq_true rfl, Nat.le_of_ble_eq_true rfl⟩) (fun r9 u H locs hp hw => ?_)
        obtain ⟨hu9, hr9⟩ := hp
        rw [hu9] at hw
        rw [hr9]
        clear hu9 hr9
        exact xe_i S.1 S.2.1 hr hlocks hw (Or.inr (Or.inr ⟨hc1, by rw [cl_nI (by omega)]; exact ⟨c2, c4⟩, by rw [cl_nI (by omega), hσ5, hσ4, hσ3, hσ2]; rfl, by rw [cl_nI (by omega), hσ5, hσ4, hσ3, hσ2]; rfl⟩)) (Nat.le_of_ble_eq_true rfl) (Nat.le_of_ble_eq_true rfl) dX4_open_99
      · refine lv_iconst (v := 2) hx hb dX4_open_30 (by decide) ?_
        refine lv_goto (tgt := 35) hx hb dX4_open_31 (by decide) ?_
        obtain ⟨σ6, hσ6⟩ : ∃ y : S3, y = su σ 23 0 0 2 := ⟨_, rfl⟩
        refine xr_put S hw tyX4 tyX4_ok nmX4 (j := 22) (by decide) rfl rfl inX4_open_X4 (by decide) (hts (.fieldLink RX4 69 "UnionOfficeModel" "thrown" "I") (by decide +kernel)) rfl (tyX4_ok 22 (by decide)) rfl rfl (Nat.le_of_ble_eq_true rfl) dX4_open_35 (mE cy ad σ6) (by rw [hσ6]; exact mu_thrown _ _ _ _) (fun H locs hw => ?_)
        refine lv_aload_n hx hb dX4_open_38 rfl (lv_at hl 0 rfl) ?_
        have hth3 : σ6 23 0 0 = 2 := by rw [hσ6]; rfl
        refine xr_get S hw (j := 22) (v := .int 2) (by decide) rfl rfl inX4_open_X4 (by decide) (hts (.fieldLink RX4 69 "UnionOfficeModel" "thrown" "I") (by decide +kernel)) (congrArg (fun z => some (Value.int z)) hth3) dX4_open_39 ?_
        refine lv_if_le (tgt := 47) hx hb dX4_open_42 (by decide) (fun h => absurd h (by decide)) (fun _ => ?_)
        refine lv_iconst (v := 0) hx hb dX4_open_45 (by decide) ?_
        exact xe_i S.1 S.2.1 hr hlocks hw (Or.inr (Or.inl ⟨hc1, by rw [cl_nI (by omega)]; exact fun h => c4 h.2, rfl, hσ6⟩)) (Nat.le_of_ble_eq_true rfl) (Nat.le_of_ble_eq_true rfl) dX4_open_46
  · have hc1 : ¬ (inI x0 4) := bI_0.mp c1
    refine lv_iconst (v := 1) hx hb dX4_open_8 (by decide) ?_
    refine lv_goto (tgt := 35) hx hb dX4_open_9 (by decide) ?_
    obtain ⟨σ7, hσ7⟩ : ∃ y : S3, y = su σ 23 0 0 1 := ⟨_, rfl⟩
    refine xr_put S hw tyX4 tyX4_ok nmX4 (j := 22) (by decide) rfl rfl inX4_open_X4 (by decide) (hts (.fieldLink RX4 69 "UnionOfficeModel" "thrown" "I") (by decide +kernel)) rfl (tyX4_ok 22 (by decide)) rfl rfl (Nat.le_of_ble_eq_true rfl) dX4_open_35 (mE cy ad σ7) (by rw [hσ7]; exact mu_thrown _ _ _ _) (fun H locs hw => ?_)
    refine lv_aload_n hx hb dX4_open_38 rfl (lv_at hl 0 rfl) ?_
    have hth4 : σ7 23 0 0 = 1 := by rw [hσ7]; rfl
    refine xr_get S hw (j := 22) (v := .int 1) (by decide) rfl rfl inX4_open_X4 (by decide) (hts (.fieldLink RX4 69 "UnionOfficeModel" "thrown" "I") (by decide +kernel)) (congrArg (fun z => some (Value.int z)) hth4) dX4_open_39 ?_
    refine lv_if_le (tgt := 47) hx hb dX4_open_42 (by decide) (fun h => absurd h (by decide)) (fun _ => ?_)
    refine lv_iconst (v := 0) hx hb dX4_open_45 (by decide) ?_
    exact xe_i S.1 S.2.1 hr hlocks hw (Or.inl ⟨hc1, rfl, hσ7⟩) (Nat.le_of_ble_eq_true rfl) (Nat.le_of_ble_eq_true rfl) dX4_open_46
abbrev voM (τ : S3) (i : Nat) : Prop := ¬ τ 10 (br τ i) 0 = 0 ∧ ¬ stmI τ i = 0 ∧ τ 15 (br τ i) i = 0
def mvF (τ : S3) (b i : Nat) (y : Int32) : S3 := su (su (su τ 15 b i 1) 11 b 0 (τ 11 b 0 + (if y = 0 then 0 else 1))) 12 b 0 (τ 12 b 0 + (if y = 0 then 1 else 0))
abbrev rmX4_vote : Room := { frames := 2, cells := 0, slots := 0, locals := 43 }
theorem inX4_vote_X4 : (∀ w ∈ wsX40, w ∈ wsX4_vote) := by decide +kernel
set_option maxHeartbeats 1000000 in
set_option maxRecDepth 100000 in
/-- vote -/
theorem c_X4_vote (l : Launch) (D : va_G) (cy : Nat → ClassId) (ad : Nat → Nat) (σ : S3) (x0 x1 : Int32) : MM l yX4_vote wsX4_vote rmX4_vote D cy ad [.ref (ad 0), .int x0, .int x1] σ (xPi (mP2 σ (inI x0 (nm σ)) (voM (th0 σ) x0.toNatClampNeg) ((mvF (th0 σ) (br (th0 σ) x0.toNatClampNeg) x0.toNatClampNeg x1) 11 (br (th0 σ) x0.toNatClampNeg) 0 + (mvF (th0 σ) (br (th0 σ) x0.toNatClampNeg) x0.toNatClampNeg x1) 12 (br (th0 σ) x0.toNatClampNeg) 0) (mvF (th0 σ) (br (th0 σ) x0.toNatClampNeg) x0.toNatClampNeg x1))) := by
  refine xs_M (cc := cX4_vote) (maxL := 4) (ret := (some .int)) (by decide +kernel) rfl (Nat.le_of_ble_eq_true rfl) ?_
  intro p e s m below meth c ls S hr hlocks hnm hw hX hl
  have S : CallFix p m c cX4_vote 4 s [.ref (ad 0), .int x0, .int x1].toArray wsX4_vote RX4 := S
  have hx := S.1
  have hb := S.2.1
  have hts := S.2.2.2.2
  have hl : lv_has ls 4 [(0, .ref (ad 0)), (1, .int x0), (2, .int x1)] := hl
  have hnm16 := nm_le σ
  have hnw18 := nw_le σ
  refine lv_aload_n hx hb dX4_vote_0 rfl (lv_at hl 0 rfl) ?_
  refine lv_aload_n hx hb dX4_vote_1 rfl (lv_at hl 0 rfl) ?_
  refine lv_iload_n hx hb dX4_vote_2 rfl (lv_at hl 1 rfl) ?_
  refine xc_Mi hw (va_runV (As := [.int x0]) (rest := [.ref (ad 0)]) S (c_X4_isMember l D cy ad σ x0 _) (cwV 1 S.2.2.2.2 gX4_vote_X4_isMember rfl rfl rfl (by decide +kernel) ⟨Nat.le_of_ble_eq_true rfl, Nat.le_of_ble_eq_true rfl⟩) (xc_preV (XOK.tt _ _) hX hw (by decide) rfl rfl rfl) rfl rfl hl.1 rfl (lv_room (Nat.le_of_ble_eq_true rfl)) dX4_vote_3 ⟨Nat.le_of_ble_eq_true rfl, Nat.le_of_ble_eq_true rfl⟩) (fun r9 u H locs hp hw => ?_)
  obtain ⟨hu9, hr9⟩ := hp
  rw [hu9] at hw
  rw [hr9]
  clear hu9 hr9
  refine lv_if_ne (tgt := 13) hx hb dX4_vote_6 (by decide) (fun c1 => ?_) (fun c1 => ?_)
  · have hc1 : inI x0 (nm σ) := bI_1.mp c1
    obtain ⟨i, hi, rfl⟩ := in_ix hc1
    refine lv_iconst (v := 0) hx hb dX4_vote_13 (by decide) ?_
    obtain ⟨σ1, hσ1⟩ : ∃ y : S3, y = su σ 23 0 0 0 := ⟨_, rfl⟩
    refine xr_put S hw tyX4 tyX4_ok nmX4 (j := 22) (by decide) rfl rfl inX4_vote_X4 (by decide) (hts (.fieldLink RX4 69 "UnionOfficeModel" "thrown" "I") (by decide +kernel)) rfl (tyX4_ok 22 (by decide)) rfl rfl (Nat.le_of_ble_eq_true rfl) dX4_vote_14 (mE cy ad σ1) (by rw [hσ1]; exact mu_thrown _ _ _ _) (fun H locs hw => ?_)
    refine lv_aload_n hx hb dX4_vote_17 rfl (lv_at hl 0 rfl) ?_
    have hth1 : σ1 23 0 0 = 0 := by rw [hσ1]; rfl
    refine xr_get S hw (j := 22) (v := .int 0) (by decide) rfl rfl inX4_vote_X4 (by decide) (hts (.fieldLink RX4 69 "UnionOfficeModel" "thrown" "I") (by decide +kernel)) (congrArg (fun z => some (Value.int z)) hth1) dX4_vote_18 ?_
    refine lv_if_ne (tgt := 71) hx hb dX4_vote_21 (by decide) (fun h => absurd h (by decide)) (fun _ => ?_)
    refine lv_aload_n hx hb dX4_vote_24 rfl (lv_at hl 0 rfl) ?_
    refine xr_get S hw (j := 6) (by decide) rfl rfl inX4_vote_X4 (by decide) (hts (.fieldLink RX4 13 "UnionOfficeModel" "branches" "[I") (by decide +kernel)) rfl dX4_vote_25 ?_
    refine lv_iload_n hx hb dX4_vote_28 rfl (lv_at hl 1 rfl) ?_
    refine xv_iald S hw (t0 := 0) (v := nI (br σ1 i)) (by decide) rfl rfl (by omega) (by decide) rfl dX4_vote_29 ?_
    have hql1 := br_lt σ1 i
    refine lv_istore_n (lv' := [(3, .int (nI (br σ1 i))), (0, .ref (ad 0)), (1, .int (nI i)), (2, .int x1)]) hx hb dX4_vote_30 rfl hl (by decide) rfl (fun ls hl => ?_)
    refine lv_aload_n hx hb dX4_vote_31 rfl (lv_at hl 1 rfl) ?_
    refine lv_aload_n hx hb dX4_vote_32 rfl (lv_at hl 1 rfl) ?_
    refine xr_get S hw (j := 15) (by decide) rfl rfl inX4_vote_X4 (by decide) (hts (.fieldLink RX4 41 "UnionOfficeModel" "hasBallot" "[Z") (by decide +kernel)) rfl dX4_vote_33 ?_
    refine lv_iload_n hx hb dX4_vote_36 rfl (lv_at hl 0 rfl) ?_
    refine xv_zald S hw (t0 := 1) (v := σ1 10 (br σ1 i) 0) (by decide) rfl rfl (by omega) (by decide) rfl dX4_vote_37 ?_
    refine lv_if_eq (tgt := 63) hx hb dX4_vote_38 (by decide) (fun c3 => ?_) (fun c3 => ?_)
    · refine lv_iconst (v := 2) hx hb dX4_vote_63 (by decide) ?_
      refine lv_goto (tgt := 68) hx hb dX4_vote_64 (by decide) ?_
      obtain ⟨σ2, hσ2⟩ : ∃ y : S3, y = su σ1 23 0 0 2 := ⟨_, rfl⟩
      refine xr_put S hw tyX4 tyX4_ok nmX4 (j := 22) (by decide) rfl rfl inX4_vote_X4 (by decide) (hts (.fieldLink RX4 69 "UnionOfficeModel" "thrown" "I") (by decide +kernel)) rfl (tyX4_ok 22 (by decide)) rfl rfl (Nat.le_of_ble_eq_true rfl) dX4_vote_68 (mE cy ad σ2) (by rw [hσ2]; exact mu_thrown _ _ _ _) (fun H locs hw => ?_)
      refine lv_aload_n hx hb dX4_vote_71 rfl (lv_at hl 1 rfl) ?_
      have hth2 : σ2 23 0 0 = 2 := by rw [hσ2, hσ1]; rfl
      refine xr_get S hw (j := 22) (v := .int 2) (by decide) rfl rfl inX4_vote_X4 (by decide) (hts (.fieldLink RX4 69 "UnionOfficeModel" "thrown" "I") (by decide +kernel)) (congrArg (fun z => some (Value.int z)) hth2) dX4_vote_72 ?_
      refine lv_if_le (tgt := 80) hx hb dX4_vote_75 (by decide) (fun h => absurd h (by decide)) (fun _ => ?_)
      refine lv_iconst (v := 0) hx hb dX4_vote_78 (by decide) ?_
      exact xe_i S.1 S.2.1 hr hlocks hw (Or.inr (Or.inl ⟨hc1, by rw [cl_nI (by omega), ← (show σ1 = th0 σ from hσ1)]; exact fun h => h.1 c3, rfl, by rw [hσ2, hσ1, su_su]⟩)) (Nat.le_of_ble_eq_true rfl) (Nat.le_of_ble_eq_true rfl) dX4_vote_79
    · refine lv_aload_n hx hb dX4_vote_41 rfl (lv_at hl 1 rfl) ?_
      refine lv_iload_n hx hb dX4_vote_42 rfl (lv_at hl 2 rfl) ?_
      refine xc_Mi hw (va_runV (As := [.int (nI i)]) (rest := [.ref (ad 0)]) S (c_X4_stands l D cy ad σ1 i (by omega) _) (cwV 1 S.2.2.2.2 gX4_vote_X4_stands rfl rfl rfl (by decide +kernel) ⟨Nat.le_of_ble_eq_true rfl, Nat.le_of_ble_eq_true rfl⟩) (xc_preV (XOK.tt _ _) hX hw (by decide) rfl rfl rfl) rfl rfl hl.1 rfl (lv_room (Nat.le_of_ble_eq_true rfl)) dX4_vote_43 ⟨Nat.le_of_ble_eq_true rfl, Nat.le_of_ble_eq_true rfl⟩) (fun r9 u H locs hp hw => ?_)
      obtain ⟨hu9, hr9⟩ := hp
      rw [hu9] at hw
      rw [hr9]
      clear hu9 hr9
      refine lv_if_eq (tgt := 63) hx hb dX4_vote_46 (by decide) (fun c5 => ?_) (fun c5 => ?_)
      · refine lv_iconst (v := 2) hx hb dX4_vote_63 (by decide) ?_
        refine lv_goto (tgt := 68) hx hb dX4_vote_64 (by decide) ?_
        obtain ⟨σ3, hσ3⟩ : ∃ y : S3, y = su σ1 23 0 0 2 := ⟨_, rfl⟩
        refine xr_put S hw tyX4 tyX4_ok nmX4 (j := 22) (by decide) rfl rfl inX4_vote_X4 (by decide) (hts (.fieldLink RX4 69 "UnionOfficeModel" "thrown" "I") (by decide +kernel)) rfl (tyX4_ok 22 (by decide)) rfl rfl (Nat.le_of_ble_eq_true rfl) dX4_vote_68 (mE cy ad σ3) (by rw [hσ3]; exact mu_thrown _ _ _ _) (fun H locs hw => ?_)
        refine lv_aload_n hx hb dX4_vote_71 rfl (lv_at hl 1 rfl) ?_
        have hth3 : σ3 23 0 0 = 2 := by rw [hσ3, hσ1]; rfl
        refine xr_get S hw (j := 22) (v := .int 2) (by decide) rfl rfl inX4_vote_X4 (by decide) (hts (.fieldLink RX4 69 "UnionOfficeModel" "thrown" "I") (by decide +kernel)) (congrArg (fun z => some (Value.int z)) hth3) dX4_vote_72 ?_
        refine lv_if_le (tgt := 80) hx hb dX4_vote_75 (by decide) (fun h => absurd h (by decide)) (fun _ => ?_)
        refine lv_iconst (v := 0) hx hb dX4_vote_78 (by decide) ?_
        exact xe_i S.1 S.2.1 hr hlocks hw (Or.inr (Or.inl ⟨hc1, by rw [cl_nI (by omega), ← (show σ1 = th0 σ from hσ1)]; exact fun h => h.2.1 c5, rfl, by rw [hσ3, hσ1, su_su]⟩)) (Nat.le_of_ble_eq_true rfl) (Nat.le_of_ble_eq_true rfl) dX4_vote_79
      · refine lv_aload_n hx hb dX4_vote_49 rfl (lv_at hl 1 rfl) ?_
        refine xr_get S hw (j := 20) (by decide) rfl rfl inX4_vote_X4 (by decide) (hts (.fieldLink RX4 56 "UnionOfficeModel" "hasVoted" "[Z") (by decide +kernel)) rfl dX4_vote_50 ?_
        refine lv_bipush (v := 16) hx hb dX4_vote_53 (by decide) ?_
        refine lv_iload_n hx hb dX4_vote_55 rfl (lv_at hl 0 rfl) ?_
        refine lv_imul hx hb dX4_vote_56 ?_
        refine lv_iload_n hx hb dX4_vote_57 rfl (lv_at hl 2 rfl) ?_
        refine lv_iadd hx hb dX4_vote_58 ?_
        rw [show ((16 * (nI (br σ1 i))) + (nI i)) = nI (16 * (br σ1 i) + i) from mulN 16 (br σ1 i) i]
        refine xv_zald S hw (t0 := 1) (v := σ1 15 (br σ1 i) i) (by decide) rfl rfl (by omega) (by decide) (fl16 _ (by omega)) dX4_vote_59 ?_
        refine lv_if_eq (tgt := 67) hx hb dX4_vote_60 (by decide) (fun c7 => ?_) (fun c7 => ?_)
        · refine lv_iconst (v := 0) hx hb dX4_vote_67 (by decide) ?_
          obtain ⟨σ4, hσ4⟩ : ∃ y : S3, y = su σ1 23 0 0 0 := ⟨_, rfl⟩
          refine xr_put S hw tyX4 tyX4_ok nmX4 (j := 22) (by decide) rfl rfl inX4_vote_X4 (by decide) (hts (.fieldLink RX4 69 "UnionOfficeModel" "thrown" "I") (by decide +kernel)) rfl (tyX4_ok 22 (by decide)) rfl rfl (Nat.le_of_ble_eq_true rfl) dX4_vote_68 (mE cy ad σ4) (by rw [hσ4]; exact mu_thrown _ _ _ _) (fun H locs hw => ?_)
          refine lv_aload_n hx hb dX4_vote_71 rfl (lv_at hl 1 rfl) ?_
          have hth4 : σ4 23 0 0 = 0 := by rw [hσ4, hσ1]; rfl
          refine xr_get S hw (j := 22) (v := .int 0) (by decide) rfl rfl inX4_vote_X4 (by decide) (hts (.fieldLink RX4 69 "UnionOfficeModel" "thrown" "I") (by decide +kernel)) (congrArg (fun z => some (Value.int z)) hth4) dX4_vote_72 ?_
          refine lv_if_le (tgt := 80) hx hb dX4_vote_75 (by decide) (fun _ => ?_) (fun h => absurd h (by decide))
          refine lv_aload_n hx hb dX4_vote_80 rfl (lv_at hl 1 rfl) ?_
          refine xr_get S hw (j := 6) (by decide) rfl rfl inX4_vote_X4 (by decide) (hts (.fieldLink RX4 13 "UnionOfficeModel" "branches" "[I") (by decide +kernel)) rfl dX4_vote_81 ?_
          refine lv_iload_n hx hb dX4_vote_84 rfl (lv_at hl 2 rfl) ?_
          refine xv_iald S hw (t0 := 0) (v := nI (br σ4 i)) (by decide) rfl rfl (by omega) (by decide) rfl dX4_vote_85 ?_
          have hql2 := br_lt σ4 i
          refine lv_istore_n (lv' := [(3, .int (nI (br σ4 i))), (0, .ref (ad 0)), (1, .int (nI i)), (2, .int x1)]) hx hb dX4_vote_86 rfl hl (by decide) rfl (fun ls hl => ?_)
          refine lv_aload_n hx hb dX4_vote_87 rfl (lv_at hl 1 rfl) ?_
          refine xr_get S hw (j := 20) (by decide) rfl rfl inX4_vote_X4 (by decide) (hts (.fieldLink RX4 56 "UnionOfficeModel" "hasVoted" "[Z") (by decide +kernel)) rfl dX4_vote_88 ?_
          refine lv_bipush (v := 16) hx hb dX4_vote_91 (by decide) ?_
          refine lv_iload_n hx hb dX4_vote_93 rfl (lv_at hl 0 rfl) ?_
          refine lv_imul hx hb dX4_vote_94 ?_
          refine lv_iload_n hx hb dX4_vote_95 rfl (lv_at hl 2 rfl) ?_
          refine lv_iadd hx hb dX4_vote_96 ?_
          rw [show ((16 * (nI (br σ4 i))) + (nI i)) = nI (16 * (br σ4 i) + i) from mulN 16 (br σ4 i) i]
          refine lv_iconst (v := 1) hx hb dX4_vote_97 (by decide) ?_
          obtain ⟨σ5, hσ5⟩ : ∃ y : S3, y = su σ4 15 (br σ4 i) i 1 := ⟨_, rfl⟩
          refine xn_zast S hw (t0 := 1) (by decide) rfl rfl (by omega) (by decide) (vpn_z (Or.inr rfl)) dX4_vote_98 (mE cy ad σ5) (by rw [hσ5]; exact mu_voted _ _ _ (br σ4 i) (by omega) _) (fun H locs hw => ?_)
          refine lv_aload_n hx hb dX4_vote_99 rfl (lv_at hl 1 rfl) ?_
          refine xr_get S hw (j := 16) (by decide) rfl rfl inX4_vote_X4 (by decide) (hts (.fieldLink RX4 44 "UnionOfficeModel" "yes" "[I") (by decide +kernel)) rfl dX4_vote_100 ?_
          refine lv_iload_n hx hb dX4_vote_103 rfl (lv_at hl 0 rfl) ?_
          refine lv_dup2_11 hx hb dX4_vote_104 rfl rfl ?_
          refine xv_iald S hw (t0 := 0) (v := σ5 11 (br σ4 i) 0) (by decide) rfl rfl (by omega) (by decide) rfl dX4_vote_105 ?_
          refine lv_iload_n hx hb dX4_vote_106 rfl (lv_at hl 3 rfl) ?_
          refine lv_if_eq (tgt := 114) hx hb dX4_vote_107 (by decide) (fun c9 => ?_) (fun c9 => ?_)
          · refine lv_iconst (v := 0) hx hb dX4_vote_114 (by decide) ?_
            refine lv_iadd hx hb dX4_vote_115 ?_
            obtain ⟨σ6, hσ6⟩ : ∃ y : S3, y = su σ5 11 (br σ4 i) 0 ((σ5 11 (br σ4 i) 0) + 0) := ⟨_, rfl⟩
            refine xn_iast S hw (t0 := 0) (by decide) rfl rfl (by omega) (by decide) dX4_vote_116 (mE cy ad σ6) (by rw [hσ6]; exact mu_yes _ _ _ (br σ4 i) _) (fun H locs hw => ?_)
            refine lv_aload_n hx hb dX4_vote_117 rfl (lv_at hl 1 rfl) ?_
            refine xr_get S hw (j := 17) (by decide) rfl rfl inX4_vote_X4 (by decide) (hts (.fieldLink RX4 47 "UnionOfficeModel" "no" "[I") (by decide +kernel)) rfl dX4_vote_118 ?_
            refine lv_iload_n hx hb dX4_vote_121 rfl (lv_at hl 0 rfl) ?_
            refine lv_dup2_11 hx hb dX4_vote_122 rfl rfl ?_
            refine xv_iald S hw (t0 := 0) (v := σ6 12 (br σ4 i) 0) (by decide) rfl rfl (by omega) (by decide) rfl dX4_vote_123 ?_
            refine lv_iload_n hx hb dX4_vote_124 rfl (lv_at hl 3 rfl) ?_
            refine lv_if_eq (tgt := 132) hx hb dX4_vote_125 (by decide) (fun c10 => ?_) (fun c10 => ?_)
            · refine lv_iconst (v := 1) hx hb dX4_vote_132 (by decide) ?_
              refine lv_iadd hx hb dX4_vote_133 ?_
              obtain ⟨σ7, hσ7⟩ : ∃ y : S3, y = su σ6 12 (br σ4 i) 0 ((σ6 12 (br σ4 i) 0) + 1) := ⟨_, rfl⟩
              refine xn_iast S hw (t0 := 0) (by decide) rfl rfl (by omega) (by decide) dX4_vote_134 (mE cy ad σ7) (by rw [hσ7]; exact mu_no _ _ _ (br σ4 i) _) (fun H locs hw => ?_)
              refine lv_aload_n hx hb dX4_vote_135 rfl (lv_at hl 1 rfl) ?_
              refine xr_get S hw (j := 16) (by decide) rfl rfl inX4_vote_X4 (by decide) (hts (.fieldLink RX4 44 "UnionOfficeModel" "yes" "[I") (by decide +kernel)) rfl dX4_vote_136 ?_
              refine lv_iload_n hx hb dX4_vote_139 rfl (lv_at hl 0 rfl) ?_
              refine xv_iald S hw (t0 := 0) (v := σ7 11 (br σ4 i) 0) (by decide) rfl rfl (by omega) (by decide) rfl dX4_vote_140 ?_
              refine lv_aload_n hx hb dX4_vote_141 rfl (lv_at hl 1 rfl) ?_
              refine xr_get S hw (j := 17) (by decide) rfl rfl inX4_vote_X4 (by decide) (hts (.fieldLink RX4 47 "UnionOfficeModel" "no" "[I") (by decide +kernel)) rfl dX4_vote_142 ?_
              refine lv_iload_n hx hb dX4_vote_145 rfl (lv_at hl 0 rfl) ?_
              refine xv_iald S hw (t0 := 0) (v := σ7 12 (br σ4 i) 0) (by decide) rfl rfl (by omega) (by decide) rfl dX4_vote_146 ?_
              refine lv_iadd hx hb dX4_vote_147 ?_
              exact xe_i S.1 S.2.1 hr hlocks hw (by
                    have e0 : σ4 = th0 σ := by rw [hσ4, hσ1, su_su]
                    have e9 : σ7 = mvF (th0 σ) (br (th0 σ) i) i x1 := by
                      rw [hσ7, hσ6, hσ5, e0]
                      simp [mvF, su, br, c9]
                    have e8 : br σ4 i = br (th0 σ) i := by rw [e0]
                    refine Or.inr (Or.inr ⟨hc1, by rw [cl_nI (by omega), ← (show σ1 = th0 σ from hσ1)]; exact ⟨c3, c5, c7⟩, by rw [cl_nI (by omega), e9, e8], by rw [cl_nI (by omega), e9]⟩)) (Nat.le_of_ble_eq_true rfl) (Nat.le_of_ble_eq_true rfl) dX4_vote_148
            · exact absurd c9 c10
          · refine lv_iconst (v := 1) hx hb dX4_vote_110 (by decide) ?_
            refine lv_goto (tgt := 115) hx hb dX4_vote_111 (by decide) ?_
            refine lv_iadd hx hb dX4_vote_115 ?_
            obtain ⟨σ8, hσ8⟩ : ∃ y : S3, y = su σ5 11 (br σ4 i) 0 ((σ5 11 (br σ4 i) 0) + 1) := ⟨_, rfl⟩
            refine xn_iast S hw (t0 := 0) (by decide) rfl rfl (by omega) (by decide) dX4_vote_116 (mE cy ad σ8) (by rw [hσ8]; exact mu_yes _ _ _ (br σ4 i) _) (fun H locs hw => ?_)
            refine lv_aload_n hx hb dX4_vote_117 rfl (lv_at hl 1 rfl) ?_
            refine xr_get S hw (j := 17) (by decide) rfl rfl inX4_vote_X4 (by decide) (hts (.fieldLink RX4 47 "UnionOfficeModel" "no" "[I") (by decide +kernel)) rfl dX4_vote_118 ?_
            refine lv_iload_n hx hb dX4_vote_121 rfl (lv_at hl 0 rfl) ?_
            refine lv_dup2_11 hx hb dX4_vote_122 rfl rfl ?_
            refine xv_iald S hw (t0 := 0) (v := σ8 12 (br σ4 i) 0) (by decide) rfl rfl (by omega) (by decide) rfl dX4_vote_123 ?_
            refine lv_iload_n hx hb dX4_vote_124 rfl (lv_at hl 3 rfl) ?_
            refine lv_if_eq (tgt := 132) hx hb dX4_vote_125 (by decide) (fun c11 => ?_) (fun c11 => ?_)
            · exact absurd c11 c9
            · refine lv_iconst (v := 0) hx hb dX4_vote_128 (by decide) ?_
              refine lv_goto (tgt := 133) hx hb dX4_vote_129 (by decide) ?_
              refine lv_iadd hx hb dX4_vote_133 ?_
              obtain ⟨σ9, hσ9⟩ : ∃ y : S3, y = su σ8 12 (br σ4 i) 0 ((σ8 12 (br σ4 i) 0) + 0) := ⟨_, rfl⟩
              refine xn_iast S hw (t0 := 0) (by decide) rfl rfl (by omega) (by decide) dX4_vote_134 (mE cy ad σ9) (by rw [hσ9]; exact mu_no _ _ _ (br σ4 i) _) (fun H locs hw => ?_)
              refine lv_aload_n hx hb dX4_vote_135 rfl (lv_at hl 1 rfl) ?_
              refine xr_get S hw (j := 16) (by decide) rfl rfl inX4_vote_X4 (by decide) (hts (.fieldLink RX4 44 "UnionOfficeModel" "yes" "[I") (by decide +kernel)) rfl dX4_vote_136 ?_
              refine lv_iload_n hx hb dX4_vote_139 rfl (lv_at hl 0 rfl) ?_
              refine xv_iald S hw (t0 := 0) (v := σ9 11 (br σ4 i) 0) (by decide) rfl rfl (by omega) (by decide) rfl dX4_vote_140 ?_
              refine lv_aload_n hx hb dX4_vote_141 rfl (lv_at hl 1 rfl) ?_
              refine xr_get S hw (j := 17) (by decide) rfl rfl inX4_vote_X4 (by decide) (hts (.fieldLink RX4 47 "UnionOfficeModel" "no" "[I") (by decide +kernel)) rfl dX4_vote_142 ?_
              refine lv_iload_n hx hb dX4_vote_145 rfl (lv_at hl 0 rfl) ?_
              refine xv_iald S hw (t0 := 0) (v := σ9 12 (br σ4 i) 0) (by decide) rfl rfl (by omega) (by decide) rfl dX4_vote_146 ?_
              refine lv_iadd hx hb dX4_vote_147 ?_
              exact xe_i S.1 S.2.1 hr hlocks hw (by
                    have e0 : σ4 = th0 σ := by rw [hσ4, hσ1, su_su]
                    have e9 : σ9 = mvF (th0 σ) (br (th0 σ) i) i x1 := by
                      rw [hσ9, hσ8, hσ5, e0]
                      simp [mvF, su, br, c9]
                    have e8 : br σ4 i = br (th0 σ) i := by rw [e0]
                    refine Or.inr (Or.inr ⟨hc1, by rw [cl_nI (by omega), ← (show σ1 = th0 σ from hσ1)]; exact ⟨c3, c5, c7⟩, by rw [cl_nI (by omega), e9, e8], by rw [cl_nI (by omega), e9]⟩)) (Nat.le_of_ble_eq_true rfl) (Nat.le_of_ble_eq_true rfl) dX4_vote_148
        · refine lv_iconst (v := 2) hx hb dX4_vote_63 (by decide) ?_
          refine lv_goto (tgt := 68) hx hb dX4_vote_64 (by decide) ?_
          obtain ⟨σ10, hσ10⟩ : ∃ y : S3, y = su σ1 23 0 0 2 := ⟨_, rfl⟩
          refine xr_put S hw tyX4 tyX4_ok nmX4 (j := 22) (by decide) rfl rfl inX4_vote_X4 (by decide) (hts (.fieldLink RX4 69 "UnionOfficeModel" "thrown" "I") (by decide +kernel)) rfl (tyX4_ok 22 (by decide)) rfl rfl (Nat.le_of_ble_eq_true rfl) dX4_vote_68 (mE cy ad σ10) (by rw [hσ10]; exact mu_thrown _ _ _ _) (fun H locs hw => ?_)
          refine lv_aload_n hx hb dX4_vote_71 rfl (lv_at hl 1 rfl) ?_
          have hth5 : σ10 23 0 0 = 2 := by rw [hσ10, hσ1]; rfl
          refine xr_get S hw (j := 22) (v := .int 2) (by decide) rfl rfl inX4_vote_X4 (by decide) (hts (.fieldLink RX4 69 "UnionOfficeModel" "thrown" "I") (by decide +kernel)) (congrArg (fun z => some (Value.int z)) hth5) dX4_vote_72 ?_
          refine lv_if_le (tgt := 80) hx hb dX4_vote_75 (by decide) (fun h => absurd h (by decide)) (fun _ => ?_)
          refine lv_iconst (v := 0) hx hb dX4_vote_78 (by decide) ?_
          exact xe_i S.1 S.2.1 hr hlocks hw (Or.inr (Or.inl ⟨hc1, by rw [cl_nI (by omega), ← (show σ1 = th0 σ from hσ1)]; exact fun h => c7 h.2.2, rfl, by rw [hσ10, hσ1, su_su]⟩)) (Nat.le_of_ble_eq_true rfl) (Nat.le_of_ble_eq_true rfl) dX4_vote_79
  · have hc1 : ¬ (inI x0 (nm σ)) := bI_0.mp c1
    refine lv_iconst (v := 1) hx hb dX4_vote_9 (by decide) ?_
    refine lv_goto (tgt := 14) hx hb dX4_vote_10 (by decide) ?_
    obtain ⟨σ11, hσ11⟩ : ∃ y : S3, y = su σ 23 0 0 1 := ⟨_, rfl⟩
    refine xr_put S hw tyX4 tyX4_ok nmX4 (j := 22) (by decide) rfl rfl inX4_vote_X4 (by decide) (hts (.fieldLink RX4 69 "UnionOfficeModel" "thrown" "I") (by decide +kernel)) rfl (tyX4_ok 22 (by decide)) rfl rfl (Nat.le_of_ble_eq_true rfl) dX4_vote_14 (mE cy ad σ11) (by rw [hσ11]; exact mu_thrown _ _ _ _) (fun H locs hw => ?_)
    refine lv_aload_n hx hb dX4_vote_17 rfl (lv_at hl 0 rfl) ?_
    have hth6 : σ11 23 0 0 = 1 := by rw [hσ11]; rfl
    refine xr_get S hw (j := 22) (v := .int 1) (by decide) rfl rfl inX4_vote_X4 (by decide) (hts (.fieldLink RX4 69 "UnionOfficeModel" "thrown" "I") (by decide +kernel)) (congrArg (fun z => some (Value.int z)) hth6) dX4_vote_18 ?_
    refine lv_if_ne (tgt := 71) hx hb dX4_vote_21 (by decide) (fun _ => ?_) (fun h => absurd h (by decide))
    refine lv_aload_n hx hb dX4_vote_71 rfl (lv_at hl 0 rfl) ?_
    have hth7 : σ11 23 0 0 = 1 := by rw [hσ11]; rfl
    refine xr_get S hw (j := 22) (v := .int 1) (by decide) rfl rfl inX4_vote_X4 (by decide) (hts (.fieldLink RX4 69 "UnionOfficeModel" "thrown" "I") (by decide +kernel)) (congrArg (fun z => some (Value.int z)) hth7) dX4_vote_72 ?_
    refine lv_if_le (tgt := 80) hx hb dX4_vote_75 (by decide) (fun h => absurd h (by decide)) (fun _ => ?_)
    refine lv_iconst (v := 0) hx hb dX4_vote_78 (by decide) ?_
    exact xe_i S.1 S.2.1 hr hlocks hw (Or.inl ⟨hc1, rfl, hσ11⟩) (Nat.le_of_ble_eq_true rfl) (Nat.le_of_ble_eq_true rfl) dX4_vote_79
def wnM (τ : S3) (b : Nat) : Int32 := if τ 11 b 0 ≤ τ 12 b 0 then 0 else if 2 * (τ 11 b 0 + τ 12 b 0) < cntM τ (nI b) (nm τ) then 0 else 1
def mcF (σ : S3) (b : Nat) : S3 := su (su (th0 σ) 10 b 0 0) 13 b 0 (wnM (su (th0 σ) 10 b 0 0) b)
abbrev rmX4_close : Room := { frames := 2, cells := 0, slots := 0, locals := 46 }
theorem inX4_close_X4 : (∀ w ∈ wsX40, w ∈ wsX4_close) := by decide +kernel
set_option maxHeartbeats 1000000 in
set_option maxRecDepth 100000 in
/-- close -/
theorem c_X4_close (l : Launch) (D : va_G) (cy : Nat → ClassId) (ad : Nat → Nat) (σ : S3) (x0 : Int32) : MM l yX4_close wsX4_close rmX4_close D cy ad [.ref (ad 0), .int x0] σ (xPi (mP2 σ (inI x0 4) (¬ σ 10 x0.toNatClampNeg 0 = 0) (wnM (su (th0 σ) 10 x0.toNatClampNeg 0 0) x0.toNatClampNeg) (mcF σ x0.toNatClampNeg))) := by
  refine xs_M (cc := cX4_close) (maxL := 3) (ret := (some .boolean)) (by decide +kernel) rfl (Nat.le_of_ble_eq_true rfl) ?_
  intro p e s m below meth c ls S hr hlocks hnm hw hX hl
  have S : CallFix p m c cX4_close 3 s [.ref (ad 0), .int x0].toArray wsX4_close RX4 := S
  have hx := S.1
  have hb := S.2.1
  have hts := S.2.2.2.2
  have hl : lv_has ls 3 [(0, .ref (ad 0)), (1, .int x0)] := hl
  have hnm16 := nm_le σ
  have hnw18 := nw_le σ
  refine lv_aload_n hx hb dX4_close_0 rfl (lv_at hl 0 rfl) ?_
  refine lv_iload_n hx hb dX4_close_1 rfl (lv_at hl 1 rfl) ?_
  refine xc_Mi hw (va_runS (As := [.int x0]) (rest := [.ref (ad 0)]) S (c_X4_isBranch l D cy ad σ x0 _) (va_cwS 1 S.2.2.2.2 gX4_close_X4_isBranch rfl rfl rfl (by decide +kernel) ⟨Nat.le_of_ble_eq_true rfl, Nat.le_of_ble_eq_true rfl⟩) (xc_preS (XOK.tt _ _) hX hw _) rfl rfl hl.1 rfl (lv_room (Nat.le_of_ble_eq_true rfl)) dX4_close_2 ⟨Nat.le_of_ble_eq_true rfl, Nat.le_of_ble_eq_true rfl⟩) (fun r9 u H locs hp hw => ?_)
  obtain ⟨hu9, hr9⟩ := hp
  rw [hu9] at hw
  rw [hr9]
  clear hu9 hr9
  refine lv_if_ne (tgt := 12) hx hb dX4_close_5 (by decide) (fun c1 => ?_) (fun c1 => ?_)
  · have hc1 : inI x0 4 := bI_1.mp c1
    obtain ⟨b, hbb, rfl⟩ := in_ix hc1
    refine lv_aload_n hx hb dX4_close_12 rfl (lv_at hl 0 rfl) ?_
    refine xr_get S hw (j := 15) (by decide) rfl rfl inX4_close_X4 (by decide) (hts (.fieldLink RX4 41 "UnionOfficeModel" "hasBallot" "[Z") (by decide +kernel)) rfl dX4_close_13 ?_
    refine lv_iload_n hx hb dX4_close_16 rfl (lv_at hl 1 rfl) ?_
    refine xv_zald S hw (t0 := 1) (v := σ 10 b 0) (by decide) rfl rfl (by omega) (by decide) rfl dX4_close_17 ?_
    refine lv_if_ne (tgt := 25) hx hb dX4_close_18 (by decide) (fun c2 => ?_) (fun c2 => ?_)
    · refine lv_iconst (v := 0) hx hb dX4_close_25 (by decide) ?_
      obtain ⟨σ1, hσ1⟩ : ∃ y : S3, y = su σ 23 0 0 0 := ⟨_, rfl⟩
      refine xr_put S hw tyX4 tyX4_ok nmX4 (j := 22) (by decide) rfl rfl inX4_close_X4 (by decide) (hts (.fieldLink RX4 69 "UnionOfficeModel" "thrown" "I") (by decide +kernel)) rfl (tyX4_ok 22 (by decide)) rfl rfl (Nat.le_of_ble_eq_true rfl) dX4_close_26 (mE cy ad σ1) (by rw [hσ1]; exact mu_thrown _ _ _ _) (fun H locs hw => ?_)
      refine lv_aload_n hx hb dX4_close_29 rfl (lv_at hl 0 rfl) ?_
      have hth1 : σ1 23 0 0 = 0 := by rw [hσ1]; rfl
      refine xr_get S hw (j := 22) (v := .int 0) (by decide) rfl rfl inX4_close_X4 (by decide) (hts (.fieldLink RX4 69 "UnionOfficeModel" "thrown" "I") (by decide +kernel)) (congrArg (fun z => some (Value.int z)) hth1) dX4_close_30 ?_
      refine lv_if_le (tgt := 38) hx hb dX4_close_33 (by decide) (fun _ => ?_) (fun h => absurd h (by decide))
      refine lv_aload_n hx hb dX4_close_38 rfl (lv_at hl 0 rfl) ?_
      refine xr_get S hw (j := 15) (by decide) rfl rfl inX4_close_X4 (by decide) (hts (.fieldLink RX4 41 "UnionOfficeModel" "hasBallot" "[Z") (by decide +kernel)) rfl dX4_close_39 ?_
      refine lv_iload_n hx hb dX4_close_42 rfl (lv_at hl 1 rfl) ?_
      refine lv_iconst (v := 0) hx hb dX4_close_43 (by decide) ?_
      obtain ⟨σ2, hσ2⟩ : ∃ y : S3, y = su σ1 10 b 0 0 := ⟨_, rfl⟩
      refine xn_zast S hw (t0 := 1) (by decide) rfl rfl (by omega) (by decide) (vpn_z (Or.inl rfl)) dX4_close_44 (mE cy ad σ2) (by rw [hσ2]; exact mu_ballot _ _ _ b _) (fun H locs hw => ?_)
      refine lv_aload_n hx hb dX4_close_45 rfl (lv_at hl 0 rfl) ?_
      refine xr_get S hw (j := 16) (by decide) rfl rfl inX4_close_X4 (by decide) (hts (.fieldLink RX4 44 "UnionOfficeModel" "yes" "[I") (by decide +kernel)) rfl dX4_close_46 ?_
      refine lv_iload_n hx hb dX4_close_49 rfl (lv_at hl 1 rfl) ?_
      refine xv_iald S hw (t0 := 0) (v := σ2 11 b 0) (by decide) rfl rfl (by omega) (by decide) rfl dX4_close_50 ?_
      refine lv_aload_n hx hb dX4_close_51 rfl (lv_at hl 0 rfl) ?_
      refine xr_get S hw (j := 17) (by decide) rfl rfl inX4_close_X4 (by decide) (hts (.fieldLink RX4 47 "UnionOfficeModel" "no" "[I") (by decide +kernel)) rfl dX4_close_52 ?_
      refine lv_iload_n hx hb dX4_close_55 rfl (lv_at hl 1 rfl) ?_
      refine xv_iald S hw (t0 := 0) (v := σ2 12 b 0) (by decide) rfl rfl (by omega) (by decide) rfl dX4_close_56 ?_
      refine lv_icmp_le (tgt := 87) hx hb dX4_close_57 (by decide) (fun c4 => ?_) (fun c4 => ?_)
      · refine lv_iconst (v := 0) hx hb dX4_close_87 (by decide) ?_
        refine lv_istore_n (lv' := [(2, .int 0), (0, .ref (ad 0)), (1, .int (nI b))]) hx hb dX4_close_88 rfl hl (by decide) rfl (fun ls hl => ?_)
        refine lv_aload_n hx hb dX4_close_89 rfl (lv_at hl 1 rfl) ?_
        refine xr_get S hw (j := 18) (by decide) rfl rfl inX4_close_X4 (by decide) (hts (.fieldLink RX4 50 "UnionOfficeModel" "canStrike" "[Z") (by decide +kernel)) rfl dX4_close_90 ?_
        refine lv_iload_n hx hb dX4_close_93 rfl (lv_at hl 2 rfl) ?_
        refine lv_iload_n hx hb dX4_close_94 rfl (lv_at hl 0 rfl) ?_
        obtain ⟨σ3, hσ3⟩ : ∃ y : S3, y = su σ2 13 b 0 0 := ⟨_, rfl⟩
        refine xn_zast S hw (t0 := 1) (by decide) rfl rfl (by omega) (by decide) (vpn_z (Or.inl rfl)) dX4_close_95 (mE cy ad σ3) (by rw [hσ3]; exact mu_can _ _ _ b _) (fun H locs hw => ?_)
        refine lv_iload_n hx hb dX4_close_96 rfl (lv_at hl 0 rfl) ?_
        exact xe_z S.1 S.2.1 hr (Or.inl rfl) hlocks hw (Or.inr (Or.inr ⟨hc1, by rw [cl_nI (by omega)]; exact c2, by rw [cl_nI (by omega), ← (show σ1 = th0 σ from hσ1), ← hσ2]; exact (if_pos c4 : wnM σ2 b = _).symm, by
                have e9 : wnM σ2 b = _ := if_pos c4
                unfold mcF; rw [cl_nI (by omega), ← (show σ1 = th0 σ from hσ1), ← hσ2, e9]; exact hσ3⟩)) (Nat.le_of_ble_eq_true rfl) (Nat.le_of_ble_eq_true rfl) dX4_close_97
      · refine lv_iconst (v := 2) hx hb dX4_close_60 (by decide) ?_
        refine lv_aload_n hx hb dX4_close_61 rfl (lv_at hl 0 rfl) ?_
        refine xr_get S hw (j := 16) (by decide) rfl rfl inX4_close_X4 (by decide) (hts (.fieldLink RX4 44 "UnionOfficeModel" "yes" "[I") (by decide +kernel)) rfl dX4_close_62 ?_
        refine lv_iload_n hx hb dX4_close_65 rfl (lv_at hl 1 rfl) ?_
        refine xv_iald S hw (t0 := 0) (v := σ2 11 b 0) (by decide) rfl rfl (by omega) (by decide) rfl dX4_close_66 ?_
        refine lv_aload_n hx hb dX4_close_67 rfl (lv_at hl 0 rfl) ?_
        refine xr_get S hw (j := 17) (by decide) rfl rfl inX4_close_X4 (by decide) (hts (.fieldLink RX4 47 "UnionOfficeModel" "no" "[I") (by decide +kernel)) rfl dX4_close_68 ?_
        refine lv_iload_n hx hb dX4_close_71 rfl (lv_at hl 1 rfl) ?_
        refine xv_iald S hw (t0 := 0) (v := σ2 12 b 0) (by decide) rfl rfl (by omega) (by decide) rfl dX4_close_72 ?_
        refine lv_iadd hx hb dX4_close_73 ?_
        refine lv_imul hx hb dX4_close_74 ?_
        refine lv_aload_n hx hb dX4_close_75 rfl (lv_at hl 0 rfl) ?_
        refine lv_iload_n hx hb dX4_close_76 rfl (lv_at hl 1 rfl) ?_
        refine xc_Mi hw (va_runV (As := [.int (nI b)]) (rest := [.int (2 * ((σ2 11 b 0) + (σ2 12 b 0)))]) S (c_X4_standing l D cy ad σ2 (nI b) _) (cwV 1 S.2.2.2.2 gX4_close_X4_standing rfl rfl rfl (by decide +kernel) ⟨Nat.le_of_ble_eq_true rfl, Nat.le_of_ble_eq_true rfl⟩) (xc_preV (XOK.tt _ _) hX hw (by decide) rfl rfl rfl) rfl rfl hl.1 rfl (lv_room (Nat.le_of_ble_eq_true rfl)) dX4_close_77 ⟨Nat.le_of_ble_eq_true rfl, Nat.le_of_ble_eq_true rfl⟩) (fun r9 u H locs hp hw => ?_)
        obtain ⟨hu9, hr9⟩ := hp
        rw [hu9] at hw
        rw [hr9]
        clear hu9 hr9
        refine lv_icmp_lt (tgt := 87) hx hb dX4_close_80 (by decide) (fun c5 => ?_) (fun c5 => ?_)
        · refine lv_iconst (v := 0) hx hb dX4_close_87 (by decide) ?_
          refine lv_istore_n (lv' := [(2, .int 0), (0, .ref (ad 0)), (1, .int (nI b))]) hx hb dX4_close_88 rfl hl (by decide) rfl (fun ls hl => ?_)
          refine lv_aload_n hx hb dX4_close_89 rfl (lv_at hl 1 rfl) ?_
          refine xr_get S hw (j := 18) (by decide) rfl rfl inX4_close_X4 (by decide) (hts (.fieldLink RX4 50 "UnionOfficeModel" "canStrike" "[Z") (by decide +kernel)) rfl dX4_close_90 ?_
          refine lv_iload_n hx hb dX4_close_93 rfl (lv_at hl 2 rfl) ?_
          refine lv_iload_n hx hb dX4_close_94 rfl (lv_at hl 0 rfl) ?_
          obtain ⟨σ4, hσ4⟩ : ∃ y : S3, y = su σ2 13 b 0 0 := ⟨_, rfl⟩
          refine xn_zast S hw (t0 := 1) (by decide) rfl rfl (by omega) (by decide) (vpn_z (Or.inl rfl)) dX4_close_95 (mE cy ad σ4) (by rw [hσ4]; exact mu_can _ _ _ b _) (fun H locs hw => ?_)
          refine lv_iload_n hx hb dX4_close_96 rfl (lv_at hl 0 rfl) ?_
          exact xe_z S.1 S.2.1 hr (Or.inl rfl) hlocks hw (Or.inr (Or.inr ⟨hc1, by rw [cl_nI (by omega)]; exact c2, by rw [cl_nI (by omega), ← (show σ1 = th0 σ from hσ1), ← hσ2]; exact ((if_neg c4).trans (if_pos c5) : wnM σ2 b = _).symm, by
                  have e9 : wnM σ2 b = _ := (if_neg c4).trans (if_pos c5)
                  unfold mcF; rw [cl_nI (by omega), ← (show σ1 = th0 σ from hσ1), ← hσ2, e9]; exact hσ4⟩)) (Nat.le_of_ble_eq_true rfl) (Nat.le_of_ble_eq_true rfl) dX4_close_97
        · refine lv_iconst (v := 1) hx hb dX4_close_83 (by decide) ?_
          refine lv_goto (tgt := 88) hx hb dX4_close_84 (by decide) ?_
          refine lv_istore_n (lv' := [(2, .int 1), (0, .ref (ad 0)), (1, .int (nI b))]) hx hb dX4_close_88 rfl hl (by decide) rfl (fun ls hl => ?_)
          refine lv_aload_n hx hb dX4_close_89 rfl (lv_at hl 1 rfl) ?_
          refine xr_get S hw (j := 18) (by decide) rfl rfl inX4_close_X4 (by decide) (hts (.fieldLink RX4 50 "UnionOfficeModel" "canStrike" "[Z") (by decide +kernel)) rfl dX4_close_90 ?_
          refine lv_iload_n hx hb dX4_close_93 rfl (lv_at hl 2 rfl) ?_
          refine lv_iload_n hx hb dX4_close_94 rfl (lv_at hl 0 rfl) ?_
          obtain ⟨σ5, hσ5⟩ : ∃ y : S3, y = su σ2 13 b 0 1 := ⟨_, rfl⟩
          refine xn_zast S hw (t0 := 1) (by decide) rfl rfl (by omega) (by decide) (vpn_z (Or.inr rfl)) dX4_close_95 (mE cy ad σ5) (by rw [hσ5]; exact mu_can _ _ _ b _) (fun H locs hw => ?_)
          refine lv_iload_n hx hb dX4_close_96 rfl (lv_at hl 0 rfl) ?_
          exact xe_z S.1 S.2.1 hr (Or.inr rfl) hlocks hw (Or.inr (Or.inr ⟨hc1, by rw [cl_nI (by omega)]; exact c2, by rw [cl_nI (by omega), ← (show σ1 = th0 σ from hσ1), ← hσ2]; exact ((if_neg c4).trans (if_neg c5) : wnM σ2 b = _).symm, by
                  have e9 : wnM σ2 b = _ := (if_neg c4).trans (if_neg c5)
                  unfold mcF; rw [cl_nI (by omega), ← (show σ1 = th0 σ from hσ1), ← hσ2, e9]; exact hσ5⟩)) (Nat.le_of_ble_eq_true rfl) (Nat.le_of_ble_eq_true rfl) dX4_close_97
    · refine lv_iconst (v := 2) hx hb dX4_close_21 (by decide) ?_
      refine lv_goto (tgt := 26) hx hb dX4_close_22 (by decide) ?_
      obtain ⟨σ6, hσ6⟩ : ∃ y : S3, y = su σ 23 0 0 2 := ⟨_, rfl⟩
      refine xr_put S hw tyX4 tyX4_ok nmX4 (j := 22) (by decide) rfl rfl inX4_close_X4 (by decide) (hts (.fieldLink RX4 69 "UnionOfficeModel" "thrown" "I") (by decide +kernel)) rfl (tyX4_ok 22 (by decide)) rfl rfl (Nat.le_of_ble_eq_true rfl) dX4_close_26 (mE cy ad σ6) (by rw [hσ6]; exact mu_thrown _ _ _ _) (fun H locs hw => ?_)
      refine lv_aload_n hx hb dX4_close_29 rfl (lv_at hl 0 rfl) ?_
      have hth2 : σ6 23 0 0 = 2 := by rw [hσ6]; rfl
      refine xr_get S hw (j := 22) (v := .int 2) (by decide) rfl rfl inX4_close_X4 (by decide) (hts (.fieldLink RX4 69 "UnionOfficeModel" "thrown" "I") (by decide +kernel)) (congrArg (fun z => some (Value.int z)) hth2) dX4_close_30 ?_
      refine lv_if_le (tgt := 38) hx hb dX4_close_33 (by decide) (fun h => absurd h (by decide)) (fun _ => ?_)
      refine lv_iconst (v := 0) hx hb dX4_close_36 (by decide) ?_
      exact xe_z S.1 S.2.1 hr (Or.inl rfl) hlocks hw (Or.inr (Or.inl ⟨hc1, by rw [cl_nI (by omega)]; exact fun h => h c2, rfl, hσ6⟩)) (Nat.le_of_ble_eq_true rfl) (Nat.le_of_ble_eq_true rfl) dX4_close_37
  · have hc1 : ¬ (inI x0 4) := bI_0.mp c1
    refine lv_iconst (v := 1) hx hb dX4_close_8 (by decide) ?_
    refine lv_goto (tgt := 26) hx hb dX4_close_9 (by decide) ?_
    obtain ⟨σ7, hσ7⟩ : ∃ y : S3, y = su σ 23 0 0 1 := ⟨_, rfl⟩
    refine xr_put S hw tyX4 tyX4_ok nmX4 (j := 22) (by decide) rfl rfl inX4_close_X4 (by decide) (hts (.fieldLink RX4 69 "UnionOfficeModel" "thrown" "I") (by decide +kernel)) rfl (tyX4_ok 22 (by decide)) rfl rfl (Nat.le_of_ble_eq_true rfl) dX4_close_26 (mE cy ad σ7) (by rw [hσ7]; exact mu_thrown _ _ _ _) (fun H locs hw => ?_)
    refine lv_aload_n hx hb dX4_close_29 rfl (lv_at hl 0 rfl) ?_
    have hth3 : σ7 23 0 0 = 1 := by rw [hσ7]; rfl
    refine xr_get S hw (j := 22) (v := .int 1) (by decide) rfl rfl inX4_close_X4 (by decide) (hts (.fieldLink RX4 69 "UnionOfficeModel" "thrown" "I") (by decide +kernel)) (congrArg (fun z => some (Value.int z)) hth3) dX4_close_30 ?_
    refine lv_if_le (tgt := 38) hx hb dX4_close_33 (by decide) (fun h => absurd h (by decide)) (fun _ => ?_)
    refine lv_iconst (v := 0) hx hb dX4_close_36 (by decide) ?_
    exact xe_z S.1 S.2.1 hr (Or.inl rfl) hlocks hw (Or.inl ⟨hc1, rfl, hσ7⟩) (Nat.le_of_ble_eq_true rfl) (Nat.le_of_ble_eq_true rfl) dX4_close_37
abbrev skM (τ : S3) (b : Nat) (y : Int32) : Prop := (y = 0 ∧ ¬ τ 14 b 0 = 0) ∨ (¬ y = 0 ∧ ¬ τ 13 b 0 = 0 ∧ τ 14 b 0 = 0 ∧ τ 10 b 0 = 0)
abbrev rmX4_strike : Room := { frames := 2, cells := 0, slots := 0, locals := 42 }
theorem inX4_strike_X4 : (∀ w ∈ wsX40, w ∈ wsX4_strike) := by decide +kernel
set_option maxHeartbeats 1000000 in
set_option maxRecDepth 100000 in
/-- strike -/
theorem c_X4_strike (l : Launch) (D : va_G) (cy : Nat → ClassId) (ad : Nat → Nat) (σ : S3) (x0 x1 : Int32) (hz1 : x1 = 0 ∨ x1 = 1) : MM l yX4_strike wsX4_strike rmX4_strike D cy ad [.ref (ad 0), .int x0, .int x1] σ (xPv (mV2 σ (inI x0 4) (skM (th0 σ) x0.toNatClampNeg x1) (su (su (th0 σ) 14 x0.toNatClampNeg 0 x1) 13 x0.toNatClampNeg 0 0))) := by
  refine xs_M (cc := cX4_strike) (maxL := 4) (ret := none) (by decide +kernel) rfl (Nat.le_of_ble_eq_true rfl) ?_
  intro p e s m below meth c ls S hr hlocks hnm hw hX hl
  have S : CallFix p m c cX4_strike 4 s [.ref (ad 0), .int x0, .int x1].toArray wsX4_strike RX4 := S
  have hx := S.1
  have hb := S.2.1
  have hts := S.2.2.2.2
  have hl : lv_has ls 4 [(0, .ref (ad 0)), (1, .int x0), (2, .int x1)] := hl
  have hnm16 := nm_le σ
  have hnw18 := nw_le σ
  refine lv_aload_n hx hb dX4_strike_0 rfl (lv_at hl 0 rfl) ?_
  refine lv_iload_n hx hb dX4_strike_1 rfl (lv_at hl 1 rfl) ?_
  refine xc_Mi hw (va_runS (As := [.int x0]) (rest := [.ref (ad 0)]) S (c_X4_isBranch l D cy ad σ x0 _) (va_cwS 1 S.2.2.2.2 gX4_strike_X4_isBranch rfl rfl rfl (by decide +kernel) ⟨Nat.le_of_ble_eq_true rfl, Nat.le_of_ble_eq_true rfl⟩) (xc_preS (XOK.tt _ _) hX hw _) rfl rfl hl.1 rfl (lv_room (Nat.le_of_ble_eq_true rfl)) dX4_strike_2 ⟨Nat.le_of_ble_eq_true rfl, Nat.le_of_ble_eq_true rfl⟩) (fun r9 u H locs hp hw => ?_)
  obtain ⟨hu9, hr9⟩ := hp
  rw [hu9] at hw
  rw [hr9]
  clear hu9 hr9
  refine lv_if_ne (tgt := 12) hx hb dX4_strike_5 (by decide) (fun c1 => ?_) (fun c1 => ?_)
  · have hc1 : inI x0 4 := bI_1.mp c1
    obtain ⟨b, hbb, rfl⟩ := in_ix hc1
    refine lv_iconst (v := 0) hx hb dX4_strike_12 (by decide) ?_
    obtain ⟨σ1, hσ1⟩ : ∃ y : S3, y = su σ 23 0 0 0 := ⟨_, rfl⟩
    refine xr_put S hw tyX4 tyX4_ok nmX4 (j := 22) (by decide) rfl rfl inX4_strike_X4 (by decide) (hts (.fieldLink RX4 69 "UnionOfficeModel" "thrown" "I") (by decide +kernel)) rfl (tyX4_ok 22 (by decide)) rfl rfl (Nat.le_of_ble_eq_true rfl) dX4_strike_13 (mE cy ad σ1) (by rw [hσ1]; exact mu_thrown _ _ _ _) (fun H locs hw => ?_)
    refine lv_aload_n hx hb dX4_strike_16 rfl (lv_at hl 0 rfl) ?_
    have hth1 : σ1 23 0 0 = 0 := by rw [hσ1]; rfl
    refine xr_get S hw (j := 22) (v := .int 0) (by decide) rfl rfl inX4_strike_X4 (by decide) (hts (.fieldLink RX4 69 "UnionOfficeModel" "thrown" "I") (by decide +kernel)) (congrArg (fun z => some (Value.int z)) hth1) dX4_strike_17 ?_
    refine lv_if_ne (tgt := 82) hx hb dX4_strike_20 (by decide) (fun h => absurd h (by decide)) (fun _ => ?_)
    refine lv_iload_n hx hb dX4_strike_23 rfl (lv_at hl 2 rfl) ?_
    refine lv_if_eq (tgt := 62) hx hb dX4_strike_24 (by decide) (fun c3 => ?_) (fun c3 => ?_)
    · refine lv_aload_n hx hb dX4_strike_62 rfl (lv_at hl 0 rfl) ?_
      refine xr_get S hw (j := 19) (by decide) rfl rfl inX4_strike_X4 (by decide) (hts (.fieldLink RX4 53 "UnionOfficeModel" "isStriking" "[Z") (by decide +kernel)) rfl dX4_strike_63 ?_
      refine lv_iload_n hx hb dX4_strike_66 rfl (lv_at hl 1 rfl) ?_
      refine xv_zald S hw (t0 := 1) (v := σ1 14 b 0) (by decide) rfl rfl (by omega) (by decide) rfl dX4_strike_67 ?_
      refine lv_istore_n (lv' := [(3, .int (σ1 14 b 0)), (0, .ref (ad 0)), (1, .int (nI b)), (2, .int x1)]) hx hb dX4_strike_68 rfl hl (by decide) rfl (fun ls hl => ?_)
      refine lv_aload_n hx hb dX4_strike_69 rfl (lv_at hl 1 rfl) ?_
      refine lv_iload_n hx hb dX4_strike_70 rfl (lv_at hl 0 rfl) ?_
      refine lv_if_eq (tgt := 78) hx hb dX4_strike_71 (by decide) (fun c4 => ?_) (fun c4 => ?_)
      · refine lv_iconst (v := 2) hx hb dX4_strike_78 (by decide) ?_
        obtain ⟨σ2, hσ2⟩ : ∃ y : S3, y = su σ1 23 0 0 2 := ⟨_, rfl⟩
        refine xr_put S hw tyX4 tyX4_ok nmX4 (j := 22) (by decide) rfl rfl inX4_strike_X4 (by decide) (hts (.fieldLink RX4 69 "UnionOfficeModel" "thrown" "I") (by decide +kernel)) rfl (tyX4_ok 22 (by decide)) rfl rfl (Nat.le_of_ble_eq_true rfl) dX4_strike_79 (mE cy ad σ2) (by rw [hσ2]; exact mu_thrown _ _ _ _) (fun H locs hw => ?_)
        refine lv_aload_n hx hb dX4_strike_82 rfl (lv_at hl 1 rfl) ?_
        have hth2 : σ2 23 0 0 = 2 := by rw [hσ2, hσ1]; rfl
        refine xr_get S hw (j := 22) (v := .int 2) (by decide) rfl rfl inX4_strike_X4 (by decide) (hts (.fieldLink RX4 69 "UnionOfficeModel" "thrown" "I") (by decide +kernel)) (congrArg (fun z => some (Value.int z)) hth2) dX4_strike_83 ?_
        refine lv_if_ne (tgt := 103) hx hb dX4_strike_86 (by decide) (fun _ => ?_) (fun h => absurd h (by decide))
        exact xe_v S.1 S.2.1 hr hlocks hw (Or.inr (Or.inl ⟨hc1, by rw [cl_nI (by omega), ← (show σ1 = th0 σ from hσ1)]; exact fun h => h.elim (fun h => h.2 c4) (fun h => h.1 c3), by rw [hσ2, hσ1, su_su]⟩)) (Nat.le_of_ble_eq_true rfl) (Nat.le_of_ble_eq_true rfl) dX4_strike_103
      · refine lv_iconst (v := 0) hx hb dX4_strike_74 (by decide) ?_
        refine lv_goto (tgt := 79) hx hb dX4_strike_75 (by decide) ?_
        obtain ⟨σ3, hσ3⟩ : ∃ y : S3, y = su σ1 23 0 0 0 := ⟨_, rfl⟩
        refine xr_put S hw tyX4 tyX4_ok nmX4 (j := 22) (by decide) rfl rfl inX4_strike_X4 (by decide) (hts (.fieldLink RX4 69 "UnionOfficeModel" "thrown" "I") (by decide +kernel)) rfl (tyX4_ok 22 (by decide)) rfl rfl (Nat.le_of_ble_eq_true rfl) dX4_strike_79 (mE cy ad σ3) (by rw [hσ3]; exact mu_thrown _ _ _ _) (fun H locs hw => ?_)
        refine lv_aload_n hx hb dX4_strike_82 rfl (lv_at hl 1 rfl) ?_
        have hth3 : σ3 23 0 0 = 0 := by rw [hσ3, hσ1]; rfl
        refine xr_get S hw (j := 22) (v := .int 0) (by decide) rfl rfl inX4_strike_X4 (by decide) (hts (.fieldLink RX4 69 "UnionOfficeModel" "thrown" "I") (by decide +kernel)) (congrArg (fun z => some (Value.int z)) hth3) dX4_strike_83 ?_
        refine lv_if_ne (tgt := 103) hx hb dX4_strike_86 (by decide) (fun h => absurd h (by decide)) (fun _ => ?_)
        refine lv_aload_n hx hb dX4_strike_89 rfl (lv_at hl 1 rfl) ?_
        refine xr_get S hw (j := 19) (by decide) rfl rfl inX4_strike_X4 (by decide) (hts (.fieldLink RX4 53 "UnionOfficeModel" "isStriking" "[Z") (by decide +kernel)) rfl dX4_strike_90 ?_
        refine lv_iload_n hx hb dX4_strike_93 rfl (lv_at hl 2 rfl) ?_
        refine lv_iload_n hx hb dX4_strike_94 rfl (lv_at hl 3 rfl) ?_
        obtain ⟨σ4, hσ4⟩ : ∃ y : S3, y = su σ3 14 b 0 x1 := ⟨_, rfl⟩
        refine xn_zast S hw (t0 := 1) (by decide) rfl rfl (by omega) (by decide) (vpn_z hz1) dX4_strike_95 (mE cy ad σ4) (by rw [hσ4]; exact mu_striking _ _ _ b _) (fun H locs hw => ?_)
        refine lv_aload_n hx hb dX4_strike_96 rfl (lv_at hl 1 rfl) ?_
        refine xr_get S hw (j := 18) (by decide) rfl rfl inX4_strike_X4 (by decide) (hts (.fieldLink RX4 50 "UnionOfficeModel" "canStrike" "[Z") (by decide +kernel)) rfl dX4_strike_97 ?_
        refine lv_iload_n hx hb dX4_strike_100 rfl (lv_at hl 2 rfl) ?_
        refine lv_iconst (v := 0) hx hb dX4_strike_101 (by decide) ?_
        obtain ⟨σ5, hσ5⟩ : ∃ y : S3, y = su σ4 13 b 0 0 := ⟨_, rfl⟩
        refine xn_zast S hw (t0 := 1) (by decide) rfl rfl (by omega) (by decide) (vpn_z (Or.inl rfl)) dX4_strike_102 (mE cy ad σ5) (by rw [hσ5]; exact mu_can _ _ _ b _) (fun H locs hw => ?_)
        exact xe_v S.1 S.2.1 hr hlocks hw (Or.inr (Or.inr ⟨hc1, by rw [cl_nI (by omega), ← (show σ1 = th0 σ from hσ1)]; exact Or.inl ⟨c3, c4⟩, by rw [cl_nI (by omega), hσ5, hσ4, hσ3, hσ1, su_su]⟩)) (Nat.le_of_ble_eq_true rfl) (Nat.le_of_ble_eq_true rfl) dX4_strike_103
    · refine lv_aload_n hx hb dX4_strike_27 rfl (lv_at hl 0 rfl) ?_
      refine xr_get S hw (j := 18) (by decide) rfl rfl inX4_strike_X4 (by decide) (hts (.fieldLink RX4 50 "UnionOfficeModel" "canStrike" "[Z") (by decide +kernel)) rfl dX4_strike_28 ?_
      refine lv_iload_n hx hb dX4_strike_31 rfl (lv_at hl 1 rfl) ?_
      refine xv_zald S hw (t0 := 1) (v := σ1 13 b 0) (by decide) rfl rfl (by omega) (by decide) rfl dX4_strike_32 ?_
      refine lv_if_eq (tgt := 58) hx hb dX4_strike_33 (by decide) (fun c7 => ?_) (fun c7 => ?_)
      · refine lv_iconst (v := 0) hx hb dX4_strike_58 (by decide) ?_
        refine lv_goto (tgt := 68) hx hb dX4_strike_59 (by decide) ?_
        refine lv_istore_n (lv' := [(3, .int 0), (0, .ref (ad 0)), (1, .int (nI b)), (2, .int x1)]) hx hb dX4_strike_68 rfl hl (by decide) rfl (fun ls hl => ?_)
        refine lv_aload_n hx hb dX4_strike_69 rfl (lv_at hl 1 rfl) ?_
        refine lv_iload_n hx hb dX4_strike_70 rfl (lv_at hl 0 rfl) ?_
        refine lv_if_eq (tgt := 78) hx hb dX4_strike_71 (by decide) (fun _ => ?_) (fun h => absurd h (by decide))
        refine lv_iconst (v := 2) hx hb dX4_strike_78 (by decide) ?_
        obtain ⟨σ6, hσ6⟩ : ∃ y : S3, y = su σ1 23 0 0 2 := ⟨_, rfl⟩
        refine xr_put S hw tyX4 tyX4_ok nmX4 (j := 22) (by decide) rfl rfl inX4_strike_X4 (by decide) (hts (.fieldLink RX4 69 "UnionOfficeModel" "thrown" "I") (by decide +kernel)) rfl (tyX4_ok 22 (by decide)) rfl rfl (Nat.le_of_ble_eq_true rfl) dX4_strike_79 (mE cy ad σ6) (by rw [hσ6]; exact mu_thrown _ _ _ _) (fun H locs hw => ?_)
        refine lv_aload_n hx hb dX4_strike_82 rfl (lv_at hl 1 rfl) ?_
        have hth4 : σ6 23 0 0 = 2 := by rw [hσ6, hσ1]; rfl
        refine xr_get S hw (j := 22) (v := .int 2) (by decide) rfl rfl inX4_strike_X4 (by decide) (hts (.fieldLink RX4 69 "UnionOfficeModel" "thrown" "I") (by decide +kernel)) (congrArg (fun z => some (Value.int z)) hth4) dX4_strike_83 ?_
        refine lv_if_ne (tgt := 103) hx hb dX4_strike_86 (by decide) (fun _ => ?_) (fun h => absurd h (by decide))
        exact xe_v S.1 S.2.1 hr hlocks hw (Or.inr (Or.inl ⟨hc1, by rw [cl_nI (by omega), ← (show σ1 = th0 σ from hσ1)]; exact fun h => h.elim (fun h => c3 h.1) (fun h => h.2.1 c7), by rw [hσ6, hσ1, su_su]⟩)) (Nat.le_of_ble_eq_true rfl) (Nat.le_of_ble_eq_true rfl) dX4_strike_103
      · refine lv_aload_n hx hb dX4_strike_36 rfl (lv_at hl 0 rfl) ?_
        refine xr_get S hw (j := 19) (by decide) rfl rfl inX4_strike_X4 (by decide) (hts (.fieldLink RX4 53 "UnionOfficeModel" "isStriking" "[Z") (by decide +kernel)) rfl dX4_strike_37 ?_
        refine lv_iload_n hx hb dX4_strike_40 rfl (lv_at hl 1 rfl) ?_
        refine xv_zald S hw (t0 := 1) (v := σ1 14 b 0) (by decide) rfl rfl (by omega) (by decide) rfl dX4_strike_41 ?_
        refine lv_if_ne (tgt := 58) hx hb dX4_strike_42 (by decide) (fun c10 => ?_) (fun c10 => ?_)
        · refine lv_iconst (v := 0) hx hb dX4_strike_58 (by decide) ?_
          refine lv_goto (tgt := 68) hx hb dX4_strike_59 (by decide) ?_
          refine lv_istore_n (lv' := [(3, .int 0), (0, .ref (ad 0)), (1, .int (nI b)), (2, .int x1)]) hx hb dX4_strike_68 rfl hl (by decide) rfl (fun ls hl => ?_)
          refine lv_aload_n hx hb dX4_strike_69 rfl (lv_at hl 1 rfl) ?_
          refine lv_iload_n hx hb dX4_strike_70 rfl (lv_at hl 0 rfl) ?_
          refine lv_if_eq (tgt := 78) hx hb dX4_strike_71 (by decide) (fun _ => ?_) (fun h => absurd h (by decide))
          refine lv_iconst (v := 2) hx hb dX4_strike_78 (by decide) ?_
          obtain ⟨σ7, hσ7⟩ : ∃ y : S3, y = su σ1 23 0 0 2 := ⟨_, rfl⟩
          refine xr_put S hw tyX4 tyX4_ok nmX4 (j := 22) (by decide) rfl rfl inX4_strike_X4 (by decide) (hts (.fieldLink RX4 69 "UnionOfficeModel" "thrown" "I") (by decide +kernel)) rfl (tyX4_ok 22 (by decide)) rfl rfl (Nat.le_of_ble_eq_true rfl) dX4_strike_79 (mE cy ad σ7) (by rw [hσ7]; exact mu_thrown _ _ _ _) (fun H locs hw => ?_)
          refine lv_aload_n hx hb dX4_strike_82 rfl (lv_at hl 1 rfl) ?_
          have hth5 : σ7 23 0 0 = 2 := by rw [hσ7, hσ1]; rfl
          refine xr_get S hw (j := 22) (v := .int 2) (by decide) rfl rfl inX4_strike_X4 (by decide) (hts (.fieldLink RX4 69 "UnionOfficeModel" "thrown" "I") (by decide +kernel)) (congrArg (fun z => some (Value.int z)) hth5) dX4_strike_83 ?_
          refine lv_if_ne (tgt := 103) hx hb dX4_strike_86 (by decide) (fun _ => ?_) (fun h => absurd h (by decide))
          exact xe_v S.1 S.2.1 hr hlocks hw (Or.inr (Or.inl ⟨hc1, by rw [cl_nI (by omega), ← (show σ1 = th0 σ from hσ1)]; exact fun h => h.elim (fun h => c3 h.1) (fun h => c10 h.2.2.1), by rw [hσ7, hσ1, su_su]⟩)) (Nat.le_of_ble_eq_true rfl) (Nat.le_of_ble_eq_true rfl) dX4_strike_103
        · refine lv_aload_n hx hb dX4_strike_45 rfl (lv_at hl 0 rfl) ?_
          refine xr_get S hw (j := 15) (by decide) rfl rfl inX4_strike_X4 (by decide) (hts (.fieldLink RX4 41 "UnionOfficeModel" "hasBallot" "[Z") (by decide +kernel)) rfl dX4_strike_46 ?_
          refine lv_iload_n hx hb dX4_strike_49 rfl (lv_at hl 1 rfl) ?_
          refine xv_zald S hw (t0 := 1) (v := σ1 10 b 0) (by decide) rfl rfl (by omega) (by decide) rfl dX4_strike_50 ?_
          refine lv_if_ne (tgt := 58) hx hb dX4_strike_51 (by decide) (fun c13 => ?_) (fun c13 => ?_)
          · refine lv_iconst (v := 0) hx hb dX4_strike_58 (by decide) ?_
            refine lv_goto (tgt := 68) hx hb dX4_strike_59 (by decide) ?_
            refine lv_istore_n (lv' := [(3, .int 0), (0, .ref (ad 0)), (1, .int (nI b)), (2, .int x1)]) hx hb dX4_strike_68 rfl hl (by decide) rfl (fun ls hl => ?_)
            refine lv_aload_n hx hb dX4_strike_69 rfl (lv_at hl 1 rfl) ?_
            refine lv_iload_n hx hb dX4_strike_70 rfl (lv_at hl 0 rfl) ?_
            refine lv_if_eq (tgt := 78) hx hb dX4_strike_71 (by decide) (fun _ => ?_) (fun h => absurd h (by decide))
            refine lv_iconst (v := 2) hx hb dX4_strike_78 (by decide) ?_
            obtain ⟨σ8, hσ8⟩ : ∃ y : S3, y = su σ1 23 0 0 2 := ⟨_, rfl⟩
            refine xr_put S hw tyX4 tyX4_ok nmX4 (j := 22) (by decide) rfl rfl inX4_strike_X4 (by decide) (hts (.fieldLink RX4 69 "UnionOfficeModel" "thrown" "I") (by decide +kernel)) rfl (tyX4_ok 22 (by decide)) rfl rfl (Nat.le_of_ble_eq_true rfl) dX4_strike_79 (mE cy ad σ8) (by rw [hσ8]; exact mu_thrown _ _ _ _) (fun H locs hw => ?_)
            refine lv_aload_n hx hb dX4_strike_82 rfl (lv_at hl 1 rfl) ?_
            have hth6 : σ8 23 0 0 = 2 := by rw [hσ8, hσ1]; rfl
            refine xr_get S hw (j := 22) (v := .int 2) (by decide) rfl rfl inX4_strike_X4 (by decide) (hts (.fieldLink RX4 69 "UnionOfficeModel" "thrown" "I") (by decide +kernel)) (congrArg (fun z => some (Value.int z)) hth6) dX4_strike_83 ?_
            refine lv_if_ne (tgt := 103) hx hb dX4_strike_86 (by decide) (fun _ => ?_) (fun h => absurd h (by decide))
            exact xe_v S.1 S.2.1 hr hlocks hw (Or.inr (Or.inl ⟨hc1, by rw [cl_nI (by omega), ← (show σ1 = th0 σ from hσ1)]; exact fun h => h.elim (fun h => c3 h.1) (fun h => c13 h.2.2.2), by rw [hσ8, hσ1, su_su]⟩)) (Nat.le_of_ble_eq_true rfl) (Nat.le_of_ble_eq_true rfl) dX4_strike_103
          · refine lv_iconst (v := 1) hx hb dX4_strike_54 (by decide) ?_
            refine lv_goto (tgt := 68) hx hb dX4_strike_55 (by decide) ?_
            refine lv_istore_n (lv' := [(3, .int 1), (0, .ref (ad 0)), (1, .int (nI b)), (2, .int x1)]) hx hb dX4_strike_68 rfl hl (by decide) rfl (fun ls hl => ?_)
            refine lv_aload_n hx hb dX4_strike_69 rfl (lv_at hl 1 rfl) ?_
            refine lv_iload_n hx hb dX4_strike_70 rfl (lv_at hl 0 rfl) ?_
            refine lv_if_eq (tgt := 78) hx hb dX4_strike_71 (by decide) (fun h => absurd h (by decide)) (fun _ => ?_)
            refine lv_iconst (v := 0) hx hb dX4_strike_74 (by decide) ?_
            refine lv_goto (tgt := 79) hx hb dX4_strike_75 (by decide) ?_
            obtain ⟨σ9, hσ9⟩ : ∃ y : S3, y = su σ1 23 0 0 0 := ⟨_, rfl⟩
            refine xr_put S hw tyX4 tyX4_ok nmX4 (j := 22) (by decide) rfl rfl inX4_strike_X4 (by decide) (hts (.fieldLink RX4 69 "UnionOfficeModel" "thrown" "I") (by decide +kernel)) rfl (tyX4_ok 22 (by decide)) rfl rfl (Nat.le_of_ble_eq_true rfl) dX4_strike_79 (mE cy ad σ9) (by rw [hσ9]; exact mu_thrown _ _ _ _) (fun H locs hw => ?_)
            refine lv_aload_n hx hb dX4_strike_82 rfl (lv_at hl 1 rfl) ?_
            have hth7 : σ9 23 0 0 = 0 := by rw [hσ9, hσ1]; rfl
            refine xr_get S hw (j := 22) (v := .int 0) (by decide) rfl rfl inX4_strike_X4 (by decide) (hts (.fieldLink RX4 69 "UnionOfficeModel" "thrown" "I") (by decide +kernel)) (congrArg (fun z => some (Value.int z)) hth7) dX4_strike_83 ?_
            refine lv_if_ne (tgt := 103) hx hb dX4_strike_86 (by decide) (fun h => absurd h (by decide)) (fun _ => ?_)
            refine lv_aload_n hx hb dX4_strike_89 rfl (lv_at hl 1 rfl) ?_
            refine xr_get S hw (j := 19) (by decide) rfl rfl inX4_strike_X4 (by decide) (hts (.fieldLink RX4 53 "UnionOfficeModel" "isStriking" "[Z") (by decide +kernel)) rfl dX4_strike_90 ?_
            refine lv_iload_n hx hb dX4_strike_93 rfl (lv_at hl 2 rfl) ?_
            refine lv_iload_n hx hb dX4_strike_94 rfl (lv_at hl 3 rfl) ?_
            obtain ⟨σ10, hσ10⟩ : ∃ y : S3, y = su σ9 14 b 0 x1 := ⟨_, rfl⟩
            refine xn_zast S hw (t0 := 1) (by decide) rfl rfl (by omega) (by decide) (vpn_z hz1) dX4_strike_95 (mE cy ad σ10) (by rw [hσ10]; exact mu_striking _ _ _ b _) (fun H locs hw => ?_)
            refine lv_aload_n hx hb dX4_strike_96 rfl (lv_at hl 1 rfl) ?_
            refine xr_get S hw (j := 18) (by decide) rfl rfl inX4_strike_X4 (by decide) (hts (.fieldLink RX4 50 "UnionOfficeModel" "canStrike" "[Z") (by decide +kernel)) rfl dX4_strike_97 ?_
            refine lv_iload_n hx hb dX4_strike_100 rfl (lv_at hl 2 rfl) ?_
            refine lv_iconst (v := 0) hx hb dX4_strike_101 (by decide) ?_
            obtain ⟨σ11, hσ11⟩ : ∃ y : S3, y = su σ10 13 b 0 0 := ⟨_, rfl⟩
            refine xn_zast S hw (t0 := 1) (by decide) rfl rfl (by omega) (by decide) (vpn_z (Or.inl rfl)) dX4_strike_102 (mE cy ad σ11) (by rw [hσ11]; exact mu_can _ _ _ b _) (fun H locs hw => ?_)
            exact xe_v S.1 S.2.1 hr hlocks hw (Or.inr (Or.inr ⟨hc1, by rw [cl_nI (by omega), ← (show σ1 = th0 σ from hσ1)]; exact Or.inr ⟨c3, c7, c10, c13⟩, by rw [cl_nI (by omega), hσ11, hσ10, hσ9, hσ1, su_su]⟩)) (Nat.le_of_ble_eq_true rfl) (Nat.le_of_ble_eq_true rfl) dX4_strike_103
  · have hc1 : ¬ (inI x0 4) := bI_0.mp c1
    refine lv_iconst (v := 1) hx hb dX4_strike_8 (by decide) ?_
    refine lv_goto (tgt := 13) hx hb dX4_strike_9 (by decide) ?_
    obtain ⟨σ12, hσ12⟩ : ∃ y : S3, y = su σ 23 0 0 1 := ⟨_, rfl⟩
    refine xr_put S hw tyX4 tyX4_ok nmX4 (j := 22) (by decide) rfl rfl inX4_strike_X4 (by decide) (hts (.fieldLink RX4 69 "UnionOfficeModel" "thrown" "I") (by decide +kernel)) rfl (tyX4_ok 22 (by decide)) rfl rfl (Nat.le_of_ble_eq_true rfl) dX4_strike_13 (mE cy ad σ12) (by rw [hσ12]; exact mu_thrown _ _ _ _) (fun H locs hw => ?_)
    refine lv_aload_n hx hb dX4_strike_16 rfl (lv_at hl 0 rfl) ?_
    have hth8 : σ12 23 0 0 = 1 := by rw [hσ12]; rfl
    refine xr_get S hw (j := 22) (v := .int 1) (by decide) rfl rfl inX4_strike_X4 (by decide) (hts (.fieldLink RX4 69 "UnionOfficeModel" "thrown" "I") (by decide +kernel)) (congrArg (fun z => some (Value.int z)) hth8) dX4_strike_17 ?_
    refine lv_if_ne (tgt := 82) hx hb dX4_strike_20 (by decide) (fun _ => ?_) (fun h => absurd h (by decide))
    refine lv_aload_n hx hb dX4_strike_82 rfl (lv_at hl 0 rfl) ?_
    have hth9 : σ12 23 0 0 = 1 := by rw [hσ12]; rfl
    refine xr_get S hw (j := 22) (v := .int 1) (by decide) rfl rfl inX4_strike_X4 (by decide) (hts (.fieldLink RX4 69 "UnionOfficeModel" "thrown" "I") (by decide +kernel)) (congrArg (fun z => some (Value.int z)) hth9) dX4_strike_83 ?_
    refine lv_if_ne (tgt := 103) hx hb dX4_strike_86 (by decide) (fun _ => ?_) (fun h => absurd h (by decide))
    exact xe_v S.1 S.2.1 hr hlocks hw (Or.inl ⟨hc1, hσ12⟩) (Nat.le_of_ble_eq_true rfl) (Nat.le_of_ble_eq_true rfl) dX4_strike_103
abbrev rmX4_day : Room := { frames := 0, cells := 0, slots := 0, locals := 0 }
theorem inX4_day_X4 : (∀ w ∈ wsX40, w ∈ wsX4_day) := by decide +kernel
set_option maxHeartbeats 1000000 in
set_option maxRecDepth 100000 in
/-- day -/
theorem c_X4_day (l : Launch) (D : va_G) (cy : Nat → ClassId) (ad : Nat → Nat) (σ : S3)  : MM l yX4_day wsX4_day rmX4_day D cy ad [.ref (ad 0)] σ (xPi fun r u => r = nI (nw (th0 σ)) ∧ u = th0 σ) := by
  refine xs_M (cc := cX4_day) (maxL := 1) (ret := (some .int)) (by decide +kernel) rfl (Nat.le_of_ble_eq_true rfl) ?_
  intro p e s m below meth c ls S hr hlocks hnm hw hX hl
  have S : CallFix p m c cX4_day 1 s [.ref (ad 0)].toArray wsX4_day RX4 := S
  have hx := S.1
  have hb := S.2.1
  have hts := S.2.2.2.2
  have hl : lv_has ls 1 [(0, .ref (ad 0))] := hl
  have hnm16 := nm_le σ
  have hnw18 := nw_le σ
  refine lv_aload_n hx hb dX4_day_0 rfl (lv_at hl 0 rfl) ?_
  refine lv_iconst (v := 0) hx hb dX4_day_1 (by decide) ?_
  obtain ⟨σ1, hσ1⟩ : ∃ y : S3, y = su σ 23 0 0 0 := ⟨_, rfl⟩
  refine xr_put S hw tyX4 tyX4_ok nmX4 (j := 22) (by decide) rfl rfl inX4_day_X4 (by decide) (hts (.fieldLink RX4 69 "UnionOfficeModel" "thrown" "I") (by decide +kernel)) rfl (tyX4_ok 22 (by decide)) rfl rfl (Nat.le_of_ble_eq_true rfl) dX4_day_2 (mE cy ad σ1) (by rw [hσ1]; exact mu_thrown _ _ _ _) (fun H locs hw => ?_)
  refine lv_aload_n hx hb dX4_day_5 rfl (lv_at hl 0 rfl) ?_
  refine xr_get S hw (j := 2) (by decide) rfl rfl inX4_day_X4 (by decide) (hts (.fieldLink RX4 79 "UnionOfficeModel" "now" "I") (by decide +kernel)) rfl dX4_day_6 ?_
  exact xe_i S.1 S.2.1 hr hlocks hw (⟨by rw [hσ1], hσ1⟩) (Nat.le_of_ble_eq_true rfl) (Nat.le_of_ble_eq_true rfl) dX4_day_9
abbrev rmX4_fund : Room := { frames := 0, cells := 0, slots := 0, locals := 0 }
theorem inX4_fund_X4 : (∀ w ∈ wsX40, w ∈ wsX4_fund) := by decide +kernel
set_option maxHeartbeats 1000000 in
set_option maxRecDepth 100000 in
/-- fund -/
theorem c_X4_fund (l : Launch) (D : va_G) (cy : Nat → ClassId) (ad : Nat → Nat) (σ : S3)  : MM l yX4_fund wsX4_fund rmX4_fund D cy ad [.ref (ad 0)] σ (xPi fun r u => r = th0 σ 19 0 0 ∧ u = th0 σ) := by
  refine xs_M (cc := cX4_fund) (maxL := 1) (ret := (some .int)) (by decide +kernel) rfl (Nat.le_of_ble_eq_true rfl) ?_
  intro p e s m below meth c ls S hr hlocks hnm hw hX hl
  have S : CallFix p m c cX4_fund 1 s [.ref (ad 0)].toArray wsX4_fund RX4 := S
  have hx := S.1
  have hb := S.2.1
  have hts := S.2.2.2.2
  have hl : lv_has ls 1 [(0, .ref (ad 0))] := hl
  have hnm16 := nm_le σ
  have hnw18 := nw_le σ
  refine lv_aload_n hx hb dX4_fund_0 rfl (lv_at hl 0 rfl) ?_
  refine lv_iconst (v := 0) hx hb dX4_fund_1 (by decide) ?_
  obtain ⟨σ1, hσ1⟩ : ∃ y : S3, y = su σ 23 0 0 0 := ⟨_, rfl⟩
  refine xr_put S hw tyX4 tyX4_ok nmX4 (j := 22) (by decide) rfl rfl inX4_fund_X4 (by decide) (hts (.fieldLink RX4 69 "UnionOfficeModel" "thrown" "I") (by decide +kernel)) rfl (tyX4_ok 22 (by decide)) rfl rfl (Nat.le_of_ble_eq_true rfl) dX4_fund_2 (mE cy ad σ1) (by rw [hσ1]; exact mu_thrown _ _ _ _) (fun H locs hw => ?_)
  refine lv_aload_n hx hb dX4_fund_5 rfl (lv_at hl 0 rfl) ?_
  refine xr_get S hw (j := 3) (by decide) rfl rfl inX4_fund_X4 (by decide) (hts (.fieldLink RX4 100 "UnionOfficeModel" "money" "I") (by decide +kernel)) rfl dX4_fund_6 ?_
  exact xe_i S.1 S.2.1 hr hlocks hw (⟨by rw [hσ1], hσ1⟩) (Nat.le_of_ble_eq_true rfl) (Nat.le_of_ble_eq_true rfl) dX4_fund_9
abbrev rmX4_asksFor : Room := { frames := 2, cells := 0, slots := 0, locals := 43 }
theorem inX4_asksFor_X4 : (∀ w ∈ wsX40, w ∈ wsX4_asksFor) := by decide +kernel
set_option maxHeartbeats 1000000 in
set_option maxRecDepth 100000 in
/-- asksFor -/
theorem c_X4_asksFor (l : Launch) (D : va_G) (cy : Nat → ClassId) (ad : Nat → Nat) (σ : S3) (x0 : Int32) : MM l yX4_asksFor wsX4_asksFor rmX4_asksFor D cy ad [.ref (ad 0), .int x0] σ (xPi fun r u => u = su σ 23 0 0 (asI σ x0) ∧ r = bI (inI x0 (nm σ))) := by
  refine xs_M (cc := cX4_asksFor) (maxL := 2) (ret := (some .boolean)) (by decide +kernel) rfl (Nat.le_of_ble_eq_true rfl) ?_
  intro p e s m below meth c ls S hr hlocks hnm hw hX hl
  have S : CallFix p m c cX4_asksFor 2 s [.ref (ad 0), .int x0].toArray wsX4_asksFor RX4 := S
  have hx := S.1
  have hb := S.2.1
  have hts := S.2.2.2.2
  have hl : lv_has ls 2 [(0, .ref (ad 0)), (1, .int x0)] := hl
  have hnm16 := nm_le σ
  have hnw18 := nw_le σ
  refine lv_aload_n hx hb dX4_asksFor_0 rfl (lv_at hl 0 rfl) ?_
  refine lv_aload_n hx hb dX4_asksFor_1 rfl (lv_at hl 0 rfl) ?_
  refine lv_iload_n hx hb dX4_asksFor_2 rfl (lv_at hl 1 rfl) ?_
  refine xc_Mi hw (va_runV (As := [.int x0]) (rest := [.ref (ad 0)]) S (c_X4_isMember l D cy ad σ x0 _) (cwV 1 S.2.2.2.2 gX4_asksFor_X4_isMember rfl rfl rfl (by decide +kernel) ⟨Nat.le_of_ble_eq_true rfl, Nat.le_of_ble_eq_true rfl⟩) (xc_preV (XOK.tt _ _) hX hw (by decide) rfl rfl rfl) rfl rfl hl.1 rfl (lv_room (Nat.le_of_ble_eq_true rfl)) dX4_asksFor_3 ⟨Nat.le_of_ble_eq_true rfl, Nat.le_of_ble_eq_true rfl⟩) (fun r9 u H locs hp hw => ?_)
  obtain ⟨hu9, hr9⟩ := hp
  rw [hu9] at hw
  rw [hr9]
  clear hu9 hr9
  refine lv_if_eq (tgt := 13) hx hb dX4_asksFor_6 (by decide) (fun c1 => ?_) (fun c1 => ?_)
  · have hc1 : ¬ (inI x0 (nm σ)) := bI_0.mp c1
    refine lv_iconst (v := 1) hx hb dX4_asksFor_13 (by decide) ?_
    obtain ⟨σ1, hσ1⟩ : ∃ y : S3, y = su σ 23 0 0 1 := ⟨_, rfl⟩
    refine xr_put S hw tyX4 tyX4_ok nmX4 (j := 22) (by decide) rfl rfl inX4_asksFor_X4 (by decide) (hts (.fieldLink RX4 69 "UnionOfficeModel" "thrown" "I") (by decide +kernel)) rfl (tyX4_ok 22 (by decide)) rfl rfl (Nat.le_of_ble_eq_true rfl) dX4_asksFor_14 (mE cy ad σ1) (by rw [hσ1]; exact mu_thrown _ _ _ _) (fun H locs hw => ?_)
    refine lv_aload_n hx hb dX4_asksFor_17 rfl (lv_at hl 0 rfl) ?_
    have hth1 : σ1 23 0 0 = 1 := by rw [hσ1]; rfl
    refine xr_get S hw (j := 22) (v := .int 1) (by decide) rfl rfl inX4_asksFor_X4 (by decide) (hts (.fieldLink RX4 69 "UnionOfficeModel" "thrown" "I") (by decide +kernel)) (congrArg (fun z => some (Value.int z)) hth1) dX4_asksFor_18 ?_
    refine lv_if_ne (tgt := 28) hx hb dX4_asksFor_21 (by decide) (fun _ => ?_) (fun h => absurd h (by decide))
    refine lv_iconst (v := 0) hx hb dX4_asksFor_28 (by decide) ?_
    exact xe_z S.1 S.2.1 hr (Or.inl rfl) hlocks hw (⟨by rw [hσ1, asI_1 hc1], (if_neg hc1).symm⟩) (Nat.le_of_ble_eq_true rfl) (Nat.le_of_ble_eq_true rfl) dX4_asksFor_29
  · have hc1 : inI x0 (nm σ) := bI_1.mp c1
    obtain ⟨i, hi, rfl⟩ := in_ix hc1
    refine lv_iconst (v := 0) hx hb dX4_asksFor_9 (by decide) ?_
    refine lv_goto (tgt := 14) hx hb dX4_asksFor_10 (by decide) ?_
    obtain ⟨σ2, hσ2⟩ : ∃ y : S3, y = su σ 23 0 0 0 := ⟨_, rfl⟩
    refine xr_put S hw tyX4 tyX4_ok nmX4 (j := 22) (by decide) rfl rfl inX4_asksFor_X4 (by decide) (hts (.fieldLink RX4 69 "UnionOfficeModel" "thrown" "I") (by decide +kernel)) rfl (tyX4_ok 22 (by decide)) rfl rfl (Nat.le_of_ble_eq_true rfl) dX4_asksFor_14 (mE cy ad σ2) (by rw [hσ2]; exact mu_thrown _ _ _ _) (fun H locs hw => ?_)
    refine lv_aload_n hx hb dX4_asksFor_17 rfl (lv_at hl 0 rfl) ?_
    have hth2 : σ2 23 0 0 = 0 := by rw [hσ2]; rfl
    refine xr_get S hw (j := 22) (v := .int 0) (by decide) rfl rfl inX4_asksFor_X4 (by decide) (hts (.fieldLink RX4 69 "UnionOfficeModel" "thrown" "I") (by decide +kernel)) (congrArg (fun z => some (Value.int z)) hth2) dX4_asksFor_18 ?_
    refine lv_if_ne (tgt := 28) hx hb dX4_asksFor_21 (by decide) (fun h => absurd h (by decide)) (fun _ => ?_)
    refine lv_iconst (v := 1) hx hb dX4_asksFor_24 (by decide) ?_
    refine lv_goto (tgt := 29) hx hb dX4_asksFor_25 (by decide) ?_
    exact xe_z S.1 S.2.1 hr (Or.inr rfl) hlocks hw (⟨by rw [hσ2, asI_0 hc1], (if_pos hc1).symm⟩) (Nat.le_of_ble_eq_true rfl) (Nat.le_of_ble_eq_true rfl) dX4_asksFor_29
abbrev rmX4_owed : Room := { frames := 3, cells := 0, slots := 0, locals := 64 }
set_option maxHeartbeats 1000000 in
set_option maxRecDepth 100000 in
/-- owed -/
theorem c_X4_owed (l : Launch) (D : va_G) (cy : Nat → ClassId) (ad : Nat → Nat) (σ : S3) (x0 : Int32) : MM l yX4_owed wsX4_owed rmX4_owed D cy ad [.ref (ad 0), .int x0] σ (xPi (mP1 σ (inI x0 (nm σ)) (owM (th0 σ) x0.toNatClampNeg) (th0 σ))) := by
  refine xs_M (cc := cX4_owed) (maxL := 2) (ret := (some .int)) (by decide +kernel) rfl (Nat.le_of_ble_eq_true rfl) ?_
  intro p e s m below meth c ls S hr hlocks hnm hw hX hl
  have S : CallFix p m c cX4_owed 2 s [.ref (ad 0), .int x0].toArray wsX4_owed RX4 := S
  have hx := S.1
  have hb := S.2.1
  have hts := S.2.2.2.2
  have hl : lv_has ls 2 [(0, .ref (ad 0)), (1, .int x0)] := hl
  have hnm16 := nm_le σ
  have hnw18 := nw_le σ
  refine lv_aload_n hx hb dX4_owed_0 rfl (lv_at hl 0 rfl) ?_
  refine lv_iload_n hx hb dX4_owed_1 rfl (lv_at hl 1 rfl) ?_
  refine xc_Mi hw (va_runV (As := [.int x0]) (rest := []) S (c_X4_asksFor l D cy ad σ x0 _) (cwV 1 S.2.2.2.2 gX4_owed_X4_asksFor rfl rfl rfl (by decide +kernel) ⟨Nat.le_of_ble_eq_true rfl, Nat.le_of_ble_eq_true rfl⟩) (xc_preV (XOK.tt _ _) hX hw (by decide) rfl rfl rfl) rfl rfl hl.1 rfl (lv_room (Nat.le_of_ble_eq_true rfl)) dX4_owed_2 ⟨Nat.le_of_ble_eq_true rfl, Nat.le_of_ble_eq_true rfl⟩) (fun r9 u H locs hp hw => ?_)
  obtain ⟨hu9, hr9⟩ := hp
  rw [hu9] at hw
  rw [hr9]
  clear hu9 hr9
  refine lv_if_eq (tgt := 16) hx hb dX4_owed_5 (by decide) (fun c1 => ?_) (fun c1 => ?_)
  · have hc1 : ¬ (inI x0 (nm σ)) := bI_0.mp c1
    refine lv_iconst (v := 0) hx hb dX4_owed_16 (by decide) ?_
    exact xe_i S.1 S.2.1 hr hlocks hw (Or.inl ⟨hc1, rfl, by rw [asI_1 hc1]⟩) (Nat.le_of_ble_eq_true rfl) (Nat.le_of_ble_eq_true rfl) dX4_owed_17
  · have hc1 : inI x0 (nm σ) := bI_1.mp c1
    obtain ⟨i, hi, rfl⟩ := in_ix hc1
    refine lv_aload_n hx hb dX4_owed_8 rfl (lv_at hl 0 rfl) ?_
    refine lv_iload_n hx hb dX4_owed_9 rfl (lv_at hl 1 rfl) ?_
    refine xc_Mi hw (va_runV (As := [.int (nI i)]) (rest := []) S (c_X4_owedBy l D cy ad (su σ 23 0 0 (asI σ (nI i))) i (by omega) _) (cwV 1 S.2.2.2.2 gX4_owed_X4_owedBy rfl rfl rfl (by decide +kernel) ⟨Nat.le_of_ble_eq_true rfl, Nat.le_of_ble_eq_true rfl⟩) (xc_preV (XOK.tt _ _) hX hw (by decide) rfl rfl rfl) rfl rfl hl.1 rfl (lv_room (Nat.le_of_ble_eq_true rfl)) dX4_owed_10 ⟨Nat.le_of_ble_eq_true rfl, Nat.le_of_ble_eq_true rfl⟩) (fun r9 u H locs hp hw => ?_)
    obtain ⟨hu9, hr9⟩ := hp
    rw [hu9] at hw
    rw [hr9]
    clear hu9 hr9
    refine lv_goto (tgt := 17) hx hb dX4_owed_13 (by decide) ?_
    exact xe_i S.1 S.2.1 hr hlocks hw (Or.inr ⟨hc1, by rw [cl_nI (by omega), asI_0 hc1], by rw [asI_0 hc1]⟩) (Nat.le_of_ble_eq_true rfl) (Nat.le_of_ble_eq_true rfl) dX4_owed_17
abbrev rmX4_credit : Room := { frames := 3, cells := 0, slots := 0, locals := 64 }
theorem inX4_credit_X4 : (∀ w ∈ wsX40, w ∈ wsX4_credit) := by decide +kernel
set_option maxHeartbeats 1000000 in
set_option maxRecDepth 100000 in
/-- credit -/
theorem c_X4_credit (l : Launch) (D : va_G) (cy : Nat → ClassId) (ad : Nat → Nat) (σ : S3) (x0 : Int32) : MM l yX4_credit wsX4_credit rmX4_credit D cy ad [.ref (ad 0), .int x0] σ (xPi (mP1 σ (inI x0 (nm σ)) (th0 σ 5 x0.toNatClampNeg 0) (th0 σ))) := by
  refine xs_M (cc := cX4_credit) (maxL := 2) (ret := (some .int)) (by decide +kernel) rfl (Nat.le_of_ble_eq_true rfl) ?_
  intro p e s m below meth c ls S hr hlocks hnm hw hX hl
  have S : CallFix p m c cX4_credit 2 s [.ref (ad 0), .int x0].toArray wsX4_credit RX4 := S
  have hx := S.1
  have hb := S.2.1
  have hts := S.2.2.2.2
  have hl : lv_has ls 2 [(0, .ref (ad 0)), (1, .int x0)] := hl
  have hnm16 := nm_le σ
  have hnw18 := nw_le σ
  refine lv_aload_n hx hb dX4_credit_0 rfl (lv_at hl 0 rfl) ?_
  refine lv_iload_n hx hb dX4_credit_1 rfl (lv_at hl 1 rfl) ?_
  refine xc_Mi hw (va_runV (As := [.int x0]) (rest := []) S (c_X4_asksFor l D cy ad σ x0 _) (cwV 1 S.2.2.2.2 gX4_credit_X4_asksFor rfl rfl rfl (by decide +kernel) ⟨Nat.le_of_ble_eq_true rfl, Nat.le_of_ble_eq_true rfl⟩) (xc_preV (XOK.tt _ _) hX hw (by decide) rfl rfl rfl) rfl rfl hl.1 rfl (lv_room (Nat.le_of_ble_eq_true rfl)) dX4_credit_2 ⟨Nat.le_of_ble_eq_true rfl, Nat.le_of_ble_eq_true rfl⟩) (fun r9 u H locs hp hw => ?_)
  obtain ⟨hu9, hr9⟩ := hp
  rw [hu9] at hw
  rw [hr9]
  clear hu9 hr9
  refine lv_if_eq (tgt := 17) hx hb dX4_credit_5 (by decide) (fun c1 => ?_) (fun c1 => ?_)
  · have hc1 : ¬ (inI x0 (nm σ)) := bI_0.mp c1
    refine lv_iconst (v := 0) hx hb dX4_credit_17 (by decide) ?_
    exact xe_i S.1 S.2.1 hr hlocks hw (Or.inl ⟨hc1, rfl, by rw [asI_1 hc1]⟩) (Nat.le_of_ble_eq_true rfl) (Nat.le_of_ble_eq_true rfl) dX4_credit_18
  · have hc1 : inI x0 (nm σ) := bI_1.mp c1
    obtain ⟨i, hi, rfl⟩ := in_ix hc1
    refine lv_aload_n hx hb dX4_credit_8 rfl (lv_at hl 0 rfl) ?_
    refine xr_get S hw (j := 10) (by decide) rfl rfl inX4_credit_X4 (by decide) (hts (.fieldLink RX4 26 "UnionOfficeModel" "credits" "[I") (by decide +kernel)) rfl dX4_credit_9 ?_
    refine lv_iload_n hx hb dX4_credit_12 rfl (lv_at hl 1 rfl) ?_
    refine xv_iald S hw (t0 := 0) (v := (su σ 23 0 0 (asI σ (nI i))) 5 i 0) (by decide) rfl rfl (by omega) (by decide) rfl dX4_credit_13 ?_
    refine lv_goto (tgt := 18) hx hb dX4_credit_14 (by decide) ?_
    exact xe_i S.1 S.2.1 hr hlocks hw (Or.inr ⟨hc1, by rw [cl_nI (by omega), asI_0 hc1], by rw [asI_0 hc1]⟩) (Nat.le_of_ble_eq_true rfl) (Nat.le_of_ble_eq_true rfl) dX4_credit_18
abbrev rmX4_strikePay : Room := { frames := 3, cells := 0, slots := 0, locals := 64 }
theorem inX4_strikePay_X4 : (∀ w ∈ wsX40, w ∈ wsX4_strikePay) := by decide +kernel
set_option maxHeartbeats 1000000 in
set_option maxRecDepth 100000 in
/-- strikePay -/
theorem c_X4_strikePay (l : Launch) (D : va_G) (cy : Nat → ClassId) (ad : Nat → Nat) (σ : S3) (x0 : Int32) : MM l yX4_strikePay wsX4_strikePay rmX4_strikePay D cy ad [.ref (ad 0), .int x0] σ (xPi (mP1 σ (inI x0 (nm σ)) (th0 σ 6 x0.toNatClampNeg 0) (th0 σ))) := by
  refine xs_M (cc := cX4_strikePay) (maxL := 2) (ret := (some .int)) (by decide +kernel) rfl (Nat.le_of_ble_eq_true rfl) ?_
  intro p e s m below meth c ls S hr hlocks hnm hw hX hl
  have S : CallFix p m c cX4_strikePay 2 s [.ref (ad 0), .int x0].toArray wsX4_strikePay RX4 := S
  have hx := S.1
  have hb := S.2.1
  have hts := S.2.2.2.2
  have hl : lv_has ls 2 [(0, .ref (ad 0)), (1, .int x0)] := hl
  have hnm16 := nm_le σ
  have hnw18 := nw_le σ
  refine lv_aload_n hx hb dX4_strikePay_0 rfl (lv_at hl 0 rfl) ?_
  refine lv_iload_n hx hb dX4_strikePay_1 rfl (lv_at hl 1 rfl) ?_
  refine xc_Mi hw (va_runV (As := [.int x0]) (rest := []) S (c_X4_asksFor l D cy ad σ x0 _) (cwV 1 S.2.2.2.2 gX4_strikePay_X4_asksFor rfl rfl rfl (by decide +kernel) ⟨Nat.le_of_ble_eq_true rfl, Nat.le_of_ble_eq_true rfl⟩) (xc_preV (XOK.tt _ _) hX hw (by decide) rfl rfl rfl) rfl rfl hl.1 rfl (lv_room (Nat.le_of_ble_eq_true rfl)) dX4_strikePay_2 ⟨Nat.le_of_ble_eq_true rfl, Nat.le_of_ble_eq_true rfl⟩) (fun r9 u H locs hp hw => ?_)
  obtain ⟨hu9, hr9⟩ := hp
  rw [hu9] at hw
  rw [hr9]
  clear hu9 hr9
  refine lv_if_eq (tgt := 17) hx hb dX4_strikePay_5 (by decide) (fun c1 => ?_) (fun c1 => ?_)
  · have hc1 : ¬ (inI x0 (nm σ)) := bI_0.mp c1
    refine lv_iconst (v := 0) hx hb dX4_strikePay_17 (by decide) ?_
    exact xe_i S.1 S.2.1 hr hlocks hw (Or.inl ⟨hc1, rfl, by rw [asI_1 hc1]⟩) (Nat.le_of_ble_eq_true rfl) (Nat.le_of_ble_eq_true rfl) dX4_strikePay_18
  · have hc1 : inI x0 (nm σ) := bI_1.mp c1
    obtain ⟨i, hi, rfl⟩ := in_ix hc1
    refine lv_aload_n hx hb dX4_strikePay_8 rfl (lv_at hl 0 rfl) ?_
    refine xr_get S hw (j := 11) (by decide) rfl rfl inX4_strikePay_X4 (by decide) (hts (.fieldLink RX4 29 "UnionOfficeModel" "strikePays" "[I") (by decide +kernel)) rfl dX4_strikePay_9 ?_
    refine lv_iload_n hx hb dX4_strikePay_12 rfl (lv_at hl 1 rfl) ?_
    refine xv_iald S hw (t0 := 0) (v := (su σ 23 0 0 (asI σ (nI i))) 6 i 0) (by decide) rfl rfl (by omega) (by decide) rfl dX4_strikePay_13 ?_
    refine lv_goto (tgt := 18) hx hb dX4_strikePay_14 (by decide) ?_
    exact xe_i S.1 S.2.1 hr hlocks hw (Or.inr ⟨hc1, by rw [cl_nI (by omega), asI_0 hc1], by rw [asI_0 hc1]⟩) (Nat.le_of_ble_eq_true rfl) (Nat.le_of_ble_eq_true rfl) dX4_strikePay_18
abbrev rmX4_hasStanding : Room := { frames := 3, cells := 0, slots := 0, locals := 64 }
set_option maxHeartbeats 1000000 in
set_option maxRecDepth 100000 in
/-- hasStanding -/
theorem c_X4_hasStanding (l : Launch) (D : va_G) (cy : Nat → ClassId) (ad : Nat → Nat) (σ : S3) (x0 : Int32) : MM l yX4_hasStanding wsX4_hasStanding rmX4_hasStanding D cy ad [.ref (ad 0), .int x0] σ (xPi (mP1 σ (inI x0 (nm σ)) (stmI (th0 σ) x0.toNatClampNeg) (th0 σ))) := by
  refine xs_M (cc := cX4_hasStanding) (maxL := 2) (ret := (some .boolean)) (by decide +kernel) rfl (Nat.le_of_ble_eq_true rfl) ?_
  intro p e s m below meth c ls S hr hlocks hnm hw hX hl
  have S : CallFix p m c cX4_hasStanding 2 s [.ref (ad 0), .int x0].toArray wsX4_hasStanding RX4 := S
  have hx := S.1
  have hb := S.2.1
  have hts := S.2.2.2.2
  have hl : lv_has ls 2 [(0, .ref (ad 0)), (1, .int x0)] := hl
  have hnm16 := nm_le σ
  have hnw18 := nw_le σ
  refine lv_aload_n hx hb dX4_hasStanding_0 rfl (lv_at hl 0 rfl) ?_
  refine lv_iload_n hx hb dX4_hasStanding_1 rfl (lv_at hl 1 rfl) ?_
  refine xc_Mi hw (va_runV (As := [.int x0]) (rest := []) S (c_X4_asksFor l D cy ad σ x0 _) (cwV 1 S.2.2.2.2 gX4_hasStanding_X4_asksFor rfl rfl rfl (by decide +kernel) ⟨Nat.le_of_ble_eq_true rfl, Nat.le_of_ble_eq_true rfl⟩) (xc_preV (XOK.tt _ _) hX hw (by decide) rfl rfl rfl) rfl rfl hl.1 rfl (lv_room (Nat.le_of_ble_eq_true rfl)) dX4_hasStanding_2 ⟨Nat.le_of_ble_eq_true rfl, Nat.le_of_ble_eq_true rfl⟩) (fun r9 u H locs hp hw => ?_)
  obtain ⟨hu9, hr9⟩ := hp
  rw [hu9] at hw
  rw [hr9]
  clear hu9 hr9
  refine lv_if_eq (tgt := 20) hx hb dX4_hasStanding_5 (by decide) (fun c1 => ?_) (fun c1 => ?_)
  · have hc1 : ¬ (inI x0 (nm σ)) := bI_0.mp c1
    refine lv_iconst (v := 0) hx hb dX4_hasStanding_20 (by decide) ?_
    exact xe_z S.1 S.2.1 hr (Or.inl rfl) hlocks hw (Or.inl ⟨hc1, rfl, by rw [asI_1 hc1]⟩) (Nat.le_of_ble_eq_true rfl) (Nat.le_of_ble_eq_true rfl) dX4_hasStanding_21
  · have hc1 : inI x0 (nm σ) := bI_1.mp c1
    obtain ⟨i, hi, rfl⟩ := in_ix hc1
    refine lv_aload_n hx hb dX4_hasStanding_8 rfl (lv_at hl 0 rfl) ?_
    refine lv_iload_n hx hb dX4_hasStanding_9 rfl (lv_at hl 1 rfl) ?_
    refine xc_Mi hw (va_runV (As := [.int (nI i)]) (rest := []) S (c_X4_stands l D cy ad (su σ 23 0 0 (asI σ (nI i))) i (by omega) _) (cwV 1 S.2.2.2.2 gX4_hasStanding_X4_stands rfl rfl rfl (by decide +kernel) ⟨Nat.le_of_ble_eq_true rfl, Nat.le_of_ble_eq_true rfl⟩) (xc_preV (XOK.tt _ _) hX hw (by decide) rfl rfl rfl) rfl rfl hl.1 rfl (lv_room (Nat.le_of_ble_eq_true rfl)) dX4_hasStanding_10 ⟨Nat.le_of_ble_eq_true rfl, Nat.le_of_ble_eq_true rfl⟩) (fun r9 u H locs hp hw => ?_)
    obtain ⟨hu9, hr9⟩ := hp
    rw [hu9] at hw
    rw [hr9]
    clear hu9 hr9
    refine lv_if_eq (tgt := 20) hx hb dX4_hasStanding_13 (by decide) (fun c2 => ?_) (fun c2 => ?_)
    · refine lv_iconst (v := 0) hx hb dX4_hasStanding_20 (by decide) ?_
      exact xe_z S.1 S.2.1 hr (Or.inl rfl) hlocks hw (Or.inr ⟨hc1, by rw [cl_nI (by omega), ← (show su σ 23 0 0 (asI σ (nI i)) = th0 σ by rw [asI_0 hc1])]; exact c2.symm, by rw [asI_0 hc1]⟩) (Nat.le_of_ble_eq_true rfl) (Nat.le_of_ble_eq_true rfl) dX4_hasStanding_21
    · refine lv_iconst (v := 1) hx hb dX4_hasStanding_16 (by decide) ?_
      refine lv_goto (tgt := 21) hx hb dX4_hasStanding_17 (by decide) ?_
      exact xe_z S.1 S.2.1 hr (Or.inr rfl) hlocks hw (Or.inr ⟨hc1, by rw [cl_nI (by omega), ← (show su σ 23 0 0 (asI σ (nI i)) = th0 σ by rw [asI_0 hc1])]; exact ((stmI_01 _ _).resolve_left c2).symm, by rw [asI_0 hc1]⟩) (Nat.le_of_ble_eq_true rfl) (Nat.le_of_ble_eq_true rfl) dX4_hasStanding_21
abbrev rmX4_delegates : Room := { frames := 2, cells := 0, slots := 0, locals := 42 }
theorem inX4_delegates_X4 : (∀ w ∈ wsX40, w ∈ wsX4_delegates) := by decide +kernel
set_option maxHeartbeats 1000000 in
set_option maxRecDepth 100000 in
/-- delegates -/
theorem c_X4_delegates (l : Launch) (D : va_G) (cy : Nat → ClassId) (ad : Nat → Nat) (σ : S3) (x0 : Int32) : MM l yX4_delegates wsX4_delegates rmX4_delegates D cy ad [.ref (ad 0), .int x0] σ (xPi (mP1 σ (inI x0 4) (th0 σ 16 x0.toNatClampNeg 0) (th0 σ))) := by
  refine xs_M (cc := cX4_delegates) (maxL := 2) (ret := (some .int)) (by decide +kernel) rfl (Nat.le_of_ble_eq_true rfl) ?_
  intro p e s m below meth c ls S hr hlocks hnm hw hX hl
  have S : CallFix p m c cX4_delegates 2 s [.ref (ad 0), .int x0].toArray wsX4_delegates RX4 := S
  have hx := S.1
  have hb := S.2.1
  have hts := S.2.2.2.2
  have hl : lv_has ls 2 [(0, .ref (ad 0)), (1, .int x0)] := hl
  have hnm16 := nm_le σ
  have hnw18 := nw_le σ
  refine lv_aload_n hx hb dX4_delegates_0 rfl (lv_at hl 0 rfl) ?_
  refine lv_iload_n hx hb dX4_delegates_1 rfl (lv_at hl 1 rfl) ?_
  refine xc_Mi hw (va_runS (As := [.int x0]) (rest := [.ref (ad 0)]) S (c_X4_isBranch l D cy ad σ x0 _) (va_cwS 1 S.2.2.2.2 gX4_delegates_X4_isBranch rfl rfl rfl (by decide +kernel) ⟨Nat.le_of_ble_eq_true rfl, Nat.le_of_ble_eq_true rfl⟩) (xc_preS (XOK.tt _ _) hX hw _) rfl rfl hl.1 rfl (lv_room (Nat.le_of_ble_eq_true rfl)) dX4_delegates_2 ⟨Nat.le_of_ble_eq_true rfl, Nat.le_of_ble_eq_true rfl⟩) (fun r9 u H locs hp hw => ?_)
  obtain ⟨hu9, hr9⟩ := hp
  rw [hu9] at hw
  rw [hr9]
  clear hu9 hr9
  refine lv_if_eq (tgt := 12) hx hb dX4_delegates_5 (by decide) (fun c1 => ?_) (fun c1 => ?_)
  · have hc1 : ¬ (inI x0 4) := bI_0.mp c1
    refine lv_iconst (v := 1) hx hb dX4_delegates_12 (by decide) ?_
    obtain ⟨σ1, hσ1⟩ : ∃ y : S3, y = su σ 23 0 0 1 := ⟨_, rfl⟩
    refine xr_put S hw tyX4 tyX4_ok nmX4 (j := 22) (by decide) rfl rfl inX4_delegates_X4 (by decide) (hts (.fieldLink RX4 69 "UnionOfficeModel" "thrown" "I") (by decide +kernel)) rfl (tyX4_ok 22 (by decide)) rfl rfl (Nat.le_of_ble_eq_true rfl) dX4_delegates_13 (mE cy ad σ1) (by rw [hσ1]; exact mu_thrown _ _ _ _) (fun H locs hw => ?_)
    refine lv_aload_n hx hb dX4_delegates_16 rfl (lv_at hl 0 rfl) ?_
    have hth1 : σ1 23 0 0 = 1 := by rw [hσ1]; rfl
    refine xr_get S hw (j := 22) (v := .int 1) (by decide) rfl rfl inX4_delegates_X4 (by decide) (hts (.fieldLink RX4 69 "UnionOfficeModel" "thrown" "I") (by decide +kernel)) (congrArg (fun z => some (Value.int z)) hth1) dX4_delegates_17 ?_
    refine lv_if_ne (tgt := 32) hx hb dX4_delegates_20 (by decide) (fun _ => ?_) (fun h => absurd h (by decide))
    refine lv_iconst (v := 0) hx hb dX4_delegates_32 (by decide) ?_
    exact xe_i S.1 S.2.1 hr hlocks hw (Or.inl ⟨hc1, rfl, hσ1⟩) (Nat.le_of_ble_eq_true rfl) (Nat.le_of_ble_eq_true rfl) dX4_delegates_33
  · have hc1 : inI x0 4 := bI_1.mp c1
    obtain ⟨b, hbb, rfl⟩ := in_ix hc1
    refine lv_iconst (v := 0) hx hb dX4_delegates_8 (by decide) ?_
    refine lv_goto (tgt := 13) hx hb dX4_delegates_9 (by decide) ?_
    obtain ⟨σ2, hσ2⟩ : ∃ y : S3, y = su σ 23 0 0 0 := ⟨_, rfl⟩
    refine xr_put S hw tyX4 tyX4_ok nmX4 (j := 22) (by decide) rfl rfl inX4_delegates_X4 (by decide) (hts (.fieldLink RX4 69 "UnionOfficeModel" "thrown" "I") (by decide +kernel)) rfl (tyX4_ok 22 (by decide)) rfl rfl (Nat.le_of_ble_eq_true rfl) dX4_delegates_13 (mE cy ad σ2) (by rw [hσ2]; exact mu_thrown _ _ _ _) (fun H locs hw => ?_)
    refine lv_aload_n hx hb dX4_delegates_16 rfl (lv_at hl 0 rfl) ?_
    have hth2 : σ2 23 0 0 = 0 := by rw [hσ2]; rfl
    refine xr_get S hw (j := 22) (v := .int 0) (by decide) rfl rfl inX4_delegates_X4 (by decide) (hts (.fieldLink RX4 69 "UnionOfficeModel" "thrown" "I") (by decide +kernel)) (congrArg (fun z => some (Value.int z)) hth2) dX4_delegates_17 ?_
    refine lv_if_ne (tgt := 32) hx hb dX4_delegates_20 (by decide) (fun h => absurd h (by decide)) (fun _ => ?_)
    refine lv_aload_n hx hb dX4_delegates_23 rfl (lv_at hl 0 rfl) ?_
    refine xr_get S hw (j := 21) (by decide) rfl rfl inX4_delegates_X4 (by decide) (hts (.fieldLink RX4 59 "UnionOfficeModel" "delegateMany" "[I") (by decide +kernel)) rfl dX4_delegates_24 ?_
    refine lv_iload_n hx hb dX4_delegates_27 rfl (lv_at hl 1 rfl) ?_
    refine xv_iald S hw (t0 := 0) (v := σ2 16 b 0) (by decide) rfl rfl (by omega) (by decide) rfl dX4_delegates_28 ?_
    refine lv_goto (tgt := 33) hx hb dX4_delegates_29 (by decide) ?_
    exact xe_i S.1 S.2.1 hr hlocks hw (Or.inr ⟨hc1, by rw [cl_nI (by omega), hσ2], hσ2⟩) (Nat.le_of_ble_eq_true rfl) (Nat.le_of_ble_eq_true rfl) dX4_delegates_33
abbrev rmX4_isOut : Room := { frames := 2, cells := 0, slots := 0, locals := 42 }
theorem inX4_isOut_X4 : (∀ w ∈ wsX40, w ∈ wsX4_isOut) := by decide +kernel
set_option maxHeartbeats 1000000 in
set_option maxRecDepth 100000 in
/-- isOut -/
theorem c_X4_isOut (l : Launch) (D : va_G) (cy : Nat → ClassId) (ad : Nat → Nat) (σ : S3) (x0 : Int32) : MM l yX4_isOut wsX4_isOut rmX4_isOut D cy ad [.ref (ad 0), .int x0] σ (xPi (mP1 σ (inI x0 4) (if th0 σ 14 x0.toNatClampNeg 0 = 0 then 0 else 1) (th0 σ))) := by
  refine xs_M (cc := cX4_isOut) (maxL := 2) (ret := (some .boolean)) (by decide +kernel) rfl (Nat.le_of_ble_eq_true rfl) ?_
  intro p e s m below meth c ls S hr hlocks hnm hw hX hl
  have S : CallFix p m c cX4_isOut 2 s [.ref (ad 0), .int x0].toArray wsX4_isOut RX4 := S
  have hx := S.1
  have hb := S.2.1
  have hts := S.2.2.2.2
  have hl : lv_has ls 2 [(0, .ref (ad 0)), (1, .int x0)] := hl
  have hnm16 := nm_le σ
  have hnw18 := nw_le σ
  refine lv_aload_n hx hb dX4_isOut_0 rfl (lv_at hl 0 rfl) ?_
  refine lv_iload_n hx hb dX4_isOut_1 rfl (lv_at hl 1 rfl) ?_
  refine xc_Mi hw (va_runS (As := [.int x0]) (rest := [.ref (ad 0)]) S (c_X4_isBranch l D cy ad σ x0 _) (va_cwS 1 S.2.2.2.2 gX4_isOut_X4_isBranch rfl rfl rfl (by decide +kernel) ⟨Nat.le_of_ble_eq_true rfl, Nat.le_of_ble_eq_true rfl⟩) (xc_preS (XOK.tt _ _) hX hw _) rfl rfl hl.1 rfl (lv_room (Nat.le_of_ble_eq_true rfl)) dX4_isOut_2 ⟨Nat.le_of_ble_eq_true rfl, Nat.le_of_ble_eq_true rfl⟩) (fun r9 u H locs hp hw => ?_)
  obtain ⟨hu9, hr9⟩ := hp
  rw [hu9] at hw
  rw [hr9]
  clear hu9 hr9
  refine lv_if_eq (tgt := 12) hx hb dX4_isOut_5 (by decide) (fun c1 => ?_) (fun c1 => ?_)
  · have hc1 : ¬ (inI x0 4) := bI_0.mp c1
    refine lv_iconst (v := 1) hx hb dX4_isOut_12 (by decide) ?_
    obtain ⟨σ1, hσ1⟩ : ∃ y : S3, y = su σ 23 0 0 1 := ⟨_, rfl⟩
    refine xr_put S hw tyX4 tyX4_ok nmX4 (j := 22) (by decide) rfl rfl inX4_isOut_X4 (by decide) (hts (.fieldLink RX4 69 "UnionOfficeModel" "thrown" "I") (by decide +kernel)) rfl (tyX4_ok 22 (by decide)) rfl rfl (Nat.le_of_ble_eq_true rfl) dX4_isOut_13 (mE cy ad σ1) (by rw [hσ1]; exact mu_thrown _ _ _ _) (fun H locs hw => ?_)
    refine lv_aload_n hx hb dX4_isOut_16 rfl (lv_at hl 0 rfl) ?_
    have hth1 : σ1 23 0 0 = 1 := by rw [hσ1]; rfl
    refine xr_get S hw (j := 22) (v := .int 1) (by decide) rfl rfl inX4_isOut_X4 (by decide) (hts (.fieldLink RX4 69 "UnionOfficeModel" "thrown" "I") (by decide +kernel)) (congrArg (fun z => some (Value.int z)) hth1) dX4_isOut_17 ?_
    refine lv_if_ne (tgt := 36) hx hb dX4_isOut_20 (by decide) (fun _ => ?_) (fun h => absurd h (by decide))
    refine lv_iconst (v := 0) hx hb dX4_isOut_36 (by decide) ?_
    exact xe_z S.1 S.2.1 hr (Or.inl rfl) hlocks hw (Or.inl ⟨hc1, rfl, hσ1⟩) (Nat.le_of_ble_eq_true rfl) (Nat.le_of_ble_eq_true rfl) dX4_isOut_37
  · have hc1 : inI x0 4 := bI_1.mp c1
    obtain ⟨b, hbb, rfl⟩ := in_ix hc1
    refine lv_iconst (v := 0) hx hb dX4_isOut_8 (by decide) ?_
    refine lv_goto (tgt := 13) hx hb dX4_isOut_9 (by decide) ?_
    obtain ⟨σ2, hσ2⟩ : ∃ y : S3, y = su σ 23 0 0 0 := ⟨_, rfl⟩
    refine xr_put S hw tyX4 tyX4_ok nmX4 (j := 22) (by decide) rfl rfl inX4_isOut_X4 (by decide) (hts (.fieldLink RX4 69 "UnionOfficeModel" "thrown" "I") (by decide +kernel)) rfl (tyX4_ok 22 (by decide)) rfl rfl (Nat.le_of_ble_eq_true rfl) dX4_isOut_13 (mE cy ad σ2) (by rw [hσ2]; exact mu_thrown _ _ _ _) (fun H locs hw => ?_)
    refine lv_aload_n hx hb dX4_isOut_16 rfl (lv_at hl 0 rfl) ?_
    have hth2 : σ2 23 0 0 = 0 := by rw [hσ2]; rfl
    refine xr_get S hw (j := 22) (v := .int 0) (by decide) rfl rfl inX4_isOut_X4 (by decide) (hts (.fieldLink RX4 69 "UnionOfficeModel" "thrown" "I") (by decide +kernel)) (congrArg (fun z => some (Value.int z)) hth2) dX4_isOut_17 ?_
    refine lv_if_ne (tgt := 36) hx hb dX4_isOut_20 (by decide) (fun h => absurd h (by decide)) (fun _ => ?_)
    refine lv_aload_n hx hb dX4_isOut_23 rfl (lv_at hl 0 rfl) ?_
    refine xr_get S hw (j := 19) (by decide) rfl rfl inX4_isOut_X4 (by decide) (hts (.fieldLink RX4 53 "UnionOfficeModel" "isStriking" "[Z") (by decide +kernel)) rfl dX4_isOut_24 ?_
    refine lv_iload_n hx hb dX4_isOut_27 rfl (lv_at hl 1 rfl) ?_
    refine xv_zald S hw (t0 := 1) (v := σ2 14 b 0) (by decide) rfl rfl (by omega) (by decide) rfl dX4_isOut_28 ?_
    refine lv_if_eq (tgt := 36) hx hb dX4_isOut_29 (by decide) (fun c4 => ?_) (fun c4 => ?_)
    · refine lv_iconst (v := 0) hx hb dX4_isOut_36 (by decide) ?_
      exact xe_z S.1 S.2.1 hr (Or.inl rfl) hlocks hw (Or.inr ⟨hc1, by rw [cl_nI (by omega), ← (show σ2 = th0 σ from hσ2)]; exact (if_pos c4).symm, hσ2⟩) (Nat.le_of_ble_eq_true rfl) (Nat.le_of_ble_eq_true rfl) dX4_isOut_37
    · refine lv_iconst (v := 1) hx hb dX4_isOut_32 (by decide) ?_
      refine lv_goto (tgt := 37) hx hb dX4_isOut_33 (by decide) ?_
      exact xe_z S.1 S.2.1 hr (Or.inr rfl) hlocks hw (Or.inr ⟨hc1, by rw [cl_nI (by omega), ← (show σ2 = th0 σ from hσ2)]; exact (if_neg c4).symm, hσ2⟩) (Nat.le_of_ble_eq_true rfl) (Nat.le_of_ble_eq_true rfl) dX4_isOut_37
abbrev rmX4_laid : Room := { frames := 2, cells := 0, slots := 0, locals := 43 }
theorem inX4_laid_X4 : (∀ w ∈ wsX40, w ∈ wsX4_laid) := by decide +kernel
set_option maxHeartbeats 1000000 in
set_option maxRecDepth 100000 in
/-- laid -/
theorem c_X4_laid (l : Launch) (D : va_G) (cy : Nat → ClassId) (ad : Nat → Nat) (σ : S3) (x0 x1 : Int32) : MM l yX4_laid wsX4_laid rmX4_laid D cy ad [.ref (ad 0), .int x0, .int x1] σ (xPi (mP2 σ (inI x0 (nm σ) ∧ ¬ 60 < x1 ∧ ehP σ x1) (nI (fo σ) - 1 < x1) (th0 σ 8 x0.toNatClampNeg x1.toNatClampNeg) (th0 σ))) := by
  refine xs_M (cc := cX4_laid) (maxL := 3) (ret := (some .int)) (by decide +kernel) rfl (Nat.le_of_ble_eq_true rfl) ?_
  intro p e s m below meth c ls S hr hlocks hnm hw hX hl
  have S : CallFix p m c cX4_laid 3 s [.ref (ad 0), .int x0, .int x1].toArray wsX4_laid RX4 := S
  have hx := S.1
  have hb := S.2.1
  have hts := S.2.2.2.2
  have hl : lv_has ls 3 [(0, .ref (ad 0)), (1, .int x0), (2, .int x1)] := hl
  have hnm16 := nm_le σ
  have hnw18 := nw_le σ
  refine lv_aload_n hx hb dX4_laid_0 rfl (lv_at hl 0 rfl) ?_
  refine lv_aload_n hx hb dX4_laid_1 rfl (lv_at hl 0 rfl) ?_
  refine lv_iload_n hx hb dX4_laid_2 rfl (lv_at hl 1 rfl) ?_
  refine xc_Mi hw (va_runV (As := [.int x0]) (rest := [.ref (ad 0)]) S (c_X4_isMember l D cy ad σ x0 _) (cwV 1 S.2.2.2.2 gX4_laid_X4_isMember rfl rfl rfl (by decide +kernel) ⟨Nat.le_of_ble_eq_true rfl, Nat.le_of_ble_eq_true rfl⟩) (xc_preV (XOK.tt _ _) hX hw (by decide) rfl rfl rfl) rfl rfl hl.1 rfl (lv_room (Nat.le_of_ble_eq_true rfl)) dX4_laid_3 ⟨Nat.le_of_ble_eq_true rfl, Nat.le_of_ble_eq_true rfl⟩) (fun r9 u H locs hp hw => ?_)
  obtain ⟨hu9, hr9⟩ := hp
  rw [hu9] at hw
  rw [hr9]
  clear hu9 hr9
  refine lv_if_eq (tgt := 23) hx hb dX4_laid_6 (by decide) (fun c1 => ?_) (fun c1 => ?_)
  · have hc1 : ¬ (inI x0 (nm σ)) := bI_0.mp c1
    refine lv_iconst (v := 1) hx hb dX4_laid_23 (by decide) ?_
    refine lv_goto (tgt := 40) hx hb dX4_laid_24 (by decide) ?_
    obtain ⟨σ1, hσ1⟩ : ∃ y : S3, y = su σ 23 0 0 1 := ⟨_, rfl⟩
    refine xr_put S hw tyX4 tyX4_ok nmX4 (j := 22) (by decide) rfl rfl inX4_laid_X4 (by decide) (hts (.fieldLink RX4 69 "UnionOfficeModel" "thrown" "I") (by decide +kernel)) rfl (tyX4_ok 22 (by decide)) rfl rfl (Nat.le_of_ble_eq_true rfl) dX4_laid_40 (mE cy ad σ1) (by rw [hσ1]; exact mu_thrown _ _ _ _) (fun H locs hw => ?_)
    refine lv_aload_n hx hb dX4_laid_43 rfl (lv_at hl 0 rfl) ?_
    have hth1 : σ1 23 0 0 = 1 := by rw [hσ1]; rfl
    refine xr_get S hw (j := 22) (v := .int 1) (by decide) rfl rfl inX4_laid_X4 (by decide) (hts (.fieldLink RX4 69 "UnionOfficeModel" "thrown" "I") (by decide +kernel)) (congrArg (fun z => some (Value.int z)) hth1) dX4_laid_44 ?_
    refine lv_if_ne (tgt := 64) hx hb dX4_laid_47 (by decide) (fun _ => ?_) (fun h => absurd h (by decide))
    refine lv_iconst (v := 0) hx hb dX4_laid_64 (by decide) ?_
    exact xe_i S.1 S.2.1 hr hlocks hw (Or.inl ⟨fun h => hc1 h.1, rfl, hσ1⟩) (Nat.le_of_ble_eq_true rfl) (Nat.le_of_ble_eq_true rfl) dX4_laid_65
  · have hc1 : inI x0 (nm σ) := bI_1.mp c1
    obtain ⟨i, hi, rfl⟩ := in_ix hc1
    refine lv_iload_n hx hb dX4_laid_9 rfl (lv_at hl 2 rfl) ?_
    refine lv_bipush (v := 60) hx hb dX4_laid_10 (by decide) ?_
    refine lv_icmp_gt (tgt := 23) hx hb dX4_laid_12 (by decide) (fun c3 => ?_) (fun c3 => ?_)
    · refine lv_iconst (v := 1) hx hb dX4_laid_23 (by decide) ?_
      refine lv_goto (tgt := 40) hx hb dX4_laid_24 (by decide) ?_
      obtain ⟨σ2, hσ2⟩ : ∃ y : S3, y = su σ 23 0 0 1 := ⟨_, rfl⟩
      refine xr_put S hw tyX4 tyX4_ok nmX4 (j := 22) (by decide) rfl rfl inX4_laid_X4 (by decide) (hts (.fieldLink RX4 69 "UnionOfficeModel" "thrown" "I") (by decide +kernel)) rfl (tyX4_ok 22 (by decide)) rfl rfl (Nat.le_of_ble_eq_true rfl) dX4_laid_40 (mE cy ad σ2) (by rw [hσ2]; exact mu_thrown _ _ _ _) (fun H locs hw => ?_)
      refine lv_aload_n hx hb dX4_laid_43 rfl (lv_at hl 0 rfl) ?_
      have hth2 : σ2 23 0 0 = 1 := by rw [hσ2]; rfl
      refine xr_get S hw (j := 22) (v := .int 1) (by decide) rfl rfl inX4_laid_X4 (by decide) (hts (.fieldLink RX4 69 "UnionOfficeModel" "thrown" "I") (by decide +kernel)) (congrArg (fun z => some (Value.int z)) hth2) dX4_laid_44 ?_
      refine lv_if_ne (tgt := 64) hx hb dX4_laid_47 (by decide) (fun _ => ?_) (fun h => absurd h (by decide))
      refine lv_iconst (v := 0) hx hb dX4_laid_64 (by decide) ?_
      exact xe_i S.1 S.2.1 hr hlocks hw (Or.inl ⟨fun h => h.2.1 c3, rfl, hσ2⟩) (Nat.le_of_ble_eq_true rfl) (Nat.le_of_ble_eq_true rfl) dX4_laid_65
    · refine lv_aload_n hx hb dX4_laid_15 rfl (lv_at hl 0 rfl) ?_
      refine lv_iload_n hx hb dX4_laid_16 rfl (lv_at hl 2 rfl) ?_
      refine xc_Mi hw (va_runV (As := [.int x1]) (rest := [.ref (ad 0)]) S (c_X4_hasEnded l D cy ad σ x1 _) (cwV 1 S.2.2.2.2 gX4_laid_X4_hasEnded rfl rfl rfl (by decide +kernel) ⟨Nat.le_of_ble_eq_true rfl, Nat.le_of_ble_eq_true rfl⟩) (xc_preV (XOK.tt _ _) hX hw (by decide) rfl rfl rfl) rfl rfl hl.1 rfl (lv_room (Nat.le_of_ble_eq_true rfl)) dX4_laid_17 ⟨Nat.le_of_ble_eq_true rfl, Nat.le_of_ble_eq_true rfl⟩) (fun r9 u H locs hp hw => ?_)
      obtain ⟨hu9, hr9⟩ := hp
      rw [hu9] at hw
      rw [hr9]
      clear hu9 hr9
      refine lv_if_ne (tgt := 27) hx hb dX4_laid_20 (by decide) (fun c5 => ?_) (fun c5 => ?_)
      · have hc5 : ehP σ x1 := bI_1.mp c5
        obtain ⟨m1, hm1, rfl⟩ := eh60 c3 hc5
        refine lv_iload_n hx hb dX4_laid_27 rfl (lv_at hl 2 rfl) ?_
        refine lv_aload_n hx hb dX4_laid_28 rfl (lv_at hl 0 rfl) ?_
        refine xr_get S hw (j := 4) (by decide) rfl rfl inX4_laid_X4 (by decide) (hts (.fieldLink RX4 66 "UnionOfficeModel" "folded" "I") (by decide +kernel)) rfl dX4_laid_29 ?_
        refine lv_icmp_gt (tgt := 39) hx hb dX4_laid_32 (by decide) (fun c6 => ?_) (fun c6 => ?_)
        · refine lv_iconst (v := 0) hx hb dX4_laid_39 (by decide) ?_
          obtain ⟨σ3, hσ3⟩ : ∃ y : S3, y = su σ 23 0 0 0 := ⟨_, rfl⟩
          refine xr_put S hw tyX4 tyX4_ok nmX4 (j := 22) (by decide) rfl rfl inX4_laid_X4 (by decide) (hts (.fieldLink RX4 69 "UnionOfficeModel" "thrown" "I") (by decide +kernel)) rfl (tyX4_ok 22 (by decide)) rfl rfl (Nat.le_of_ble_eq_true rfl) dX4_laid_40 (mE cy ad σ3) (by rw [hσ3]; exact mu_thrown _ _ _ _) (fun H locs hw => ?_)
          refine lv_aload_n hx hb dX4_laid_43 rfl (lv_at hl 0 rfl) ?_
          have hth3 : σ3 23 0 0 = 0 := by rw [hσ3]; rfl
          refine xr_get S hw (j := 22) (v := .int 0) (by decide) rfl rfl inX4_laid_X4 (by decide) (hts (.fieldLink RX4 69 "UnionOfficeModel" "thrown" "I") (by decide +kernel)) (congrArg (fun z => some (Value.int z)) hth3) dX4_laid_44 ?_
          refine lv_if_ne (tgt := 64) hx hb dX4_laid_47 (by decide) (fun h => absurd h (by decide)) (fun _ => ?_)
          refine lv_aload_n hx hb dX4_laid_50 rfl (lv_at hl 0 rfl) ?_
          refine xr_get S hw (j := 13) (by decide) rfl rfl inX4_laid_X4 (by decide) (hts (.fieldLink RX4 35 "UnionOfficeModel" "laidBy" "[I") (by decide +kernel)) rfl dX4_laid_51 ?_
          refine lv_bipush (v := 60) hx hb dX4_laid_54 (by decide) ?_
          refine lv_iload_n hx hb dX4_laid_56 rfl (lv_at hl 1 rfl) ?_
          refine lv_imul hx hb dX4_laid_57 ?_
          refine lv_iload_n hx hb dX4_laid_58 rfl (lv_at hl 2 rfl) ?_
          refine lv_iadd hx hb dX4_laid_59 ?_
          rw [show ((60 * (nI i)) + (nI m1)) = nI (60 * i + m1) from mulN 60 i m1]
          refine xv_iald S hw (t0 := 0) (v := σ3 8 i m1) (by decide) rfl rfl (by omega) (by decide) (fl60 _ (by omega)) dX4_laid_60 ?_
          refine lv_goto (tgt := 65) hx hb dX4_laid_61 (by decide) ?_
          exact xe_i S.1 S.2.1 hr hlocks hw (Or.inr (Or.inr ⟨⟨hc1, c3, hc5⟩, c6, by rw [cl_nI (show i < 2 ^ 31 by omega), cl_nI (show m1 < 2 ^ 31 by omega), hσ3], hσ3⟩)) (Nat.le_of_ble_eq_true rfl) (Nat.le_of_ble_eq_true rfl) dX4_laid_65
        · refine lv_iconst (v := 2) hx hb dX4_laid_35 (by decide) ?_
          refine lv_goto (tgt := 40) hx hb dX4_laid_36 (by decide) ?_
          obtain ⟨σ4, hσ4⟩ : ∃ y : S3, y = su σ 23 0 0 2 := ⟨_, rfl⟩
          refine xr_put S hw tyX4 tyX4_ok nmX4 (j := 22) (by decide) rfl rfl inX4_laid_X4 (by decide) (hts (.fieldLink RX4 69 "UnionOfficeModel" "thrown" "I") (by decide +kernel)) rfl (tyX4_ok 22 (by decide)) rfl rfl (Nat.le_of_ble_eq_true rfl) dX4_laid_40 (mE cy ad σ4) (by rw [hσ4]; exact mu_thrown _ _ _ _) (fun H locs hw => ?_)
          refine lv_aload_n hx hb dX4_laid_43 rfl (lv_at hl 0 rfl) ?_
          have hth4 : σ4 23 0 0 = 2 := by rw [hσ4]; rfl
          refine xr_get S hw (j := 22) (v := .int 2) (by decide) rfl rfl inX4_laid_X4 (by decide) (hts (.fieldLink RX4 69 "UnionOfficeModel" "thrown" "I") (by decide +kernel)) (congrArg (fun z => some (Value.int z)) hth4) dX4_laid_44 ?_
          refine lv_if_ne (tgt := 64) hx hb dX4_laid_47 (by decide) (fun _ => ?_) (fun h => absurd h (by decide))
          refine lv_iconst (v := 0) hx hb dX4_laid_64 (by decide) ?_
          exact xe_i S.1 S.2.1 hr hlocks hw (Or.inr (Or.inl ⟨⟨hc1, c3, hc5⟩, c6, rfl, hσ4⟩)) (Nat.le_of_ble_eq_true rfl) (Nat.le_of_ble_eq_true rfl) dX4_laid_65
      · have hc5 : ¬ (ehP σ x1) := bI_0.mp c5
        refine lv_iconst (v := 1) hx hb dX4_laid_23 (by decide) ?_
        refine lv_goto (tgt := 40) hx hb dX4_laid_24 (by decide) ?_
        obtain ⟨σ5, hσ5⟩ : ∃ y : S3, y = su σ 23 0 0 1 := ⟨_, rfl⟩
        refine xr_put S hw tyX4 tyX4_ok nmX4 (j := 22) (by decide) rfl rfl inX4_laid_X4 (by decide) (hts (.fieldLink RX4 69 "UnionOfficeModel" "thrown" "I") (by decide +kernel)) rfl (tyX4_ok 22 (by decide)) rfl rfl (Nat.le_of_ble_eq_true rfl) dX4_laid_40 (mE cy ad σ5) (by rw [hσ5]; exact mu_thrown _ _ _ _) (fun H locs hw => ?_)
        refine lv_aload_n hx hb dX4_laid_43 rfl (lv_at hl 0 rfl) ?_
        have hth5 : σ5 23 0 0 = 1 := by rw [hσ5]; rfl
        refine xr_get S hw (j := 22) (v := .int 1) (by decide) rfl rfl inX4_laid_X4 (by decide) (hts (.fieldLink RX4 69 "UnionOfficeModel" "thrown" "I") (by decide +kernel)) (congrArg (fun z => some (Value.int z)) hth5) dX4_laid_44 ?_
        refine lv_if_ne (tgt := 64) hx hb dX4_laid_47 (by decide) (fun _ => ?_) (fun h => absurd h (by decide))
        refine lv_iconst (v := 0) hx hb dX4_laid_64 (by decide) ?_
        exact xe_i S.1 S.2.1 hr hlocks hw (Or.inl ⟨fun h => hc5 h.2.2, rfl, hσ5⟩) (Nat.le_of_ble_eq_true rfl) (Nat.le_of_ble_eq_true rfl) dX4_laid_65
abbrev rmX4_laidFor : Room := { frames := 2, cells := 0, slots := 0, locals := 42 }
theorem inX4_laidFor_X4 : (∀ w ∈ wsX40, w ∈ wsX4_laidFor) := by decide +kernel
set_option maxHeartbeats 1000000 in
set_option maxRecDepth 100000 in
/-- laidFor -/
theorem c_X4_laidFor (l : Launch) (D : va_G) (cy : Nat → ClassId) (ad : Nat → Nat) (σ : S3) (x0 x1 : Int32) : MM l yX4_laidFor wsX4_laidFor rmX4_laidFor D cy ad [.ref (ad 0), .int x0, .int x1] σ (xPi (mP1 σ (inI x0 4 ∧ ¬ 60 < x1 ∧ ehP σ x1) (th0 σ 9 x0.toNatClampNeg x1.toNatClampNeg) (th0 σ))) := by
  refine xs_M (cc := cX4_laidFor) (maxL := 3) (ret := (some .int)) (by decide +kernel) rfl (Nat.le_of_ble_eq_true rfl) ?_
  intro p e s m below meth c ls S hr hlocks hnm hw hX hl
  have S : CallFix p m c cX4_laidFor 3 s [.ref (ad 0), .int x0, .int x1].toArray wsX4_laidFor RX4 := S
  have hx := S.1
  have hb := S.2.1
  have hts := S.2.2.2.2
  have hl : lv_has ls 3 [(0, .ref (ad 0)), (1, .int x0), (2, .int x1)] := hl
  have hnm16 := nm_le σ
  have hnw18 := nw_le σ
  refine lv_aload_n hx hb dX4_laidFor_0 rfl (lv_at hl 0 rfl) ?_
  refine lv_iload_n hx hb dX4_laidFor_1 rfl (lv_at hl 1 rfl) ?_
  refine xc_Mi hw (va_runS (As := [.int x0]) (rest := [.ref (ad 0)]) S (c_X4_isBranch l D cy ad σ x0 _) (va_cwS 1 S.2.2.2.2 gX4_laidFor_X4_isBranch rfl rfl rfl (by decide +kernel) ⟨Nat.le_of_ble_eq_true rfl, Nat.le_of_ble_eq_true rfl⟩) (xc_preS (XOK.tt _ _) hX hw _) rfl rfl hl.1 rfl (lv_room (Nat.le_of_ble_eq_true rfl)) dX4_laidFor_2 ⟨Nat.le_of_ble_eq_true rfl, Nat.le_of_ble_eq_true rfl⟩) (fun r9 u H locs hp hw => ?_)
  obtain ⟨hu9, hr9⟩ := hp
  rw [hu9] at hw
  rw [hr9]
  clear hu9 hr9
  refine lv_if_eq (tgt := 22) hx hb dX4_laidFor_5 (by decide) (fun c1 => ?_) (fun c1 => ?_)
  · have hc1 : ¬ (inI x0 4) := bI_0.mp c1
    refine lv_iconst (v := 1) hx hb dX4_laidFor_22 (by decide) ?_
    refine lv_goto (tgt := 27) hx hb dX4_laidFor_23 (by decide) ?_
    obtain ⟨σ1, hσ1⟩ : ∃ y : S3, y = su σ 23 0 0 1 := ⟨_, rfl⟩
    refine xr_put S hw tyX4 tyX4_ok nmX4 (j := 22) (by decide) rfl rfl inX4_laidFor_X4 (by decide) (hts (.fieldLink RX4 69 "UnionOfficeModel" "thrown" "I") (by decide +kernel)) rfl (tyX4_ok 22 (by decide)) rfl rfl (Nat.le_of_ble_eq_true rfl) dX4_laidFor_27 (mE cy ad σ1) (by rw [hσ1]; exact mu_thrown _ _ _ _) (fun H locs hw => ?_)
    refine lv_aload_n hx hb dX4_laidFor_30 rfl (lv_at hl 0 rfl) ?_
    have hth1 : σ1 23 0 0 = 1 := by rw [hσ1]; rfl
    refine xr_get S hw (j := 22) (v := .int 1) (by decide) rfl rfl inX4_laidFor_X4 (by decide) (hts (.fieldLink RX4 69 "UnionOfficeModel" "thrown" "I") (by decide +kernel)) (congrArg (fun z => some (Value.int z)) hth1) dX4_laidFor_31 ?_
    refine lv_if_ne (tgt := 51) hx hb dX4_laidFor_34 (by decide) (fun _ => ?_) (fun h => absurd h (by decide))
    refine lv_iconst (v := 0) hx hb dX4_laidFor_51 (by decide) ?_
    exact xe_i S.1 S.2.1 hr hlocks hw (Or.inl ⟨fun h => hc1 h.1, rfl, hσ1⟩) (Nat.le_of_ble_eq_true rfl) (Nat.le_of_ble_eq_true rfl) dX4_laidFor_52
  · have hc1 : inI x0 4 := bI_1.mp c1
    obtain ⟨b, hbb, rfl⟩ := in_ix hc1
    refine lv_iload_n hx hb dX4_laidFor_8 rfl (lv_at hl 2 rfl) ?_
    refine lv_bipush (v := 60) hx hb dX4_laidFor_9 (by decide) ?_
    refine lv_icmp_gt (tgt := 22) hx hb dX4_laidFor_11 (by decide) (fun c3 => ?_) (fun c3 => ?_)
    · refine lv_iconst (v := 1) hx hb dX4_laidFor_22 (by decide) ?_
      refine lv_goto (tgt := 27) hx hb dX4_laidFor_23 (by decide) ?_
      obtain ⟨σ2, hσ2⟩ : ∃ y : S3, y = su σ 23 0 0 1 := ⟨_, rfl⟩
      refine xr_put S hw tyX4 tyX4_ok nmX4 (j := 22) (by decide) rfl rfl inX4_laidFor_X4 (by decide) (hts (.fieldLink RX4 69 "UnionOfficeModel" "thrown" "I") (by decide +kernel)) rfl (tyX4_ok 22 (by decide)) rfl rfl (Nat.le_of_ble_eq_true rfl) dX4_laidFor_27 (mE cy ad σ2) (by rw [hσ2]; exact mu_thrown _ _ _ _) (fun H locs hw => ?_)
      refine lv_aload_n hx hb dX4_laidFor_30 rfl (lv_at hl 0 rfl) ?_
      have hth2 : σ2 23 0 0 = 1 := by rw [hσ2]; rfl
      refine xr_get S hw (j := 22) (v := .int 1) (by decide) rfl rfl inX4_laidFor_X4 (by decide) (hts (.fieldLink RX4 69 "UnionOfficeModel" "thrown" "I") (by decide +kernel)) (congrArg (fun z => some (Value.int z)) hth2) dX4_laidFor_31 ?_
      refine lv_if_ne (tgt := 51) hx hb dX4_laidFor_34 (by decide) (fun _ => ?_) (fun h => absurd h (by decide))
      refine lv_iconst (v := 0) hx hb dX4_laidFor_51 (by decide) ?_
      exact xe_i S.1 S.2.1 hr hlocks hw (Or.inl ⟨fun h => h.2.1 c3, rfl, hσ2⟩) (Nat.le_of_ble_eq_true rfl) (Nat.le_of_ble_eq_true rfl) dX4_laidFor_52
    · refine lv_aload_n hx hb dX4_laidFor_14 rfl (lv_at hl 0 rfl) ?_
      refine lv_iload_n hx hb dX4_laidFor_15 rfl (lv_at hl 2 rfl) ?_
      refine xc_Mi hw (va_runV (As := [.int x1]) (rest := [.ref (ad 0)]) S (c_X4_hasEnded l D cy ad σ x1 _) (cwV 1 S.2.2.2.2 gX4_laidFor_X4_hasEnded rfl rfl rfl (by decide +kernel) ⟨Nat.le_of_ble_eq_true rfl, Nat.le_of_ble_eq_true rfl⟩) (xc_preV (XOK.tt _ _) hX hw (by decide) rfl rfl rfl) rfl rfl hl.1 rfl (lv_room (Nat.le_of_ble_eq_true rfl)) dX4_laidFor_16 ⟨Nat.le_of_ble_eq_true rfl, Nat.le_of_ble_eq_true rfl⟩) (fun r9 u H locs hp hw => ?_)
      obtain ⟨hu9, hr9⟩ := hp
      rw [hu9] at hw
      rw [hr9]
      clear hu9 hr9
      refine lv_if_ne (tgt := 26) hx hb dX4_laidFor_19 (by decide) (fun c5 => ?_) (fun c5 => ?_)
      · have hc5 : ehP σ x1 := bI_1.mp c5
        obtain ⟨m1, hm1, rfl⟩ := eh60 c3 hc5
        refine lv_iconst (v := 0) hx hb dX4_laidFor_26 (by decide) ?_
        obtain ⟨σ3, hσ3⟩ : ∃ y : S3, y = su σ 23 0 0 0 := ⟨_, rfl⟩
        refine xr_put S hw tyX4 tyX4_ok nmX4 (j := 22) (by decide) rfl rfl inX4_laidFor_X4 (by decide) (hts (.fieldLink RX4 69 "UnionOfficeModel" "thrown" "I") (by decide +kernel)) rfl (tyX4_ok 22 (by decide)) rfl rfl (Nat.le_of_ble_eq_true rfl) dX4_laidFor_27 (mE cy ad σ3) (by rw [hσ3]; exact mu_thrown _ _ _ _) (fun H locs hw => ?_)
        refine lv_aload_n hx hb dX4_laidFor_30 rfl (lv_at hl 0 rfl) ?_
        have hth3 : σ3 23 0 0 = 0 := by rw [hσ3]; rfl
        refine xr_get S hw (j := 22) (v := .int 0) (by decide) rfl rfl inX4_laidFor_X4 (by decide) (hts (.fieldLink RX4 69 "UnionOfficeModel" "thrown" "I") (by decide +kernel)) (congrArg (fun z => some (Value.int z)) hth3) dX4_laidFor_31 ?_
        refine lv_if_ne (tgt := 51) hx hb dX4_laidFor_34 (by decide) (fun h => absurd h (by decide)) (fun _ => ?_)
        refine lv_aload_n hx hb dX4_laidFor_37 rfl (lv_at hl 0 rfl) ?_
        refine xr_get S hw (j := 14) (by decide) rfl rfl inX4_laidFor_X4 (by decide) (hts (.fieldLink RX4 38 "UnionOfficeModel" "laidOf" "[I") (by decide +kernel)) rfl dX4_laidFor_38 ?_
        refine lv_bipush (v := 60) hx hb dX4_laidFor_41 (by decide) ?_
        refine lv_iload_n hx hb dX4_laidFor_43 rfl (lv_at hl 1 rfl) ?_
        refine lv_imul hx hb dX4_laidFor_44 ?_
        refine lv_iload_n hx hb dX4_laidFor_45 rfl (lv_at hl 2 rfl) ?_
        refine lv_iadd hx hb dX4_laidFor_46 ?_
        rw [show ((60 * (nI b)) + (nI m1)) = nI (60 * b + m1) from mulN 60 b m1]
        refine xv_iald S hw (t0 := 0) (v := σ3 9 b m1) (by decide) rfl rfl (by omega) (by decide) (fl60 _ (by omega)) dX4_laidFor_47 ?_
        refine lv_goto (tgt := 52) hx hb dX4_laidFor_48 (by decide) ?_
        exact xe_i S.1 S.2.1 hr hlocks hw (Or.inr ⟨⟨hc1, c3, hc5⟩, by rw [cl_nI (show b < 2 ^ 31 by omega), cl_nI (show m1 < 2 ^ 31 by omega), hσ3], hσ3⟩) (Nat.le_of_ble_eq_true rfl) (Nat.le_of_ble_eq_true rfl) dX4_laidFor_52
      · have hc5 : ¬ (ehP σ x1) := bI_0.mp c5
        refine lv_iconst (v := 1) hx hb dX4_laidFor_22 (by decide) ?_
        refine lv_goto (tgt := 27) hx hb dX4_laidFor_23 (by decide) ?_
        obtain ⟨σ4, hσ4⟩ : ∃ y : S3, y = su σ 23 0 0 1 := ⟨_, rfl⟩
        refine xr_put S hw tyX4 tyX4_ok nmX4 (j := 22) (by decide) rfl rfl inX4_laidFor_X4 (by decide) (hts (.fieldLink RX4 69 "UnionOfficeModel" "thrown" "I") (by decide +kernel)) rfl (tyX4_ok 22 (by decide)) rfl rfl (Nat.le_of_ble_eq_true rfl) dX4_laidFor_27 (mE cy ad σ4) (by rw [hσ4]; exact mu_thrown _ _ _ _) (fun H locs hw => ?_)
        refine lv_aload_n hx hb dX4_laidFor_30 rfl (lv_at hl 0 rfl) ?_
        have hth4 : σ4 23 0 0 = 1 := by rw [hσ4]; rfl
        refine xr_get S hw (j := 22) (v := .int 1) (by decide) rfl rfl inX4_laidFor_X4 (by decide) (hts (.fieldLink RX4 69 "UnionOfficeModel" "thrown" "I") (by decide +kernel)) (congrArg (fun z => some (Value.int z)) hth4) dX4_laidFor_31 ?_
        refine lv_if_ne (tgt := 51) hx hb dX4_laidFor_34 (by decide) (fun _ => ?_) (fun h => absurd h (by decide))
        refine lv_iconst (v := 0) hx hb dX4_laidFor_51 (by decide) ?_
        exact xe_i S.1 S.2.1 hr hlocks hw (Or.inl ⟨fun h => hc5 h.2.2, rfl, hσ4⟩) (Nat.le_of_ble_eq_true rfl) (Nat.le_of_ble_eq_true rfl) dX4_laidFor_52
