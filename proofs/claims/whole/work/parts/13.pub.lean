/-! ===== UnionOffice: the public methods ===== -/
abbrev e1 (E1 : String) (P : Prop) : String → Prop := fun E9 => E9 = E1 ∧ ¬ P
abbrev e2 (E1 E2 : String) (P P2 : Prop) : String → Prop := fun E9 => (E9 = E1 ∧ ¬ P) ∨ (E9 = E2 ∧ P ∧ ¬ P2)
theorem stI_01 (σ : S3) (i : Nat) (d : Int32) : stI σ i d = 0 ∨ stI σ i d = 1 := by
  unfold stI
  split
  · exact Or.inr rfl
  · exact Or.inl rfl
theorem fo_lt (σ : S3) : fo σ < 2 ^ 31 := by
  have h := Int32.toInt_lt (σ 20 0 0)
  unfold fo Int32.toNatClampNeg
  omega
def payF (σ : S3) (i : Nat) (a : Int32) : S3 := su (takeF σ i a).1 19 0 0 (σ 19 0 0 + (takeF σ i a).2)
def edN (σ : S3) (n : Nat) : Nat → S3
  | 0 => σ
  | k + 1 => edF (edN σ n k) n
def flF (σ : S3) (f : Nat) : Nat → Int32
  | 0 => 0
  | k + 1 => flF σ f k + slF σ (f + k) 4
abbrev opP (σ : S3) (b : Nat) : Prop := σ 10 b 0 = 0 ∧ σ 14 b 0 = 0
abbrev voP (σ : S3) (i : Nat) : Prop := ¬ σ 10 (br σ i) 0 = 0 ∧ Stands σ i (σ 18 0 0) ∧ hvI σ (br σ i) i = 0
abbrev skP (σ : S3) (b : Nat) (y : Int32) : Prop := (y = 0 ∧ ¬ σ 14 b 0 = 0) ∨ (¬ y = 0 ∧ ¬ coI σ b = 0)
theorem hv_0 {σ : S3} {b i : Nat} (h : ¬ hvI σ b i = 0) : ¬ (hvI σ b i = 0) := h
abbrev rmX3_setDues : Room := { frames := 7, cells := 2, slots := 12, locals := 107 }
theorem inX3_setDues_X0 : (∀ w ∈ wsX00, w ∈ wsX3_setDues) := by decide +kernel
set_option maxHeartbeats 1000000 in
set_option maxRecDepth 100000 in
/-- setDues -/
theorem c_X3_setDues (l : Launch) (hl9 : l.stackTraces = false) (D : va_G) (cy : Nat → ClassId) (ad : Nat → Nat) (n : Nat) (σ : S3) (x0 x1 : Int32) : CT l yX3_setDues wsX3_setDues rmX3_setDues D cy ad n [.ref (ad 0), .int x0, .int x1] σ (xPi fun r u => inI x0 3 ∧ rgI x1 0 100000 ∧ r = σ 0 x0.toNatClampNeg 0 ∧ u = su σ 0 x0.toNatClampNeg 0 x1) (e2 xIO xIA (inI x0 3) (rgI x1 0 100000)) := by
  refine xs_T (cc := cX3_setDues) (maxL := 5) (ret := (some .int)) (by decide +kernel) rfl (Nat.le_of_ble_eq_true rfl) ?_
  intro p e s m below meth c ls S hr hlocks htb hw hX hl
  have S : CallFix p m c cX3_setDues 5 s [.ref (ad 0), .int x0, .int x1].toArray wsX3_setDues RX3 := S
  have hx := S.1
  have hb := S.2.1
  have hts := S.2.2.2.2
  have htr := hl9
  have hl : lv_has ls 5 [(0, .ref (ad 0)), (1, .int x0), (2, .int x1)] := hl
  refine lv_aload_n hx hb dX3_setDues_0 rfl (lv_at hl 0 rfl) ?_
  refine lv_iload_n hx hb dX3_setDues_1 rfl (lv_at hl 1 rfl) ?_
  refine xc_T htb hlocks hw (vx_runV (As := [.int x0]) (rest := []) S (c_X3_bandAt l htr D cy ad n σ x0 _) (cwV 1 S.2.2.2.2 gX3_setDues_X3_bandAt rfl rfl rfl (by decide +kernel) ⟨Nat.le_of_ble_eq_true rfl, Nat.le_of_ble_eq_true rfl⟩) (xc_preV (cX_ok _ _) hX hw (k_0 n) (cE_0 _ _ _ _) rfl rfl) rfl rfl hl.1 rfl (lv_room (Nat.le_of_ble_eq_true rfl)) dX3_setDues_2 ⟨Nat.le_of_ble_eq_true rfl, Nat.le_of_ble_eq_true rfl⟩) (fun _ he => Or.inl he) (Nat.le_of_ble_eq_true rfl) (Nat.le_of_ble_eq_true rfl) (fun v9 u H locs hp hw => ?_)
  obtain ⟨_, rfl, hu9, hin1, rfl⟩ := hp
  rw [hu9] at hw
  clear hu9
  refine lv_astore_n (lv' := [(3, .ref (ad (4 + x0.toNatClampNeg))), (0, .ref (ad 0)), (1, .int x0), (2, .int x1)]) hx hb dX3_setDues_5 rfl hl (by decide) rfl (fun ls hl => ?_)
  refine lv_aload_n hx hb dX3_setDues_6 rfl (lv_at hl 1 rfl) ?_
  refine lv_iload_n hx hb dX3_setDues_7 rfl (lv_at hl 3 rfl) ?_
  refine lv_iconst (v := 0) hx hb dX3_setDues_8 (by decide) ?_
  refine lv_ldc hx hb S.2.2.2.1 (hts (.constant RX3 51 (100000)) (by decide +kernel)) dX3_setDues_9 ?_
  refine xc_T htb hlocks hw (vx_runV (As := [.int x1, .int 0, .int 100000]) (rest := []) S (c_X3_checkRange l htr D cy ad n σ x1 0 100000 _) (cwV 3 S.2.2.2.2 gX3_setDues_X3_checkRange rfl rfl rfl (by decide +kernel) ⟨Nat.le_of_ble_eq_true rfl, Nat.le_of_ble_eq_true rfl⟩) (xc_preV (cX_ok _ _) hX hw (k_0 n) (cE_0 _ _ _ _) rfl rfl) rfl rfl hl.1 rfl (lv_room (Nat.le_of_ble_eq_true rfl)) dX3_setDues_11 ⟨Nat.le_of_ble_eq_true rfl, Nat.le_of_ble_eq_true rfl⟩) (fun _ he => Or.inr ⟨he.1, hin1, he.2⟩) (Nat.le_of_ble_eq_true rfl) (Nat.le_of_ble_eq_true rfl) (fun v9 u H locs hp hw => ?_)
  obtain ⟨rfl, hu9, hrg1⟩ := hp
  rw [hu9] at hw
  clear hu9
  refine lv_aload_n hx hb dX3_setDues_14 rfl (lv_at hl 0 rfl) ?_
  refine xr_getN S hw (j := 0) (k_band n hin1.2) (cE_band _ _ _ _ hin1.2) rfl inX3_setDues_X0 (by decide) (hX.1.w (w := .fieldLinkNest RX3 56 "UnionOffice$Band" "monthlyDues" "I" "UnionOffice") (by decide +kernel)) rfl dX3_setDues_15 ?_
  refine lv_istore (lv' := [(4, .int (σ 0 x0.toNatClampNeg 0)), (3, .ref (ad (4 + x0.toNatClampNeg))), (0, .ref (ad 0)), (1, .int x0), (2, .int x1)]) hx hb dX3_setDues_18 hl (by decide) rfl (fun ls hl => ?_)
  refine lv_aload_n hx hb dX3_setDues_20 rfl (lv_at hl 1 rfl) ?_
  refine lv_iload_n hx hb dX3_setDues_21 rfl (lv_at hl 4 rfl) ?_
  obtain ⟨σ1, hσ1⟩ : ∃ y : S3, y = su σ 0 x0.toNatClampNeg 0 x1 := ⟨_, rfl⟩
  refine xr_putN S hw tyX0 tyX0_ok nmX0 (j := 0) (k_band n hin1.2) (cE_band _ _ _ _ hin1.2) rfl inX3_setDues_X0 (by decide) (hX.1.w (w := .fieldLinkNest RX3 56 "UnionOffice$Band" "monthlyDues" "I" "UnionOffice") (by decide +kernel)) rfl (tyX0_ok 0 (by decide)) rfl rfl (Nat.le_of_ble_eq_true rfl) dX3_setDues_22 (cE cy ad n σ1) (by rw [hσ1]; exact up_dues _ _ _ _ hin1.2 _) (fun H locs hw => ?_)
  refine lv_iload hx hb dX3_setDues_25 (lv_at hl 0 rfl) ?_
  exact vx_ret (xe_i S.1 S.2.1 hr hlocks hw (⟨hin1, hrg1, rfl, hσ1⟩) (Nat.le_of_ble_eq_true rfl) (Nat.le_of_ble_eq_true rfl) dX3_setDues_27)
abbrev rmX3_setStrikePay : Room := { frames := 7, cells := 1, slots := 6, locals := 107 }
theorem inX3_setStrikePay_X3 : (∀ w ∈ wsX30, w ∈ wsX3_setStrikePay) := by decide +kernel
set_option maxHeartbeats 1000000 in
set_option maxRecDepth 100000 in
/-- setStrikePay -/
theorem c_X3_setStrikePay (l : Launch) (hl9 : l.stackTraces = false) (D : va_G) (cy : Nat → ClassId) (ad : Nat → Nat) (n : Nat) (σ : S3) (x0 : Int32) : CT l yX3_setStrikePay wsX3_setStrikePay rmX3_setStrikePay D cy ad n [.ref (ad 0), .int x0] σ (xPi fun r u => rgI x0 0 100000 ∧ r = σ 17 0 0 ∧ u = su σ 17 0 0 x0) (e1 xIA (rgI x0 0 100000)) := by
  refine xs_T (cc := cX3_setStrikePay) (maxL := 3) (ret := (some .int)) (by decide +kernel) rfl (Nat.le_of_ble_eq_true rfl) ?_
  intro p e s m below meth c ls S hr hlocks htb hw hX hl
  have S : CallFix p m c cX3_setStrikePay 3 s [.ref (ad 0), .int x0].toArray wsX3_setStrikePay RX3 := S
  have hx := S.1
  have hb := S.2.1
  have hts := S.2.2.2.2
  have htr := hl9
  have hl : lv_has ls 3 [(0, .ref (ad 0)), (1, .int x0)] := hl
  refine lv_aload_n hx hb dX3_setStrikePay_0 rfl (lv_at hl 0 rfl) ?_
  refine lv_iload_n hx hb dX3_setStrikePay_1 rfl (lv_at hl 1 rfl) ?_
  refine lv_iconst (v := 0) hx hb dX3_setStrikePay_2 (by decide) ?_
  refine lv_ldc hx hb S.2.2.2.1 (hts (.constant RX3 51 (100000)) (by decide +kernel)) dX3_setStrikePay_3 ?_
  refine xc_T htb hlocks hw (vx_runV (As := [.int x0, .int 0, .int 100000]) (rest := []) S (c_X3_checkRange l htr D cy ad n σ x0 0 100000 _) (cwV 3 S.2.2.2.2 gX3_setStrikePay_X3_checkRange rfl rfl rfl (by decide +kernel) ⟨Nat.le_of_ble_eq_true rfl, Nat.le_of_ble_eq_true rfl⟩) (xc_preV (cX_ok _ _) hX hw (k_0 n) (cE_0 _ _ _ _) rfl rfl) rfl rfl hl.1 rfl (lv_room (Nat.le_of_ble_eq_true rfl)) dX3_setStrikePay_5 ⟨Nat.le_of_ble_eq_true rfl, Nat.le_of_ble_eq_true rfl⟩) (fun _ he => he) (Nat.le_of_ble_eq_true rfl) (Nat.le_of_ble_eq_true rfl) (fun v9 u H locs hp hw => ?_)
  obtain ⟨rfl, hu9, hrg1⟩ := hp
  rw [hu9] at hw
  clear hu9
  refine lv_aload_n hx hb dX3_setStrikePay_8 rfl (lv_at hl 0 rfl) ?_
  refine xr_get S hw (j := 4) (k_0 n) (cE_0 _ _ _ _) rfl inX3_setStrikePay_X3 (by decide) (hts (.fieldLink RX3 35 "UnionOffice" "payOfStrikeDay" "I") (by decide +kernel)) rfl dX3_setStrikePay_9 ?_
  refine lv_istore_n (lv' := [(2, .int (σ 17 0 0)), (0, .ref (ad 0)), (1, .int x0)]) hx hb dX3_setStrikePay_12 rfl hl (by decide) rfl (fun ls hl => ?_)
  refine lv_aload_n hx hb dX3_setStrikePay_13 rfl (lv_at hl 1 rfl) ?_
  refine lv_iload_n hx hb dX3_setStrikePay_14 rfl (lv_at hl 2 rfl) ?_
  obtain ⟨σ1, hσ1⟩ : ∃ y : S3, y = su σ 17 0 0 x0 := ⟨_, rfl⟩
  refine xr_put S hw tyX3 tyX3_ok nmX3 (j := 4) (k_0 n) (cE_0 _ _ _ _) rfl inX3_setStrikePay_X3 (by decide) (hts (.fieldLink RX3 35 "UnionOffice" "payOfStrikeDay" "I") (by decide +kernel)) rfl (tyX3_ok 4 (by decide)) rfl rfl (Nat.le_of_ble_eq_true rfl) dX3_setStrikePay_15 (cE cy ad n σ1) (by rw [hσ1]; exact up_pay _ _ _ _  _) (fun H locs hw => ?_)
  refine lv_iload_n hx hb dX3_setStrikePay_18 rfl (lv_at hl 0 rfl) ?_
  exact vx_ret (xe_i S.1 S.2.1 hr hlocks hw (⟨hrg1, rfl, hσ1⟩) (Nat.le_of_ble_eq_true rfl) (Nat.le_of_ble_eq_true rfl) dX3_setStrikePay_19)
abbrev rmX3_move : Room := { frames := 7, cells := 4, slots := 24, locals := 105 }
theorem inX3_move_X2 : (∀ w ∈ wsX20, w ∈ wsX3_move) := by decide +kernel
set_option maxHeartbeats 1000000 in
set_option maxRecDepth 100000 in
/-- move -/
theorem c_X3_move (l : Launch) (hl9 : l.stackTraces = false) (D : va_G) (cy : Nat → ClassId) (ad : Nat → Nat) (n : Nat) (σ : S3) (hn : n ≤ 16) (x0 x1 x2 : Int32) : CT l yX3_move wsX3_move rmX3_move D cy ad n [.ref (ad 0), .int x0, .int x1, .int x2] σ (xPv fun u => (inI x0 n ∧ inI x1 4 ∧ inI x2 3) ∧ σ 3 x0.toNatClampNeg 0 = 0 ∧ u = su (su σ 1 x0.toNatClampNeg 0 (nI x1.toNatClampNeg)) 2 x0.toNatClampNeg 0 (nI x2.toNatClampNeg)) (e2 xIO xIS (inI x0 n ∧ inI x1 4 ∧ inI x2 3) (σ 3 x0.toNatClampNeg 0 = 0)) := by
  refine xs_T (cc := cX3_move) (maxL := 7) (ret := none) (by decide +kernel) rfl (Nat.le_of_ble_eq_true rfl) ?_
  intro p e s m below meth c ls S hr hlocks htb hw hX hl
  have S : CallFix p m c cX3_move 7 s [.ref (ad 0), .int x0, .int x1, .int x2].toArray wsX3_move RX3 := S
  have hx := S.1
  have hb := S.2.1
  have hts := S.2.2.2.2
  have htr := hl9
  have hl : lv_has ls 7 [(0, .ref (ad 0)), (1, .int x0), (2, .int x1), (3, .int x2)] := hl
  refine lv_aload_n hx hb dX3_move_0 rfl (lv_at hl 0 rfl) ?_
  refine lv_iload_n hx hb dX3_move_1 rfl (lv_at hl 1 rfl) ?_
  refine xc_T htb hlocks hw (vx_runV (As := [.int x0]) (rest := []) S (c_X3_memberAt l htr D cy ad n σ hn x0 _) (cwV 1 S.2.2.2.2 gX3_move_X3_memberAt rfl rfl rfl (by decide +kernel) ⟨Nat.le_of_ble_eq_true rfl, Nat.le_of_ble_eq_true rfl⟩) (xc_preV (cX_ok _ _) hX hw (k_0 n) (cE_0 _ _ _ _) rfl rfl) rfl rfl hl.1 rfl (lv_room (Nat.le_of_ble_eq_true rfl)) dX3_move_2 ⟨Nat.le_of_ble_eq_true rfl, Nat.le_of_ble_eq_true rfl⟩) (fun _ he => Or.inl ⟨he.1, fun h => he.2 h.1⟩) (Nat.le_of_ble_eq_true rfl) (Nat.le_of_ble_eq_true rfl) (fun v9 u H locs hp hw => ?_)
  obtain ⟨_, rfl, hu9, hin1, rfl⟩ := hp
  rw [hu9] at hw
  clear hu9
  refine lv_astore (lv' := [(4, .ref (ad (15 + 3 * x0.toNatClampNeg))), (0, .ref (ad 0)), (1, .int x0), (2, .int x1), (3, .int x2)]) hx hb dX3_move_5 hl (by decide) rfl (fun ls hl => ?_)
  refine lv_aload_n hx hb dX3_move_7 rfl (lv_at hl 1 rfl) ?_
  refine lv_iload_n hx hb dX3_move_8 rfl (lv_at hl 3 rfl) ?_
  refine xc_T htb hlocks hw (vx_runV (As := [.int x1]) (rest := []) S (c_X3_branchAt l htr D cy ad n σ x1 _) (cwV 1 S.2.2.2.2 gX3_move_X3_branchAt rfl rfl rfl (by decide +kernel) ⟨Nat.le_of_ble_eq_true rfl, Nat.le_of_ble_eq_true rfl⟩) (xc_preV (cX_ok _ _) hX hw (k_0 n) (cE_0 _ _ _ _) rfl rfl) rfl rfl hl.1 rfl (lv_room (Nat.le_of_ble_eq_true rfl)) dX3_move_9 ⟨Nat.le_of_ble_eq_true rfl, Nat.le_of_ble_eq_true rfl⟩) (fun _ he => Or.inl ⟨he.1, fun h => he.2 h.2.1⟩) (Nat.le_of_ble_eq_true rfl) (Nat.le_of_ble_eq_true rfl) (fun v9 u H locs hp hw => ?_)
  obtain ⟨_, rfl, hu9, hin2, rfl⟩ := hp
  rw [hu9] at hw
  clear hu9
  refine lv_astore (lv' := [(5, .ref (ad (7 + x1.toNatClampNeg))), (4, .ref (ad (15 + 3 * x0.toNatClampNeg))), (0, .ref (ad 0)), (1, .int x0), (2, .int x1), (3, .int x2)]) hx hb dX3_move_12 hl (by decide) rfl (fun ls hl => ?_)
  refine lv_aload_n hx hb dX3_move_14 rfl (lv_at hl 2 rfl) ?_
  refine lv_iload_n hx hb dX3_move_15 rfl (lv_at hl 5 rfl) ?_
  refine xc_T htb hlocks hw (vx_runV (As := [.int x2]) (rest := []) S (c_X3_bandAt l htr D cy ad n σ x2 _) (cwV 1 S.2.2.2.2 gX3_move_X3_bandAt rfl rfl rfl (by decide +kernel) ⟨Nat.le_of_ble_eq_true rfl, Nat.le_of_ble_eq_true rfl⟩) (xc_preV (cX_ok _ _) hX hw (k_0 n) (cE_0 _ _ _ _) rfl rfl) rfl rfl hl.1 rfl (lv_room (Nat.le_of_ble_eq_true rfl)) dX3_move_16 ⟨Nat.le_of_ble_eq_true rfl, Nat.le_of_ble_eq_true rfl⟩) (fun _ he => Or.inl ⟨he.1, fun h => he.2 h.2.2⟩) (Nat.le_of_ble_eq_true rfl) (Nat.le_of_ble_eq_true rfl) (fun v9 u H locs hp hw => ?_)
  obtain ⟨_, rfl, hu9, hin3, rfl⟩ := hp
  rw [hu9] at hw
  clear hu9
  refine lv_astore (lv' := [(6, .ref (ad (4 + x2.toNatClampNeg))), (5, .ref (ad (7 + x1.toNatClampNeg))), (4, .ref (ad (15 + 3 * x0.toNatClampNeg))), (0, .ref (ad 0)), (1, .int x0), (2, .int x1), (3, .int x2)]) hx hb dX3_move_19 hl (by decide) rfl (fun ls hl => ?_)
  refine lv_aload_n hx hb dX3_move_21 rfl (lv_at hl 3 rfl) ?_
  refine lv_aload hx hb dX3_move_22 (lv_at hl 2 rfl) ?_
  refine xc_T htb hlocks hw (vx_runV (As := [.ref (ad (15 + 3 * x0.toNatClampNeg))]) (rest := []) S (c_X3_checkNotLeft l htr D cy ad n σ x0.toNatClampNeg hin1.2 _) (cwV 1 S.2.2.2.2 gX3_move_X3_checkNotLeft rfl rfl rfl (by decide +kernel) ⟨Nat.le_of_ble_eq_true rfl, Nat.le_of_ble_eq_true rfl⟩) (xc_preV (cX_ok _ _) hX hw (k_0 n) (cE_0 _ _ _ _) rfl rfl) rfl rfl hl.1 rfl (lv_room (Nat.le_of_ble_eq_true rfl)) dX3_move_24 ⟨Nat.le_of_ble_eq_true rfl, Nat.le_of_ble_eq_true rfl⟩) (fun _ he => Or.inr ⟨he.1, ⟨hin1, hin2, hin3⟩, he.2⟩) (Nat.le_of_ble_eq_true rfl) (Nat.le_of_ble_eq_true rfl) (fun v9 u H locs hp hw => ?_)
  obtain ⟨rfl, hu9, hnl1⟩ := hp
  rw [hu9] at hw
  clear hu9
  refine lv_aload hx hb dX3_move_27 (lv_at hl 2 rfl) ?_
  refine lv_aload hx hb dX3_move_29 (lv_at hl 1 rfl) ?_
  obtain ⟨σ1, hσ1⟩ : ∃ y : S3, y = su σ 1 x0.toNatClampNeg 0 (nI x1.toNatClampNeg) := ⟨_, rfl⟩
  refine xr_putN S hw tyX2 tyX2_ok nmX2 (j := 3) (k_m hin1.2) (cE_m _ _ _ _ _) rfl inX3_move_X2 (by decide) (hX.1.w (w := .fieldLinkNest RX3 81 "UnionOffice$Member" "branch" "LUnionOffice$Branch;" "UnionOffice") (by decide +kernel)) rfl (tyX2_ok 3 (by decide)) rfl rfl (Nat.le_of_ble_eq_true rfl) dX3_move_31 (cE cy ad n σ1) (by rw [hσ1]; exact up_mbr _ _ _ _ x0.toNatClampNeg hin2.2) (fun H locs hw => ?_)
  refine lv_aload hx hb dX3_move_34 (lv_at hl 2 rfl) ?_
  refine lv_aload hx hb dX3_move_36 (lv_at hl 0 rfl) ?_
  obtain ⟨σ2, hσ2⟩ : ∃ y : S3, y = su σ1 2 x0.toNatClampNeg 0 (nI x2.toNatClampNeg) := ⟨_, rfl⟩
  refine xr_putN S hw tyX2 tyX2_ok nmX2 (j := 4) (k_m hin1.2) (cE_m _ _ _ _ _) rfl inX3_move_X2 (by decide) (hX.1.w (w := .fieldLinkNest RX3 85 "UnionOffice$Member" "band" "LUnionOffice$Band;" "UnionOffice") (by decide +kernel)) rfl (tyX2_ok 4 (by decide)) rfl rfl (Nat.le_of_ble_eq_true rfl) dX3_move_38 (cE cy ad n σ2) (by rw [hσ2]; exact up_mbd _ _ _ _ x0.toNatClampNeg hin3.2) (fun H locs hw => ?_)
  exact vx_ret (xe_v S.1 S.2.1 hr hlocks hw (⟨⟨hin1, hin2, hin3⟩, hnl1, by rw [hσ2, hσ1]⟩) (Nat.le_of_ble_eq_true rfl) (Nat.le_of_ble_eq_true rfl) dX3_move_41)
abbrev rmX3_leave : Room := { frames := 7, cells := 2, slots := 12, locals := 105 }
theorem inX3_leave_X2 : (∀ w ∈ wsX20, w ∈ wsX3_leave) := by decide +kernel
set_option maxHeartbeats 1000000 in
set_option maxRecDepth 100000 in
/-- leave -/
theorem c_X3_leave (l : Launch) (hl9 : l.stackTraces = false) (D : va_G) (cy : Nat → ClassId) (ad : Nat → Nat) (n : Nat) (σ : S3) (hn : n ≤ 16) (h4 : ∀ i, i < n → σ 4 i 0 = 0 ∨ σ 4 i 0 = 1) (x0 x1 : Int32) (hz1 : x1 = 0 ∨ x1 = 1) : CT l yX3_leave wsX3_leave rmX3_leave D cy ad n [.ref (ad 0), .int x0, .int x1] σ (xPi fun r u => inI x0 n ∧ σ 3 x0.toNatClampNeg 0 = 0 ∧ r = σ 4 x0.toNatClampNeg 0 ∧ u = su σ 4 x0.toNatClampNeg 0 x1) (e2 xIO xIS (inI x0 n) (σ 3 x0.toNatClampNeg 0 = 0)) := by
  refine xs_T (cc := cX3_leave) (maxL := 5) (ret := (some .boolean)) (by decide +kernel) rfl (Nat.le_of_ble_eq_true rfl) ?_
  intro p e s m below meth c ls S hr hlocks htb hw hX hl
  have S : CallFix p m c cX3_leave 5 s [.ref (ad 0), .int x0, .int x1].toArray wsX3_leave RX3 := S
  have hx := S.1
  have hb := S.2.1
  have hts := S.2.2.2.2
  have htr := hl9
  have hl : lv_has ls 5 [(0, .ref (ad 0)), (1, .int x0), (2, .int x1)] := hl
  refine lv_aload_n hx hb dX3_leave_0 rfl (lv_at hl 0 rfl) ?_
  refine lv_iload_n hx hb dX3_leave_1 rfl (lv_at hl 1 rfl) ?_
  refine xc_T htb hlocks hw (vx_runV (As := [.int x0]) (rest := []) S (c_X3_memberAt l htr D cy ad n σ hn x0 _) (cwV 1 S.2.2.2.2 gX3_leave_X3_memberAt rfl rfl rfl (by decide +kernel) ⟨Nat.le_of_ble_eq_true rfl, Nat.le_of_ble_eq_true rfl⟩) (xc_preV (cX_ok _ _) hX hw (k_0 n) (cE_0 _ _ _ _) rfl rfl) rfl rfl hl.1 rfl (lv_room (Nat.le_of_ble_eq_true rfl)) dX3_leave_2 ⟨Nat.le_of_ble_eq_true rfl, Nat.le_of_ble_eq_true rfl⟩) (fun _ he => Or.inl he) (Nat.le_of_ble_eq_true rfl) (Nat.le_of_ble_eq_true rfl) (fun v9 u H locs hp hw => ?_)
  obtain ⟨_, rfl, hu9, hin1, rfl⟩ := hp
  rw [hu9] at hw
  clear hu9
  refine lv_astore_n (lv' := [(3, .ref (ad (15 + 3 * x0.toNatClampNeg))), (0, .ref (ad 0)), (1, .int x0), (2, .int x1)]) hx hb dX3_leave_5 rfl hl (by decide) rfl (fun ls hl => ?_)
  refine lv_aload_n hx hb dX3_leave_6 rfl (lv_at hl 1 rfl) ?_
  refine lv_aload_n hx hb dX3_leave_7 rfl (lv_at hl 0 rfl) ?_
  refine xc_T htb hlocks hw (vx_runV (As := [.ref (ad (15 + 3 * x0.toNatClampNeg))]) (rest := []) S (c_X3_checkNotLeft l htr D cy ad n σ x0.toNatClampNeg hin1.2 _) (cwV 1 S.2.2.2.2 gX3_leave_X3_checkNotLeft rfl rfl rfl (by decide +kernel) ⟨Nat.le_of_ble_eq_true rfl, Nat.le_of_ble_eq_true rfl⟩) (xc_preV (cX_ok _ _) hX hw (k_0 n) (cE_0 _ _ _ _) rfl rfl) rfl rfl hl.1 rfl (lv_room (Nat.le_of_ble_eq_true rfl)) dX3_leave_8 ⟨Nat.le_of_ble_eq_true rfl, Nat.le_of_ble_eq_true rfl⟩) (fun _ he => Or.inr ⟨he.1, hin1, he.2⟩) (Nat.le_of_ble_eq_true rfl) (Nat.le_of_ble_eq_true rfl) (fun v9 u H locs hp hw => ?_)
  obtain ⟨rfl, hu9, hnl1⟩ := hp
  rw [hu9] at hw
  clear hu9
  refine lv_aload_n hx hb dX3_leave_11 rfl (lv_at hl 0 rfl) ?_
  refine xr_getN S hw (j := 5) (k_m hin1.2) (cE_m _ _ _ _ _) rfl inX3_leave_X2 (by decide) (hX.1.w (w := .fieldLinkNest RX3 89 "UnionOffice$Member" "isOnLeave" "Z" "UnionOffice") (by decide +kernel)) rfl dX3_leave_12 ?_
  refine lv_istore (lv' := [(4, .int (σ 4 x0.toNatClampNeg 0)), (3, .ref (ad (15 + 3 * x0.toNatClampNeg))), (0, .ref (ad 0)), (1, .int x0), (2, .int x1)]) hx hb dX3_leave_15 hl (by decide) rfl (fun ls hl => ?_)
  refine lv_aload_n hx hb dX3_leave_17 rfl (lv_at hl 1 rfl) ?_
  refine lv_iload_n hx hb dX3_leave_18 rfl (lv_at hl 4 rfl) ?_
  obtain ⟨σ1, hσ1⟩ : ∃ y : S3, y = su σ 4 x0.toNatClampNeg 0 x1 := ⟨_, rfl⟩
  refine xr_putN S hw tyX2 tyX2_ok nmX2 (j := 5) (k_m hin1.2) (cE_m _ _ _ _ _) rfl inX3_leave_X2 (by decide) (hX.1.w (w := .fieldLinkNest RX3 89 "UnionOffice$Member" "isOnLeave" "Z" "UnionOffice") (by decide +kernel)) rfl (tyX2_ok 5 (by decide)) (nar_z hz1) (fit_z hz1) (Nat.le_of_ble_eq_true rfl) dX3_leave_19 (cE cy ad n σ1) (by rw [hσ1]; exact up_away _ _ _ _ x0.toNatClampNeg _) (fun H locs hw => ?_)
  refine lv_iload hx hb dX3_leave_22 (lv_at hl 0 rfl) ?_
  exact vx_ret (xe_z S.1 S.2.1 hr (h4 _ hin1.2) hlocks hw (⟨hin1, hnl1, rfl, hσ1⟩) (Nat.le_of_ble_eq_true rfl) (Nat.le_of_ble_eq_true rfl) dX3_leave_24)
abbrev rmX3_quit : Room := { frames := 7, cells := 2, slots := 12, locals := 105 }
theorem inX3_quit_X2 : (∀ w ∈ wsX20, w ∈ wsX3_quit) := by decide +kernel
set_option maxHeartbeats 1000000 in
set_option maxRecDepth 100000 in
/-- quit -/
theorem c_X3_quit (l : Launch) (hl9 : l.stackTraces = false) (D : va_G) (cy : Nat → ClassId) (ad : Nat → Nat) (n : Nat) (σ : S3) (hn : n ≤ 16) (x0 : Int32) : CT l yX3_quit wsX3_quit rmX3_quit D cy ad n [.ref (ad 0), .int x0] σ (xPi fun r u => inI x0 n ∧ σ 3 x0.toNatClampNeg 0 = 0 ∧ r = sOwed (su σ 3 x0.toNatClampNeg 0 1) x0.toNatClampNeg ∧ u = su σ 3 x0.toNatClampNeg 0 1) (e2 xIO xIS (inI x0 n) (σ 3 x0.toNatClampNeg 0 = 0)) := by
  refine xs_T (cc := cX3_quit) (maxL := 3) (ret := (some .int)) (by decide +kernel) rfl (Nat.le_of_ble_eq_true rfl) ?_
  intro p e s m below meth c ls S hr hlocks htb hw hX hl
  have S : CallFix p m c cX3_quit 3 s [.ref (ad 0), .int x0].toArray wsX3_quit RX3 := S
  have hx := S.1
  have hb := S.2.1
  have hts := S.2.2.2.2
  have htr := hl9
  have hl : lv_has ls 3 [(0, .ref (ad 0)), (1, .int x0)] := hl
  refine lv_aload_n hx hb dX3_quit_0 rfl (lv_at hl 0 rfl) ?_
  refine lv_iload_n hx hb dX3_quit_1 rfl (lv_at hl 1 rfl) ?_
  refine xc_T htb hlocks hw (vx_runV (As := [.int x0]) (rest := []) S (c_X3_memberAt l htr D cy ad n σ hn x0 _) (cwV 1 S.2.2.2.2 gX3_quit_X3_memberAt rfl rfl rfl (by decide +kernel) ⟨Nat.le_of_ble_eq_true rfl, Nat.le_of_ble_eq_true rfl⟩) (xc_preV (cX_ok _ _) hX hw (k_0 n) (cE_0 _ _ _ _) rfl rfl) rfl rfl hl.1 rfl (lv_room (Nat.le_of_ble_eq_true rfl)) dX3_quit_2 ⟨Nat.le_of_ble_eq_true rfl, Nat.le_of_ble_eq_true rfl⟩) (fun _ he => Or.inl he) (Nat.le_of_ble_eq_true rfl) (Nat.le_of_ble_eq_true rfl) (fun v9 u H locs hp hw => ?_)
  obtain ⟨_, rfl, hu9, hin1, rfl⟩ := hp
  rw [hu9] at hw
  clear hu9
  refine lv_astore_n (lv' := [(2, .ref (ad (15 + 3 * x0.toNatClampNeg))), (0, .ref (ad 0)), (1, .int x0)]) hx hb dX3_quit_5 rfl hl (by decide) rfl (fun ls hl => ?_)
  refine lv_aload_n hx hb dX3_quit_6 rfl (lv_at hl 1 rfl) ?_
  refine lv_aload_n hx hb dX3_quit_7 rfl (lv_at hl 0 rfl) ?_
  refine xc_T htb hlocks hw (vx_runV (As := [.ref (ad (15 + 3 * x0.toNatClampNeg))]) (rest := []) S (c_X3_checkNotLeft l htr D cy ad n σ x0.toNatClampNeg hin1.2 _) (cwV 1 S.2.2.2.2 gX3_quit_X3_checkNotLeft rfl rfl rfl (by decide +kernel) ⟨Nat.le_of_ble_eq_true rfl, Nat.le_of_ble_eq_true rfl⟩) (xc_preV (cX_ok _ _) hX hw (k_0 n) (cE_0 _ _ _ _) rfl rfl) rfl rfl hl.1 rfl (lv_room (Nat.le_of_ble_eq_true rfl)) dX3_quit_8 ⟨Nat.le_of_ble_eq_true rfl, Nat.le_of_ble_eq_true rfl⟩) (fun _ he => Or.inr ⟨he.1, hin1, he.2⟩) (Nat.le_of_ble_eq_true rfl) (Nat.le_of_ble_eq_true rfl) (fun v9 u H locs hp hw => ?_)
  obtain ⟨rfl, hu9, hnl1⟩ := hp
  rw [hu9] at hw
  clear hu9
  refine lv_aload_n hx hb dX3_quit_11 rfl (lv_at hl 0 rfl) ?_
  refine lv_iconst (v := 1) hx hb dX3_quit_12 (by decide) ?_
  obtain ⟨σ1, hσ1⟩ : ∃ y : S3, y = su σ 3 x0.toNatClampNeg 0 1 := ⟨_, rfl⟩
  refine xr_putN S hw tyX2 tyX2_ok nmX2 (j := 6) (k_m hin1.2) (cE_m _ _ _ _ _) rfl inX3_quit_X2 (by decide) (hX.1.w (w := .fieldLinkNest RX3 93 "UnionOffice$Member" "hasLeft" "Z" "UnionOffice") (by decide +kernel)) rfl (tyX2_ok 6 (by decide)) (nar_z (Or.inr rfl)) (fit_z (Or.inr rfl)) (Nat.le_of_ble_eq_true rfl) dX3_quit_13 (cE cy ad n σ1) (by rw [hσ1]; exact up_left _ _ _ _ x0.toNatClampNeg _) (fun H locs hw => ?_)
  refine lv_aload_n hx hb dX3_quit_16 rfl (lv_at hl 0 rfl) ?_
  refine xc_Mi hw (va_runVN (As := []) (rest := []) S (c_X2_sumOwed l D cy ad n σ1 x0.toNatClampNeg hin1.2 _) ⟨va_cnB 0 S.2.2.2.2 gX3_quit_X2_sumOwed_n96 rfl rfl rfl (hX.1.w (w := .methodLinkNest RX3 96 yX2_sumOwed "UnionOffice") (by decide +kernel)) (hts (.initialized RX2) (by decide +kernel)) (by decide +kernel) ⟨Nat.le_of_ble_eq_true rfl, Nat.le_of_ble_eq_true rfl⟩, hts (.instanceMethod yX2_sumOwed) (by decide +kernel), hts (.selects RX2 yX2_sumOwed yX2_sumOwed) (by decide +kernel)⟩ (xc_preV (cX_ok _ _) hX hw (k_m hin1.2) (cE_m _ _ _ _ _) rfl rfl) rfl rfl hl.1 rfl (lv_room (Nat.le_of_ble_eq_true rfl)) dX3_quit_17 ⟨Nat.le_of_ble_eq_true rfl, Nat.le_of_ble_eq_true rfl⟩) (fun r9 u H locs hp hw => ?_)
  obtain ⟨hu9, rfl⟩ := hp
  rw [hu9] at hw
  clear hu9
  exact vx_ret (xe_i S.1 S.2.1 hr hlocks hw (⟨hin1, hnl1, by rw [hσ1], hσ1⟩) (Nat.le_of_ble_eq_true rfl) (Nat.le_of_ble_eq_true rfl) dX3_quit_20)
abbrev rmX3_pay : Room := { frames := 7, cells := 2, slots := 12, locals := 107 }
theorem inX3_pay_X3 : (∀ w ∈ wsX30, w ∈ wsX3_pay) := by decide +kernel
set_option maxHeartbeats 1000000 in
set_option maxRecDepth 100000 in
/-- pay -/
theorem c_X3_pay (l : Launch) (hl9 : l.stackTraces = false) (D : va_G) (cy : Nat → ClassId) (ad : Nat → Nat) (n : Nat) (σ : S3) (hn : n ≤ 16) (x0 x1 : Int32) : CT l yX3_pay wsX3_pay rmX3_pay D cy ad n [.ref (ad 0), .int x0, .int x1] σ (xPi fun r u => inI x0 n ∧ rgI x1 1 1000000 ∧ r = sOwed (payF σ x0.toNatClampNeg x1) x0.toNatClampNeg ∧ u = payF σ x0.toNatClampNeg x1) (e2 xIO xIA (inI x0 n) (rgI x1 1 1000000)) := by
  refine xs_T (cc := cX3_pay) (maxL := 4) (ret := (some .int)) (by decide +kernel) rfl (Nat.le_of_ble_eq_true rfl) ?_
  intro p e s m below meth c ls S hr hlocks htb hw hX hl
  have S : CallFix p m c cX3_pay 4 s [.ref (ad 0), .int x0, .int x1].toArray wsX3_pay RX3 := S
  have hx := S.1
  have hb := S.2.1
  have hts := S.2.2.2.2
  have htr := hl9
  have hl : lv_has ls 4 [(0, .ref (ad 0)), (1, .int x0), (2, .int x1)] := hl
  refine lv_aload_n hx hb dX3_pay_0 rfl (lv_at hl 0 rfl) ?_
  refine lv_iload_n hx hb dX3_pay_1 rfl (lv_at hl 1 rfl) ?_
  refine xc_T htb hlocks hw (vx_runV (As := [.int x0]) (rest := []) S (c_X3_memberAt l htr D cy ad n σ hn x0 _) (cwV 1 S.2.2.2.2 gX3_pay_X3_memberAt rfl rfl rfl (by decide +kernel) ⟨Nat.le_of_ble_eq_true rfl, Nat.le_of_ble_eq_true rfl⟩) (xc_preV (cX_ok _ _) hX hw (k_0 n) (cE_0 _ _ _ _) rfl rfl) rfl rfl hl.1 rfl (lv_room (Nat.le_of_ble_eq_true rfl)) dX3_pay_2 ⟨Nat.le_of_ble_eq_true rfl, Nat.le_of_ble_eq_true rfl⟩) (fun _ he => Or.inl he) (Nat.le_of_ble_eq_true rfl) (Nat.le_of_ble_eq_true rfl) (fun v9 u H locs hp hw => ?_)
  obtain ⟨_, rfl, hu9, hin1, rfl⟩ := hp
  rw [hu9] at hw
  clear hu9
  refine lv_astore_n (lv' := [(3, .ref (ad (15 + 3 * x0.toNatClampNeg))), (0, .ref (ad 0)), (1, .int x0), (2, .int x1)]) hx hb dX3_pay_5 rfl hl (by decide) rfl (fun ls hl => ?_)
  refine lv_aload_n hx hb dX3_pay_6 rfl (lv_at hl 1 rfl) ?_
  refine lv_iload_n hx hb dX3_pay_7 rfl (lv_at hl 3 rfl) ?_
  refine lv_iconst (v := 1) hx hb dX3_pay_8 (by decide) ?_
  refine lv_ldc hx hb S.2.2.2.1 (hts (.constant RX3 100 (1000000)) (by decide +kernel)) dX3_pay_9 ?_
  refine xc_T htb hlocks hw (vx_runV (As := [.int x1, .int 1, .int 1000000]) (rest := []) S (c_X3_checkRange l htr D cy ad n σ x1 1 1000000 _) (cwV 3 S.2.2.2.2 gX3_pay_X3_checkRange rfl rfl rfl (by decide +kernel) ⟨Nat.le_of_ble_eq_true rfl, Nat.le_of_ble_eq_true rfl⟩) (xc_preV (cX_ok _ _) hX hw (k_0 n) (cE_0 _ _ _ _) rfl rfl) rfl rfl hl.1 rfl (lv_room (Nat.le_of_ble_eq_true rfl)) dX3_pay_11 ⟨Nat.le_of_ble_eq_true rfl, Nat.le_of_ble_eq_true rfl⟩) (fun _ he => Or.inr ⟨he.1, hin1, he.2⟩) (Nat.le_of_ble_eq_true rfl) (Nat.le_of_ble_eq_true rfl) (fun v9 u H locs hp hw => ?_)
  obtain ⟨rfl, hu9, hrg1⟩ := hp
  rw [hu9] at hw
  clear hu9
  refine lv_aload_n hx hb dX3_pay_14 rfl (lv_at hl 1 rfl) ?_
  refine lv_dup hx hb dX3_pay_15 rfl ?_
  refine xr_get S hw (j := 6) (k_0 n) (cE_0 _ _ _ _) rfl inX3_pay_X3 (by decide) (hts (.fieldLink RX3 41 "UnionOffice" "inFund" "I") (by decide +kernel)) rfl dX3_pay_16 ?_
  refine lv_aload_n hx hb dX3_pay_19 rfl (lv_at hl 0 rfl) ?_
  refine lv_iload_n hx hb dX3_pay_20 rfl (lv_at hl 3 rfl) ?_
  refine xc_Mi hw (va_runVN (As := [.int x1]) (rest := [.int (σ 19 0 0), .ref (ad 0)]) S (c_X2_takeIn l D cy ad n σ x0.toNatClampNeg hin1.2 x1 _) ⟨va_cnB 1 S.2.2.2.2 gX3_pay_X2_takeIn_n101 rfl rfl rfl (hX.1.w (w := .methodLinkNest RX3 101 yX2_takeIn "UnionOffice") (by decide +kernel)) (hts (.initialized RX2) (by decide +kernel)) (by decide +kernel) ⟨Nat.le_of_ble_eq_true rfl, Nat.le_of_ble_eq_true rfl⟩, hts (.instanceMethod yX2_takeIn) (by decide +kernel), hts (.selects RX2 yX2_takeIn yX2_takeIn) (by decide +kernel)⟩ (xc_preV (cX_ok _ _) hX hw (k_m hin1.2) (cE_m _ _ _ _ _) rfl rfl) rfl rfl hl.1 rfl (lv_room (Nat.le_of_ble_eq_true rfl)) dX3_pay_21 ⟨Nat.le_of_ble_eq_true rfl, Nat.le_of_ble_eq_true rfl⟩) (fun r9 u H locs hp hw => ?_)
  obtain ⟨rfl, rfl⟩ := hp
  refine lv_iadd hx hb dX3_pay_24 ?_
  obtain ⟨σ1, hσ1⟩ : ∃ y : S3, y = su ((takeF σ x0.toNatClampNeg x1).1) 19 0 0 ((σ 19 0 0) + ((takeF σ x0.toNatClampNeg x1).2)) := ⟨_, rfl⟩
  refine xr_put S hw tyX3 tyX3_ok nmX3 (j := 6) (k_0 n) (cE_0 _ _ _ _) rfl inX3_pay_X3 (by decide) (hts (.fieldLink RX3 41 "UnionOffice" "inFund" "I") (by decide +kernel)) rfl (tyX3_ok 6 (by decide)) rfl rfl (Nat.le_of_ble_eq_true rfl) dX3_pay_25 (cE cy ad n σ1) (by rw [hσ1]; exact up_fund _ _ _ _  _) (fun H locs hw => ?_)
  refine lv_aload_n hx hb dX3_pay_28 rfl (lv_at hl 0 rfl) ?_
  refine xc_Mi hw (va_runVN (As := []) (rest := []) S (c_X2_sumOwed l D cy ad n σ1 x0.toNatClampNeg hin1.2 _) ⟨va_cnB 0 S.2.2.2.2 gX3_pay_X2_sumOwed_n96 rfl rfl rfl (hX.1.w (w := .methodLinkNest RX3 96 yX2_sumOwed "UnionOffice") (by decide +kernel)) (hts (.initialized RX2) (by decide +kernel)) (by decide +kernel) ⟨Nat.le_of_ble_eq_true rfl, Nat.le_of_ble_eq_true rfl⟩, hts (.instanceMethod yX2_sumOwed) (by decide +kernel), hts (.selects RX2 yX2_sumOwed yX2_sumOwed) (by decide +kernel)⟩ (xc_preV (cX_ok _ _) hX hw (k_m hin1.2) (cE_m _ _ _ _ _) rfl rfl) rfl rfl hl.1 rfl (lv_room (Nat.le_of_ble_eq_true rfl)) dX3_pay_29 ⟨Nat.le_of_ble_eq_true rfl, Nat.le_of_ble_eq_true rfl⟩) (fun r9 u H locs hp hw => ?_)
  obtain ⟨hu9, rfl⟩ := hp
  rw [hu9] at hw
  clear hu9
  exact vx_ret (xe_i S.1 S.2.1 hr hlocks hw (⟨hin1, hrg1, by rw [hσ1]; rfl, hσ1⟩) (Nat.le_of_ble_eq_true rfl) (Nat.le_of_ble_eq_true rfl) dX3_pay_32)
abbrev rmX3_open : Room := { frames := 7, cells := 2, slots := 12, locals := 105 }
theorem inX3_open_X1 : (∀ w ∈ wsX10, w ∈ wsX3_open) := by decide +kernel
theorem inX3_open_xIS : (∀ w ∈ (vx_atS RX3 67 xIS nm2).filter goodWord, w ∈ wsX3_open) := by
  intro w h
  first | exact List.mem_cons_of_mem _ (List.mem_append_right _ h) | exact List.mem_cons_of_mem _ (List.mem_append_left _ (List.mem_append_right _ h)) | exact List.mem_cons_of_mem _ (List.mem_append_left _ (List.mem_append_left _ (List.mem_append_right _ h)))
theorem inX3_open_xIS1 : Cond.classLink RX3 63 xIS ∈ wsX3_open ∧ Cond.initialized xIS ∈ wsX3_open := ⟨by decide +kernel, by decide +kernel⟩
set_option maxHeartbeats 1000000 in
set_option maxRecDepth 100000 in
/-- open -/
theorem c_X3_open (l : Launch) (hl9 : l.stackTraces = false) (D : va_G) (cy : Nat → ClassId) (ad : Nat → Nat) (n : Nat) (σ : S3) (x0 : Int32) : CT l yX3_open wsX3_open rmX3_open D cy ad n [.ref (ad 0), .int x0] σ (xPi fun r u => inI x0 4 ∧ opP σ x0.toNatClampNeg ∧ r = cntF (bgF σ x0.toNatClampNeg) n x0.toNatClampNeg ((bgF σ x0.toNatClampNeg) 18 0 0) 16 ∧ u = bgF σ x0.toNatClampNeg) (e2 xIO xIS (inI x0 4) (opP σ x0.toNatClampNeg)) := by
  refine xs_T (cc := cX3_open) (maxL := 3) (ret := (some .int)) (by decide +kernel) rfl (Nat.le_of_ble_eq_true rfl) ?_
  intro p e s m below meth c ls S hr hlocks htb hw hX hl
  have S : CallFix p m c cX3_open 3 s [.ref (ad 0), .int x0].toArray wsX3_open RX3 := S
  have hx := S.1
  have hb := S.2.1
  have hts := S.2.2.2.2
  have htr := hl9
  have hl : lv_has ls 3 [(0, .ref (ad 0)), (1, .int x0)] := hl
  refine lv_aload_n hx hb dX3_open_0 rfl (lv_at hl 0 rfl) ?_
  refine lv_iload_n hx hb dX3_open_1 rfl (lv_at hl 1 rfl) ?_
  refine xc_T htb hlocks hw (vx_runV (As := [.int x0]) (rest := []) S (c_X3_branchAt l htr D cy ad n σ x0 _) (cwV 1 S.2.2.2.2 gX3_open_X3_branchAt rfl rfl rfl (by decide +kernel) ⟨Nat.le_of_ble_eq_true rfl, Nat.le_of_ble_eq_true rfl⟩) (xc_preV (cX_ok _ _) hX hw (k_0 n) (cE_0 _ _ _ _) rfl rfl) rfl rfl hl.1 rfl (lv_room (Nat.le_of_ble_eq_true rfl)) dX3_open_2 ⟨Nat.le_of_ble_eq_true rfl, Nat.le_of_ble_eq_true rfl⟩) (fun _ he => Or.inl he) (Nat.le_of_ble_eq_true rfl) (Nat.le_of_ble_eq_true rfl) (fun v9 u H locs hp hw => ?_)
  obtain ⟨_, rfl, hu9, hin1, rfl⟩ := hp
  rw [hu9] at hw
  clear hu9
  refine lv_astore_n (lv' := [(2, .ref (ad (7 + x0.toNatClampNeg))), (0, .ref (ad 0)), (1, .int x0)]) hx hb dX3_open_5 rfl hl (by decide) rfl (fun ls hl => ?_)
  refine lv_aload_n hx hb dX3_open_6 rfl (lv_at hl 0 rfl) ?_
  refine xr_getN S hw (j := 1) (k_br n hin1.2) (cE_br _ _ _ _ hin1.2) rfl inX3_open_X1 (by decide) (hX.1.w (w := .fieldLinkNest RX3 105 "UnionOffice$Branch" "hasBallot" "Z" "UnionOffice") (by decide +kernel)) rfl dX3_open_7 ?_
  refine lv_if_ne (tgt := 20) hx hb dX3_open_10 (by decide) (fun c1 => ?_) (fun c1 => ?_)
  · exact xt_throw (text := "the branch has a ballot or is on strike") S htr hlocks htb hw hX hl.1 (by decide +kernel) inX3_open_xIS1.1 inX3_open_xIS1.2 inX3_open_xIS tg_IS (by decide +kernel) dX3_open_20 dX3_open_23 dX3_open_24 dX3_open_26 dX3_open_29 (Nat.le_of_ble_eq_true rfl) (Nat.le_of_ble_eq_true rfl) (Nat.le_of_ble_eq_true rfl) (Nat.le_of_ble_eq_true rfl) (Or.inr ⟨rfl, hin1, fun h => c1 h.1⟩)
  · refine lv_aload_n hx hb dX3_open_13 rfl (lv_at hl 0 rfl) ?_
    refine xr_getN S hw (j := 5) (k_br n hin1.2) (cE_br _ _ _ _ hin1.2) rfl inX3_open_X1 (by decide) (hX.1.w (w := .fieldLinkNest RX3 108 "UnionOffice$Branch" "isOnStrike" "Z" "UnionOffice") (by decide +kernel)) rfl dX3_open_14 ?_
    refine lv_if_eq (tgt := 30) hx hb dX3_open_17 (by decide) (fun c2 => ?_) (fun c2 => ?_)
    · refine lv_aload_n hx hb dX3_open_30 rfl (lv_at hl 0 rfl) ?_
      refine xc_Mv hw (va_runVN (As := []) (rest := []) S (c_X1_beginBallot l D cy ad n σ x0.toNatClampNeg hin1.2 _) ⟨va_cnB 0 S.2.2.2.2 gX3_open_X1_beginBallot_n113 rfl rfl rfl (hX.1.w (w := .methodLinkNest RX3 113 yX1_beginBallot "UnionOffice") (by decide +kernel)) (hts (.initialized RX1) (by decide +kernel)) (by decide +kernel) ⟨Nat.le_of_ble_eq_true rfl, Nat.le_of_ble_eq_true rfl⟩, hts (.instanceMethod yX1_beginBallot) (by decide +kernel), hts (.selects RX1 yX1_beginBallot yX1_beginBallot) (by decide +kernel)⟩ (xc_preV (cX_ok _ _) hX hw (k_br n hin1.2) (cE_br _ _ _ _ hin1.2) rfl rfl) rfl rfl hl.1 rfl (lv_room (Nat.le_of_ble_eq_true rfl)) dX3_open_31 ⟨Nat.le_of_ble_eq_true rfl, Nat.le_of_ble_eq_true rfl⟩) (fun u H locs hp hw => ?_)
      obtain rfl := hp
      refine lv_aload_n hx hb dX3_open_34 rfl (lv_at hl 1 rfl) ?_
      refine lv_aload_n hx hb dX3_open_35 rfl (lv_at hl 0 rfl) ?_
      refine xc_Mi hw (va_runV (As := [.ref (ad (7 + x0.toNatClampNeg))]) (rest := []) S (c_X3_countStanding l D cy ad n (bgF σ x0.toNatClampNeg) x0.toNatClampNeg hin1.2 _) (cwV 1 S.2.2.2.2 gX3_open_X3_countStanding rfl rfl rfl (by decide +kernel) ⟨Nat.le_of_ble_eq_true rfl, Nat.le_of_ble_eq_true rfl⟩) (xc_preV (cX_ok _ _) hX hw (k_0 n) (cE_0 _ _ _ _) rfl rfl) rfl rfl hl.1 rfl (lv_room (Nat.le_of_ble_eq_true rfl)) dX3_open_36 ⟨Nat.le_of_ble_eq_true rfl, Nat.le_of_ble_eq_true rfl⟩) (fun r9 u H locs hp hw => ?_)
      obtain ⟨hu9, rfl⟩ := hp
      rw [hu9] at hw
      clear hu9
      exact vx_ret (xe_i S.1 S.2.1 hr hlocks hw (⟨hin1, ⟨c1, c2⟩, rfl, rfl⟩) (Nat.le_of_ble_eq_true rfl) (Nat.le_of_ble_eq_true rfl) dX3_open_39)
    · exact xt_throw (text := "the branch has a ballot or is on strike") S htr hlocks htb hw hX hl.1 (by decide +kernel) inX3_open_xIS1.1 inX3_open_xIS1.2 inX3_open_xIS tg_IS (by decide +kernel) dX3_open_20 dX3_open_23 dX3_open_24 dX3_open_26 dX3_open_29 (Nat.le_of_ble_eq_true rfl) (Nat.le_of_ble_eq_true rfl) (Nat.le_of_ble_eq_true rfl) (Nat.le_of_ble_eq_true rfl) (Or.inr ⟨rfl, hin1, fun h => c2 h.2⟩)
abbrev rmX3_vote : Room := { frames := 7, cells := 2, slots := 12, locals := 105 }
theorem inX3_vote_X1 : (∀ w ∈ wsX10, w ∈ wsX3_vote) := by decide +kernel
theorem inX3_vote_X2 : (∀ w ∈ wsX20, w ∈ wsX3_vote) := by decide +kernel
theorem inX3_vote_X3 : (∀ w ∈ wsX30, w ∈ wsX3_vote) := by decide +kernel
theorem inX3_vote_xIS : (∀ w ∈ (vx_atS RX3 67 xIS nm2).filter goodWord, w ∈ wsX3_vote) := by
  intro w h
  first | exact List.mem_cons_of_mem _ (List.mem_append_right _ h) | exact List.mem_cons_of_mem _ (List.mem_append_left _ (List.mem_append_right _ h)) | exact List.mem_cons_of_mem _ (List.mem_append_left _ (List.mem_append_left _ (List.mem_append_right _ h)))
theorem inX3_vote_xIS1 : Cond.classLink RX3 63 xIS ∈ wsX3_vote ∧ Cond.initialized xIS ∈ wsX3_vote := ⟨by decide +kernel, by decide +kernel⟩
set_option maxHeartbeats 1000000 in
set_option maxRecDepth 100000 in
/-- vote -/
theorem c_X3_vote (l : Launch) (hl9 : l.stackTraces = false) (D : va_G) (cy : Nat → ClassId) (ad : Nat → Nat) (n : Nat) (σ : S3) (hn : n ≤ 16) (x0 x1 : Int32) : CT l yX3_vote wsX3_vote rmX3_vote D cy ad n [.ref (ad 0), .int x0, .int x1] σ (xPi fun r u => inI x0 n ∧ voP σ x0.toNatClampNeg ∧ r = bcF ((tvF σ (br σ x0.toNatClampNeg) x0.toNatClampNeg x1) 12 (br σ x0.toNatClampNeg) 0) ∧ u = tvF σ (br σ x0.toNatClampNeg) x0.toNatClampNeg x1) (e2 xIO xIS (inI x0 n) (voP σ x0.toNatClampNeg)) := by
  refine xs_T (cc := cX3_vote) (maxL := 5) (ret := (some .int)) (by decide +kernel) rfl (Nat.le_of_ble_eq_true rfl) ?_
  intro p e s m below meth c ls S hr hlocks htb hw hX hl
  have S : CallFix p m c cX3_vote 5 s [.ref (ad 0), .int x0, .int x1].toArray wsX3_vote RX3 := S
  have hx := S.1
  have hb := S.2.1
  have hts := S.2.2.2.2
  have htr := hl9
  have hl : lv_has ls 5 [(0, .ref (ad 0)), (1, .int x0), (2, .int x1)] := hl
  refine lv_aload_n hx hb dX3_vote_0 rfl (lv_at hl 0 rfl) ?_
  refine lv_iload_n hx hb dX3_vote_1 rfl (lv_at hl 1 rfl) ?_
  refine xc_T htb hlocks hw (vx_runV (As := [.int x0]) (rest := []) S (c_X3_memberAt l htr D cy ad n σ hn x0 _) (cwV 1 S.2.2.2.2 gX3_vote_X3_memberAt rfl rfl rfl (by decide +kernel) ⟨Nat.le_of_ble_eq_true rfl, Nat.le_of_ble_eq_true rfl⟩) (xc_preV (cX_ok _ _) hX hw (k_0 n) (cE_0 _ _ _ _) rfl rfl) rfl rfl hl.1 rfl (lv_room (Nat.le_of_ble_eq_true rfl)) dX3_vote_2 ⟨Nat.le_of_ble_eq_true rfl, Nat.le_of_ble_eq_true rfl⟩) (fun _ he => Or.inl he) (Nat.le_of_ble_eq_true rfl) (Nat.le_of_ble_eq_true rfl) (fun v9 u H locs hp hw => ?_)
  obtain ⟨_, rfl, hu9, hin1, rfl⟩ := hp
  rw [hu9] at hw
  clear hu9
  refine lv_astore_n (lv' := [(3, .ref (ad (15 + 3 * x0.toNatClampNeg))), (0, .ref (ad 0)), (1, .int x0), (2, .int x1)]) hx hb dX3_vote_5 rfl hl (by decide) rfl (fun ls hl => ?_)
  refine lv_aload_n hx hb dX3_vote_6 rfl (lv_at hl 0 rfl) ?_
  refine xr_getN S hw (j := 3) (k_m hin1.2) (cE_m _ _ _ _ _) rfl inX3_vote_X2 (by decide) (hX.1.w (w := .fieldLinkNest RX3 81 "UnionOffice$Member" "branch" "LUnionOffice$Branch;" "UnionOffice") (by decide +kernel)) rfl dX3_vote_7 ?_
  refine lv_astore (lv' := [(4, .ref (ad (7 + (br σ x0.toNatClampNeg)))), (3, .ref (ad (15 + 3 * x0.toNatClampNeg))), (0, .ref (ad 0)), (1, .int x0), (2, .int x1)]) hx hb dX3_vote_10 hl (by decide) rfl (fun ls hl => ?_)
  refine lv_aload hx hb dX3_vote_12 (lv_at hl 0 rfl) ?_
  refine xr_getN S hw (j := 1) (k_br n (br_lt σ x0.toNatClampNeg)) (cE_br _ _ _ _ (br_lt σ x0.toNatClampNeg)) rfl inX3_vote_X1 (by decide) (hX.1.w (w := .fieldLinkNest RX3 105 "UnionOffice$Branch" "hasBallot" "Z" "UnionOffice") (by decide +kernel)) rfl dX3_vote_14 ?_
  refine lv_if_eq (tgt := 40) hx hb dX3_vote_17 (by decide) (fun c1 => ?_) (fun c1 => ?_)
  · exact xt_throw (text := "the member can't vote") S htr hlocks htb hw hX hl.1 (by decide +kernel) inX3_vote_xIS1.1 inX3_vote_xIS1.2 inX3_vote_xIS tg_IS (by decide +kernel) dX3_vote_40 dX3_vote_43 dX3_vote_44 dX3_vote_46 dX3_vote_49 (Nat.le_of_ble_eq_true rfl) (Nat.le_of_ble_eq_true rfl) (Nat.le_of_ble_eq_true rfl) (Nat.le_of_ble_eq_true rfl) (Or.inr ⟨rfl, hin1, fun h => h.1 c1⟩)
  · refine lv_aload_n hx hb dX3_vote_20 rfl (lv_at hl 1 rfl) ?_
    refine lv_aload_n hx hb dX3_vote_21 rfl (lv_at hl 2 rfl) ?_
    refine xr_get S hw (j := 5) (k_0 n) (cE_0 _ _ _ _) rfl inX3_vote_X3 (by decide) (hts (.fieldLink RX3 38 "UnionOffice" "today" "I") (by decide +kernel)) rfl dX3_vote_22 ?_
    refine xc_Mi hw (va_runVN (As := [.int (σ 18 0 0)]) (rest := []) S (c_X2_standsOn l D cy ad n σ x0.toNatClampNeg hin1.2 (σ 18 0 0) _) ⟨va_cnB 1 S.2.2.2.2 gX3_vote_X2_standsOn_n120 rfl rfl rfl (hX.1.w (w := .methodLinkNest RX3 120 yX2_standsOn "UnionOffice") (by decide +kernel)) (hts (.initialized RX2) (by decide +kernel)) (by decide +kernel) ⟨Nat.le_of_ble_eq_true rfl, Nat.le_of_ble_eq_true rfl⟩, hts (.instanceMethod yX2_standsOn) (by decide +kernel), hts (.selects RX2 yX2_standsOn yX2_standsOn) (by decide +kernel)⟩ (xc_preV (cX_ok _ _) hX hw (k_m hin1.2) (cE_m _ _ _ _ _) rfl rfl) rfl rfl hl.1 rfl (lv_room (Nat.le_of_ble_eq_true rfl)) dX3_vote_25 ⟨Nat.le_of_ble_eq_true rfl, Nat.le_of_ble_eq_true rfl⟩) (fun r9 u H locs hp hw => ?_)
    obtain ⟨hu9, rfl⟩ := hp
    rw [hu9] at hw
    clear hu9
    refine lv_if_eq (tgt := 40) hx hb dX3_vote_28 (by decide) (fun c2 => ?_) (fun c2 => ?_)
    · exact xt_throw (text := "the member can't vote") S htr hlocks htb hw hX hl.1 (by decide +kernel) inX3_vote_xIS1.1 inX3_vote_xIS1.2 inX3_vote_xIS tg_IS (by decide +kernel) dX3_vote_40 dX3_vote_43 dX3_vote_44 dX3_vote_46 dX3_vote_49 (Nat.le_of_ble_eq_true rfl) (Nat.le_of_ble_eq_true rfl) (Nat.le_of_ble_eq_true rfl) (Nat.le_of_ble_eq_true rfl) (Or.inr ⟨rfl, hin1, fun h => (stI_0.mp c2) h.2.1⟩)
    · refine lv_aload hx hb dX3_vote_31 (lv_at hl 0 rfl) ?_
      refine lv_aload_n hx hb dX3_vote_33 rfl (lv_at hl 1 rfl) ?_
      refine xc_Mi hw (va_runVN (As := [.ref (ad (15 + 3 * x0.toNatClampNeg))]) (rest := []) S (c_X1_hasVoteOf l D cy ad n σ (br σ x0.toNatClampNeg) (br_lt σ x0.toNatClampNeg) x0.toNatClampNeg hin1.2 _) ⟨va_cnB 1 S.2.2.2.2 gX3_vote_X1_hasVoteOf_n124 rfl rfl rfl (hX.1.w (w := .methodLinkNest RX3 124 yX1_hasVoteOf "UnionOffice") (by decide +kernel)) (hts (.initialized RX1) (by decide +kernel)) (by decide +kernel) ⟨Nat.le_of_ble_eq_true rfl, Nat.le_of_ble_eq_true rfl⟩, hts (.instanceMethod yX1_hasVoteOf) (by decide +kernel), hts (.selects RX1 yX1_hasVoteOf yX1_hasVoteOf) (by decide +kernel)⟩ (xc_preV (cX_ok _ _) hX hw (k_br n (br_lt σ x0.toNatClampNeg)) (cE_br _ _ _ _ (br_lt σ x0.toNatClampNeg)) rfl rfl) rfl rfl hl.1 rfl (lv_room (Nat.le_of_ble_eq_true rfl)) dX3_vote_34 ⟨Nat.le_of_ble_eq_true rfl, Nat.le_of_ble_eq_true rfl⟩) (fun r9 u H locs hp hw => ?_)
      obtain ⟨hu9, rfl⟩ := hp
      rw [hu9] at hw
      clear hu9
      refine lv_if_eq (tgt := 50) hx hb dX3_vote_37 (by decide) (fun c3 => ?_) (fun c3 => ?_)
      · refine lv_aload hx hb dX3_vote_50 (lv_at hl 0 rfl) ?_
        refine lv_aload_n hx hb dX3_vote_52 rfl (lv_at hl 1 rfl) ?_
        refine lv_iload_n hx hb dX3_vote_53 rfl (lv_at hl 4 rfl) ?_
        refine xc_Mv hw (va_runVN (As := [.ref (ad (15 + 3 * x0.toNatClampNeg)), .int x1]) (rest := []) S (c_X1_takeVote l D cy ad n σ (br σ x0.toNatClampNeg) (br_lt σ x0.toNatClampNeg) x0.toNatClampNeg hin1.2 x1 _) ⟨va_cnB 2 S.2.2.2.2 gX3_vote_X1_takeVote_n130 rfl rfl rfl (hX.1.w (w := .methodLinkNest RX3 130 yX1_takeVote "UnionOffice") (by decide +kernel)) (hts (.initialized RX1) (by decide +kernel)) (by decide +kernel) ⟨Nat.le_of_ble_eq_true rfl, Nat.le_of_ble_eq_true rfl⟩, hts (.instanceMethod yX1_takeVote) (by decide +kernel), hts (.selects RX1 yX1_takeVote yX1_takeVote) (by decide +kernel)⟩ (xc_preV (cX_ok _ _) hX hw (k_br n (br_lt σ x0.toNatClampNeg)) (cE_br _ _ _ _ (br_lt σ x0.toNatClampNeg)) rfl rfl) rfl rfl hl.1 rfl (lv_room (Nat.le_of_ble_eq_true rfl)) dX3_vote_54 ⟨Nat.le_of_ble_eq_true rfl, Nat.le_of_ble_eq_true rfl⟩) (fun u H locs hp hw => ?_)
        obtain rfl := hp
        refine lv_aload hx hb dX3_vote_57 (lv_at hl 0 rfl) ?_
        refine xc_Mi hw (va_runVN (As := []) (rest := []) S (c_X1_countVotes l D cy ad n (tvF σ (br σ x0.toNatClampNeg) x0.toNatClampNeg x1) (br σ x0.toNatClampNeg) (br_lt σ x0.toNatClampNeg) _) ⟨va_cnB 0 S.2.2.2.2 gX3_vote_X1_countVotes_n134 rfl rfl rfl (hX.1.w (w := .methodLinkNest RX3 134 yX1_countVotes "UnionOffice") (by decide +kernel)) (hts (.initialized RX1) (by decide +kernel)) (by decide +kernel) ⟨Nat.le_of_ble_eq_true rfl, Nat.le_of_ble_eq_true rfl⟩, hts (.instanceMethod yX1_countVotes) (by decide +kernel), hts (.selects RX1 yX1_countVotes yX1_countVotes) (by decide +kernel)⟩ (xc_preV (cX_ok _ _) hX hw (k_br n (br_lt σ x0.toNatClampNeg)) (cE_br _ _ _ _ (br_lt σ x0.toNatClampNeg)) rfl rfl) rfl rfl hl.1 rfl (lv_room (Nat.le_of_ble_eq_true rfl)) dX3_vote_59 ⟨Nat.le_of_ble_eq_true rfl, Nat.le_of_ble_eq_true rfl⟩) (fun r9 u H locs hp hw => ?_)
        obtain ⟨hu9, rfl⟩ := hp
        rw [hu9] at hw
        clear hu9
        exact vx_ret (xe_i S.1 S.2.1 hr hlocks hw (⟨hin1, ⟨c1, stI_1.mp c2, c3⟩, rfl, rfl⟩) (Nat.le_of_ble_eq_true rfl) (Nat.le_of_ble_eq_true rfl) dX3_vote_62)
      · exact xt_throw (text := "the member can't vote") S htr hlocks htb hw hX hl.1 (by decide +kernel) inX3_vote_xIS1.1 inX3_vote_xIS1.2 inX3_vote_xIS tg_IS (by decide +kernel) dX3_vote_40 dX3_vote_43 dX3_vote_44 dX3_vote_46 dX3_vote_49 (Nat.le_of_ble_eq_true rfl) (Nat.le_of_ble_eq_true rfl) (Nat.le_of_ble_eq_true rfl) (Nat.le_of_ble_eq_true rfl) (Or.inr ⟨rfl, hin1, fun h => c3 h.2.2⟩)
abbrev rmX3_close : Room := { frames := 7, cells := 2, slots := 12, locals := 105 }
theorem inX3_close_X1 : (∀ w ∈ wsX10, w ∈ wsX3_close) := by decide +kernel
theorem inX3_close_xIS : (∀ w ∈ (vx_atS RX3 67 xIS nm2).filter goodWord, w ∈ wsX3_close) := by
  intro w h
  first | exact List.mem_cons_of_mem _ (List.mem_append_right _ h) | exact List.mem_cons_of_mem _ (List.mem_append_left _ (List.mem_append_right _ h)) | exact List.mem_cons_of_mem _ (List.mem_append_left _ (List.mem_append_left _ (List.mem_append_right _ h)))
theorem inX3_close_xIS1 : Cond.classLink RX3 63 xIS ∈ wsX3_close ∧ Cond.initialized xIS ∈ wsX3_close := ⟨by decide +kernel, by decide +kernel⟩
set_option maxHeartbeats 1000000 in
set_option maxRecDepth 100000 in
/-- close -/
theorem c_X3_close (l : Launch) (hl9 : l.stackTraces = false) (D : va_G) (cy : Nat → ClassId) (ad : Nat → Nat) (n : Nat) (σ : S3) (x0 : Int32) : CT l yX3_close wsX3_close rmX3_close D cy ad n [.ref (ad 0), .int x0] σ (xPi fun r u => inI x0 4 ∧ ¬ σ 10 x0.toNatClampNeg 0 = 0 ∧ r = wonI σ x0.toNatClampNeg (cntF σ n x0.toNatClampNeg (σ 18 0 0) 16) ∧ u = ebF σ x0.toNatClampNeg (cntF σ n x0.toNatClampNeg (σ 18 0 0) 16)) (e2 xIO xIS (inI x0 4) (¬ σ 10 x0.toNatClampNeg 0 = 0)) := by
  refine xs_T (cc := cX3_close) (maxL := 3) (ret := (some .boolean)) (by decide +kernel) rfl (Nat.le_of_ble_eq_true rfl) ?_
  intro p e s m below meth c ls S hr hlocks htb hw hX hl
  have S : CallFix p m c cX3_close 3 s [.ref (ad 0), .int x0].toArray wsX3_close RX3 := S
  have hx := S.1
  have hb := S.2.1
  have hts := S.2.2.2.2
  have htr := hl9
  have hl : lv_has ls 3 [(0, .ref (ad 0)), (1, .int x0)] := hl
  refine lv_aload_n hx hb dX3_close_0 rfl (lv_at hl 0 rfl) ?_
  refine lv_iload_n hx hb dX3_close_1 rfl (lv_at hl 1 rfl) ?_
  refine xc_T htb hlocks hw (vx_runV (As := [.int x0]) (rest := []) S (c_X3_branchAt l htr D cy ad n σ x0 _) (cwV 1 S.2.2.2.2 gX3_close_X3_branchAt rfl rfl rfl (by decide +kernel) ⟨Nat.le_of_ble_eq_true rfl, Nat.le_of_ble_eq_true rfl⟩) (xc_preV (cX_ok _ _) hX hw (k_0 n) (cE_0 _ _ _ _) rfl rfl) rfl rfl hl.1 rfl (lv_room (Nat.le_of_ble_eq_true rfl)) dX3_close_2 ⟨Nat.le_of_ble_eq_true rfl, Nat.le_of_ble_eq_true rfl⟩) (fun _ he => Or.inl he) (Nat.le_of_ble_eq_true rfl) (Nat.le_of_ble_eq_true rfl) (fun v9 u H locs hp hw => ?_)
  obtain ⟨_, rfl, hu9, hin1, rfl⟩ := hp
  rw [hu9] at hw
  clear hu9
  refine lv_astore_n (lv' := [(2, .ref (ad (7 + x0.toNatClampNeg))), (0, .ref (ad 0)), (1, .int x0)]) hx hb dX3_close_5 rfl hl (by decide) rfl (fun ls hl => ?_)
  refine lv_aload_n hx hb dX3_close_6 rfl (lv_at hl 0 rfl) ?_
  refine xr_getN S hw (j := 1) (k_br n hin1.2) (cE_br _ _ _ _ hin1.2) rfl inX3_close_X1 (by decide) (hX.1.w (w := .fieldLinkNest RX3 105 "UnionOffice$Branch" "hasBallot" "Z" "UnionOffice") (by decide +kernel)) rfl dX3_close_7 ?_
  refine lv_if_ne (tgt := 23) hx hb dX3_close_10 (by decide) (fun c1 => ?_) (fun c1 => ?_)
  · refine lv_aload_n hx hb dX3_close_23 rfl (lv_at hl 0 rfl) ?_
    refine lv_aload_n hx hb dX3_close_24 rfl (lv_at hl 1 rfl) ?_
    refine lv_aload_n hx hb dX3_close_25 rfl (lv_at hl 0 rfl) ?_
    refine xc_Mi hw (va_runV (As := [.ref (ad (7 + x0.toNatClampNeg))]) (rest := [.ref (ad (7 + x0.toNatClampNeg))]) S (c_X3_countStanding l D cy ad n σ x0.toNatClampNeg hin1.2 _) (cwV 1 S.2.2.2.2 gX3_close_X3_countStanding rfl rfl rfl (by decide +kernel) ⟨Nat.le_of_ble_eq_true rfl, Nat.le_of_ble_eq_true rfl⟩) (xc_preV (cX_ok _ _) hX hw (k_0 n) (cE_0 _ _ _ _) rfl rfl) rfl rfl hl.1 rfl (lv_room (Nat.le_of_ble_eq_true rfl)) dX3_close_26 ⟨Nat.le_of_ble_eq_true rfl, Nat.le_of_ble_eq_true rfl⟩) (fun r9 u H locs hp hw => ?_)
    obtain ⟨hu9, rfl⟩ := hp
    rw [hu9] at hw
    clear hu9
    refine xc_Mv hw (va_runVN (As := [.int (cntF σ n x0.toNatClampNeg (σ 18 0 0) 16)]) (rest := []) S (c_X1_endBallot l D cy ad n σ x0.toNatClampNeg hin1.2 (cntF σ n x0.toNatClampNeg (σ 18 0 0) 16) _) ⟨va_cnB 1 S.2.2.2.2 gX3_close_X1_endBallot_n139 rfl rfl rfl (hX.1.w (w := .methodLinkNest RX3 139 yX1_endBallot "UnionOffice") (by decide +kernel)) (hts (.initialized RX1) (by decide +kernel)) (by decide +kernel) ⟨Nat.le_of_ble_eq_true rfl, Nat.le_of_ble_eq_true rfl⟩, hts (.instanceMethod yX1_endBallot) (by decide +kernel), hts (.selects RX1 yX1_endBallot yX1_endBallot) (by decide +kernel)⟩ (xc_preV (cX_ok _ _) hX hw (k_br n hin1.2) (cE_br _ _ _ _ hin1.2) rfl rfl) rfl rfl hl.1 rfl (lv_room (Nat.le_of_ble_eq_true rfl)) dX3_close_29 ⟨Nat.le_of_ble_eq_true rfl, Nat.le_of_ble_eq_true rfl⟩) (fun u H locs hp hw => ?_)
    obtain rfl := hp
    refine lv_aload_n hx hb dX3_close_32 rfl (lv_at hl 0 rfl) ?_
    refine xr_getN S hw (j := 4) (k_br n hin1.2) (cE_br _ _ _ _ hin1.2) rfl inX3_close_X1 (by decide) (hX.1.w (w := .fieldLinkNest RX3 142 "UnionOffice$Branch" "mayStrike" "Z" "UnionOffice") (by decide +kernel)) rfl dX3_close_33 ?_
    exact vx_ret (xe_z S.1 S.2.1 hr (by unfold ebF; rw [su_same]; exact wonI_01 _ _ _) hlocks hw (⟨hin1, c1, by unfold ebF; rw [su_same], rfl⟩) (Nat.le_of_ble_eq_true rfl) (Nat.le_of_ble_eq_true rfl) dX3_close_36)
  · exact xt_throw (text := "the branch has no ballot") S htr hlocks htb hw hX hl.1 (by decide +kernel) inX3_close_xIS1.1 inX3_close_xIS1.2 inX3_close_xIS tg_IS (by decide +kernel) dX3_close_13 dX3_close_16 dX3_close_17 dX3_close_19 dX3_close_22 (Nat.le_of_ble_eq_true rfl) (Nat.le_of_ble_eq_true rfl) (Nat.le_of_ble_eq_true rfl) (Nat.le_of_ble_eq_true rfl) (Or.inr ⟨rfl, hin1, fun h => h c1⟩)
abbrev rmX3_strike : Room := { frames := 7, cells := 2, slots := 12, locals := 105 }
theorem inX3_strike_X1 : (∀ w ∈ wsX10, w ∈ wsX3_strike) := by decide +kernel
theorem inX3_strike_xIS : (∀ w ∈ (vx_atS RX3 67 xIS nm2).filter goodWord, w ∈ wsX3_strike) := by
  intro w h
  first | exact List.mem_cons_of_mem _ (List.mem_append_right _ h) | exact List.mem_cons_of_mem _ (List.mem_append_left _ (List.mem_append_right _ h)) | exact List.mem_cons_of_mem _ (List.mem_append_left _ (List.mem_append_left _ (List.mem_append_right _ h)))
theorem inX3_strike_xIS1 : Cond.classLink RX3 63 xIS ∈ wsX3_strike ∧ Cond.initialized xIS ∈ wsX3_strike := ⟨by decide +kernel, by decide +kernel⟩
set_option maxHeartbeats 1000000 in
set_option maxRecDepth 100000 in
/-- strike -/
theorem c_X3_strike (l : Launch) (hl9 : l.stackTraces = false) (D : va_G) (cy : Nat → ClassId) (ad : Nat → Nat) (n : Nat) (σ : S3) (x0 x1 : Int32) (hz1 : x1 = 0 ∨ x1 = 1) : CT l yX3_strike wsX3_strike rmX3_strike D cy ad n [.ref (ad 0), .int x0, .int x1] σ (xPv fun u => inI x0 4 ∧ skP σ x0.toNatClampNeg x1 ∧ u = su (su σ 14 x0.toNatClampNeg 0 x1) 13 x0.toNatClampNeg 0 0) (e2 xIO xIS (inI x0 4) (skP σ x0.toNatClampNeg x1)) := by
  refine xs_T (cc := cX3_strike) (maxL := 4) (ret := none) (by decide +kernel) rfl (Nat.le_of_ble_eq_true rfl) ?_
  intro p e s m below meth c ls S hr hlocks htb hw hX hl
  have S : CallFix p m c cX3_strike 4 s [.ref (ad 0), .int x0, .int x1].toArray wsX3_strike RX3 := S
  have hx := S.1
  have hb := S.2.1
  have hts := S.2.2.2.2
  have htr := hl9
  have hl : lv_has ls 4 [(0, .ref (ad 0)), (1, .int x0), (2, .int x1)] := hl
  refine lv_aload_n hx hb dX3_strike_0 rfl (lv_at hl 0 rfl) ?_
  refine lv_iload_n hx hb dX3_strike_1 rfl (lv_at hl 1 rfl) ?_
  refine xc_T htb hlocks hw (vx_runV (As := [.int x0]) (rest := []) S (c_X3_branchAt l htr D cy ad n σ x0 _) (cwV 1 S.2.2.2.2 gX3_strike_X3_branchAt rfl rfl rfl (by decide +kernel) ⟨Nat.le_of_ble_eq_true rfl, Nat.le_of_ble_eq_true rfl⟩) (xc_preV (cX_ok _ _) hX hw (k_0 n) (cE_0 _ _ _ _) rfl rfl) rfl rfl hl.1 rfl (lv_room (Nat.le_of_ble_eq_true rfl)) dX3_strike_2 ⟨Nat.le_of_ble_eq_true rfl, Nat.le_of_ble_eq_true rfl⟩) (fun _ he => Or.inl he) (Nat.le_of_ble_eq_true rfl) (Nat.le_of_ble_eq_true rfl) (fun v9 u H locs hp hw => ?_)
  obtain ⟨_, rfl, hu9, hin1, rfl⟩ := hp
  rw [hu9] at hw
  clear hu9
  refine lv_astore_n (lv' := [(3, .ref (ad (7 + x0.toNatClampNeg))), (0, .ref (ad 0)), (1, .int x0), (2, .int x1)]) hx hb dX3_strike_5 rfl hl (by decide) rfl (fun ls hl => ?_)
  refine lv_iload_n hx hb dX3_strike_6 rfl (lv_at hl 3 rfl) ?_
  refine lv_if_eq (tgt := 20) hx hb dX3_strike_7 (by decide) (fun c1 => ?_) (fun c1 => ?_)
  · refine lv_aload_n hx hb dX3_strike_20 rfl (lv_at hl 0 rfl) ?_
    refine xr_getN S hw (j := 5) (k_br n hin1.2) (cE_br _ _ _ _ hin1.2) rfl inX3_strike_X1 (by decide) (hX.1.w (w := .fieldLinkNest RX3 108 "UnionOffice$Branch" "isOnStrike" "Z" "UnionOffice") (by decide +kernel)) rfl dX3_strike_21 ?_
    refine lv_if_ne (tgt := 37) hx hb dX3_strike_24 (by decide) (fun c2 => ?_) (fun c2 => ?_)
    · refine lv_aload_n hx hb dX3_strike_37 rfl (lv_at hl 0 rfl) ?_
      refine lv_iload_n hx hb dX3_strike_38 rfl (lv_at hl 3 rfl) ?_
      obtain ⟨σ1, hσ1⟩ : ∃ y : S3, y = su σ 14 x0.toNatClampNeg 0 x1 := ⟨_, rfl⟩
      refine xr_putN S hw tyX1 tyX1_ok nmX1 (j := 5) (k_br n hin1.2) (cE_br _ _ _ _ hin1.2) rfl inX3_strike_X1 (by decide) (hX.1.w (w := .fieldLinkNest RX3 108 "UnionOffice$Branch" "isOnStrike" "Z" "UnionOffice") (by decide +kernel)) rfl (tyX1_ok 5 (by decide)) (nar_z hz1) (fit_z hz1) (Nat.le_of_ble_eq_true rfl) dX3_strike_39 (cE cy ad n σ1) (by rw [hσ1]; exact up_out _ _ _ _ hin1.2 _) (fun H locs hw => ?_)
      refine lv_aload_n hx hb dX3_strike_42 rfl (lv_at hl 0 rfl) ?_
      refine lv_iconst (v := 0) hx hb dX3_strike_43 (by decide) ?_
      obtain ⟨σ2, hσ2⟩ : ∃ y : S3, y = su σ1 13 x0.toNatClampNeg 0 0 := ⟨_, rfl⟩
      refine xr_putN S hw tyX1 tyX1_ok nmX1 (j := 4) (k_br n hin1.2) (cE_br _ _ _ _ hin1.2) rfl inX3_strike_X1 (by decide) (hX.1.w (w := .fieldLinkNest RX3 142 "UnionOffice$Branch" "mayStrike" "Z" "UnionOffice") (by decide +kernel)) rfl (tyX1_ok 4 (by decide)) (nar_z (Or.inl rfl)) (fit_z (Or.inl rfl)) (Nat.le_of_ble_eq_true rfl) dX3_strike_44 (cE cy ad n σ2) (by rw [hσ2]; exact up_may _ _ _ _ hin1.2 _) (fun H locs hw => ?_)
      exact vx_ret (xe_v S.1 S.2.1 hr hlocks hw (⟨hin1, Or.inl ⟨c1, c2⟩, by rw [hσ2, hσ1]⟩) (Nat.le_of_ble_eq_true rfl) (Nat.le_of_ble_eq_true rfl) dX3_strike_47)
    · exact xt_throw (text := "the branch can't be called out, or is not on strike") S htr hlocks htb hw hX hl.1 (by decide +kernel) inX3_strike_xIS1.1 inX3_strike_xIS1.2 inX3_strike_xIS tg_IS (by decide +kernel) dX3_strike_27 dX3_strike_30 dX3_strike_31 dX3_strike_33 dX3_strike_36 (Nat.le_of_ble_eq_true rfl) (Nat.le_of_ble_eq_true rfl) (Nat.le_of_ble_eq_true rfl) (Nat.le_of_ble_eq_true rfl) (Or.inr ⟨rfl, hin1, fun h => h.elim (fun h => h.2 c2) (fun h => h.1 c1)⟩)
  · refine lv_aload_n hx hb dX3_strike_10 rfl (lv_at hl 0 rfl) ?_
    refine xc_Mi hw (va_runVN (As := []) (rest := []) S (c_X1_canBeCalledOut l D cy ad n σ x0.toNatClampNeg hin1.2 _) ⟨va_cnB 0 S.2.2.2.2 gX3_strike_X1_canBeCalledOut_n145 rfl rfl rfl (hX.1.w (w := .methodLinkNest RX3 145 yX1_canBeCalledOut "UnionOffice") (by decide +kernel)) (hts (.initialized RX1) (by decide +kernel)) (by decide +kernel) ⟨Nat.le_of_ble_eq_true rfl, Nat.le_of_ble_eq_true rfl⟩, hts (.instanceMethod yX1_canBeCalledOut) (by decide +kernel), hts (.selects RX1 yX1_canBeCalledOut yX1_canBeCalledOut) (by decide +kernel)⟩ (xc_preV (cX_ok _ _) hX hw (k_br n hin1.2) (cE_br _ _ _ _ hin1.2) rfl rfl) rfl rfl hl.1 rfl (lv_room (Nat.le_of_ble_eq_true rfl)) dX3_strike_11 ⟨Nat.le_of_ble_eq_true rfl, Nat.le_of_ble_eq_true rfl⟩) (fun r9 u H locs hp hw => ?_)
    obtain ⟨hu9, rfl⟩ := hp
    rw [hu9] at hw
    clear hu9
    refine lv_if_ne (tgt := 37) hx hb dX3_strike_14 (by decide) (fun c3 => ?_) (fun c3 => ?_)
    · refine lv_aload_n hx hb dX3_strike_37 rfl (lv_at hl 0 rfl) ?_
      refine lv_iload_n hx hb dX3_strike_38 rfl (lv_at hl 3 rfl) ?_
      obtain ⟨σ3, hσ3⟩ : ∃ y : S3, y = su σ 14 x0.toNatClampNeg 0 x1 := ⟨_, rfl⟩
      refine xr_putN S hw tyX1 tyX1_ok nmX1 (j := 5) (k_br n hin1.2) (cE_br _ _ _ _ hin1.2) rfl inX3_strike_X1 (by decide) (hX.1.w (w := .fieldLinkNest RX3 108 "UnionOffice$Branch" "isOnStrike" "Z" "UnionOffice") (by decide +kernel)) rfl (tyX1_ok 5 (by decide)) (nar_z hz1) (fit_z hz1) (Nat.le_of_ble_eq_true rfl) dX3_strike_39 (cE cy ad n σ3) (by rw [hσ3]; exact up_out _ _ _ _ hin1.2 _) (fun H locs hw => ?_)
      refine lv_aload_n hx hb dX3_strike_42 rfl (lv_at hl 0 rfl) ?_
      refine lv_iconst (v := 0) hx hb dX3_strike_43 (by decide) ?_
      obtain ⟨σ4, hσ4⟩ : ∃ y : S3, y = su σ3 13 x0.toNatClampNeg 0 0 := ⟨_, rfl⟩
      refine xr_putN S hw tyX1 tyX1_ok nmX1 (j := 4) (k_br n hin1.2) (cE_br _ _ _ _ hin1.2) rfl inX3_strike_X1 (by decide) (hX.1.w (w := .fieldLinkNest RX3 142 "UnionOffice$Branch" "mayStrike" "Z" "UnionOffice") (by decide +kernel)) rfl (tyX1_ok 4 (by decide)) (nar_z (Or.inl rfl)) (fit_z (Or.inl rfl)) (Nat.le_of_ble_eq_true rfl) dX3_strike_44 (cE cy ad n σ4) (by rw [hσ4]; exact up_may _ _ _ _ hin1.2 _) (fun H locs hw => ?_)
      exact vx_ret (xe_v S.1 S.2.1 hr hlocks hw (⟨hin1, Or.inr ⟨c1, c3⟩, by rw [hσ4, hσ3]⟩) (Nat.le_of_ble_eq_true rfl) (Nat.le_of_ble_eq_true rfl) dX3_strike_47)
    · refine lv_goto (tgt := 27) hx hb dX3_strike_17 (by decide) ?_
      exact xt_throw (text := "the branch can't be called out, or is not on strike") S htr hlocks htb hw hX hl.1 (by decide +kernel) inX3_strike_xIS1.1 inX3_strike_xIS1.2 inX3_strike_xIS tg_IS (by decide +kernel) dX3_strike_27 dX3_strike_30 dX3_strike_31 dX3_strike_33 dX3_strike_36 (Nat.le_of_ble_eq_true rfl) (Nat.le_of_ble_eq_true rfl) (Nat.le_of_ble_eq_true rfl) (Nat.le_of_ble_eq_true rfl) (Or.inr ⟨rfl, hin1, fun h => h.elim (fun h => c1 h.1) (fun h => h.2 c3)⟩)
abbrev rmX3_advance : Room := { frames := 7, cells := 2, slots := 12, locals := 109 }
set_option maxHeartbeats 1000000 in
set_option maxRecDepth 100000 in
theorem lp_X3_advance {p : Program} {l : Launch} {e : Env} {s : State} {m : MethodId} {args : Array Value} {below : List Frame} {meth : Method} {c : Code} {Q : State → Prop} (S : CallFix p m c cX3_advance 3 s args wsX3_advance RX3) {D : va_G} {cy : Nat → ClassId} {ad : Nat → Nat} {n : Nat} {σ : S3} {dd : Nat} (hdd : dd ≤ 100) (hX : cX ad (15 + 3 * n) s.heap.size s) : ∀ (k : Nat) (j : Nat) (τ : S3) (H : Heap) (locs : List Loc) (ls : Array Slot), dd - j < k → j ≤ dd → τ = edN σ n j → CW D cy s ad n τ H locs → lv_has ls 3 [(0, .ref (ad 0)), (1, .int (nI dd)), (2, .int (nI j))] → (∀ (H : Heap) (locs : List Loc) (ls : Array Slot), CW D cy s ad n (edN σ n dd) H locs → lv_has ls 3 [(0, .ref (ad 0))] → W p l e rmX3_advance s m args below meth c H locs (0 + rmX3_checkRange.cells) (0 + rmX3_checkRange.slots) Q (F0 m 47 ls [])) → W p l e rmX3_advance s m args below meth c H locs (0 + rmX3_checkRange.cells) (0 + rmX3_checkRange.slots) Q (F0 m 32 ls []) := by
  have hx := S.1
  have hb := S.2.1
  have hts := S.2.2.2.2
  intro k
  induction k with
  | zero => intro j τ H locs ls hk; exact absurd hk (Nat.not_lt_zero _)
  | succ k ih =>
    intro j τ H locs ls hk hj hτ hw hl kk
    refine lv_iload_n hx hb dX3_advance_32 rfl (lv_at hl 2 rfl) ?_
    refine lv_iload_n hx hb dX3_advance_33 rfl (lv_at hl 1 rfl) ?_
    refine lv_icmp_ge (tgt := 47) hx hb dX3_advance_34 (by decide) (fun c1 => ?_) (fun c1 => ?_)
    · have hj6 : j = dd := by
        have := (nI_leI (by omega) (by omega)).mp c1
        omega
      exact kk H locs ls (by rw [← hj6, ← hτ]; exact hw) (lv_sub hl [0] rfl)
    · have hj6 : j < dd := by
        rcases Nat.lt_or_ge j dd with q | q
        · exact q
        · exact absurd ((nI_leI (by omega) (by omega)).mpr q) c1
      refine lv_aload_n hx hb dX3_advance_37 rfl (lv_at hl 0 rfl) ?_
      refine xc_Mv hw (va_runV (As := []) (rest := []) S (c_X3_endDay l D cy ad n τ _) (cwV 0 S.2.2.2.2 gX3_advance_X3_endDay rfl rfl rfl (by decide +kernel) ⟨Nat.le_of_ble_eq_true rfl, Nat.le_of_ble_eq_true rfl⟩) (xc_preV (cX_ok _ _) hX hw (k_0 n) (cE_0 _ _ _ _) rfl rfl) rfl rfl hl.1 rfl (lv_room (Nat.le_of_ble_eq_true rfl)) dX3_advance_38 ⟨Nat.le_of_ble_eq_true rfl, Nat.le_of_ble_eq_true rfl⟩) (fun u H locs hp hw => ?_)
      obtain rfl := hp
      refine lv_iinc (v := nI (j + 1)) (lv' := [(2, .int (nI (j + 1))), (0, .ref (ad 0)), (1, .int (nI dd))]) hx hb dX3_advance_41 hl (k := 2) rfl (nI_1 j) (by decide) rfl (fun ls hl => ?_)
      refine lv_goto (tgt := 32) hx hb dX3_advance_44 (by decide) ?_
      exact ih (j + 1) (edF τ n) H locs ls (by omega) (by omega) (by rw [hτ]; rfl) hw (lv_sub hl [1, 2, 0] rfl) kk
theorem inX3_advance_X3 : (∀ w ∈ wsX30, w ∈ wsX3_advance) := by decide +kernel
theorem inX3_advance_xIS : (∀ w ∈ (vx_atS RX3 67 xIS nm2).filter goodWord, w ∈ wsX3_advance) := by
  intro w h
  first | exact List.mem_cons_of_mem _ (List.mem_append_right _ h) | exact List.mem_cons_of_mem _ (List.mem_append_left _ (List.mem_append_right _ h)) | exact List.mem_cons_of_mem _ (List.mem_append_left _ (List.mem_append_left _ (List.mem_append_right _ h)))
theorem inX3_advance_xIS1 : Cond.classLink RX3 63 xIS ∈ wsX3_advance ∧ Cond.initialized xIS ∈ wsX3_advance := ⟨by decide +kernel, by decide +kernel⟩
set_option maxHeartbeats 1000000 in
set_option maxRecDepth 100000 in
/-- advance -/
theorem c_X3_advance (l : Launch) (hl9 : l.stackTraces = false) (D : va_G) (cy : Nat → ClassId) (ad : Nat → Nat) (n : Nat) (σ : S3) (x0 : Int32) : CT l yX3_advance wsX3_advance rmX3_advance D cy ad n [.ref (ad 0), .int x0] σ (xPi fun r u => rgI x0 1 100 ∧ x0 ≤ 1800 - σ 18 0 0 ∧ r = (edN σ n x0.toNatClampNeg) 18 0 0 ∧ u = edN σ n x0.toNatClampNeg) (e2 xIA xIS (rgI x0 1 100) (x0 ≤ 1800 - σ 18 0 0)) := by
  refine xs_T (cc := cX3_advance) (maxL := 3) (ret := (some .int)) (by decide +kernel) rfl (Nat.le_of_ble_eq_true rfl) ?_
  intro p e s m below meth c ls S hr hlocks htb hw hX hl
  have S : CallFix p m c cX3_advance 3 s [.ref (ad 0), .int x0].toArray wsX3_advance RX3 := S
  have hx := S.1
  have hb := S.2.1
  have hts := S.2.2.2.2
  have htr := hl9
  have hl : lv_has ls 3 [(0, .ref (ad 0)), (1, .int x0)] := hl
  refine lv_aload_n hx hb dX3_advance_0 rfl (lv_at hl 0 rfl) ?_
  refine lv_iload_n hx hb dX3_advance_1 rfl (lv_at hl 1 rfl) ?_
  refine lv_iconst (v := 1) hx hb dX3_advance_2 (by decide) ?_
  refine lv_bipush (v := 100) hx hb dX3_advance_3 (by decide) ?_
  refine xc_T htb hlocks hw (vx_runV (As := [.int x0, .int 1, .int 100]) (rest := []) S (c_X3_checkRange l htr D cy ad n σ x0 1 100 _) (cwV 3 S.2.2.2.2 gX3_advance_X3_checkRange rfl rfl rfl (by decide +kernel) ⟨Nat.le_of_ble_eq_true rfl, Nat.le_of_ble_eq_true rfl⟩) (xc_preV (cX_ok _ _) hX hw (k_0 n) (cE_0 _ _ _ _) rfl rfl) rfl rfl hl.1 rfl (lv_room (Nat.le_of_ble_eq_true rfl)) dX3_advance_5 ⟨Nat.le_of_ble_eq_true rfl, Nat.le_of_ble_eq_true rfl⟩) (fun _ he => Or.inl he) (Nat.le_of_ble_eq_true rfl) (Nat.le_of_ble_eq_true rfl) (fun v9 u H locs hp hw => ?_)
  obtain ⟨rfl, hu9, hrg1⟩ := hp
  rw [hu9] at hw
  clear hu9
  refine lv_iload_n hx hb dX3_advance_8 rfl (lv_at hl 1 rfl) ?_
  refine lv_sipush (v := 1800) hx hb dX3_advance_9 (by decide) ?_
  refine lv_aload_n hx hb dX3_advance_12 rfl (lv_at hl 0 rfl) ?_
  refine xr_get S hw (j := 5) (k_0 n) (cE_0 _ _ _ _) rfl inX3_advance_X3 (by decide) (hts (.fieldLink RX3 38 "UnionOffice" "today" "I") (by decide +kernel)) rfl dX3_advance_13 ?_
  refine lv_isub hx hb dX3_advance_16 ?_
  refine lv_icmp_le (tgt := 30) hx hb dX3_advance_17 (by decide) (fun c1 => ?_) (fun c1 => ?_)
  · obtain ⟨dd, hdd, rfl⟩ := nI_of2 (n := 100) (M := 100) rfl (fun h => hrg1.1 (Int32.lt_trans h (by decide))) hrg1.2
    refine lv_iconst (v := 0) hx hb dX3_advance_30 (by decide) ?_
    refine lv_istore_n (lv' := [(2, .int 0), (0, .ref (ad 0)), (1, .int (nI dd))]) hx hb dX3_advance_31 rfl hl (by decide) rfl (fun ls hl => ?_)
    refine lp_X3_advance S hdd hX (dd + 1) 0 σ _ _ ls (by omega) (by omega) rfl hw (lv_sub hl [1, 2, 0] rfl) (fun H locs ls hw hl => ?_)
    refine lv_aload_n hx hb dX3_advance_47 rfl (lv_at hl 0 rfl) ?_
    refine xr_get S hw (j := 5) (k_0 n) (cE_0 _ _ _ _) rfl inX3_advance_X3 (by decide) (hts (.fieldLink RX3 38 "UnionOffice" "today" "I") (by decide +kernel)) rfl dX3_advance_48 ?_
    exact vx_ret (xe_i S.1 S.2.1 hr hlocks hw (⟨hrg1, c1, by rw [cl_nI (by omega)], by rw [cl_nI (by omega)]⟩) (Nat.le_of_ble_eq_true rfl) (Nat.le_of_ble_eq_true rfl) dX3_advance_51)
  · exact xt_throw (text := "the day would be above the last one") S htr hlocks htb hw hX hl.1 (by decide +kernel) inX3_advance_xIS1.1 inX3_advance_xIS1.2 inX3_advance_xIS tg_IS (by decide +kernel) dX3_advance_20 dX3_advance_23 dX3_advance_24 dX3_advance_26 dX3_advance_29 (Nat.le_of_ble_eq_true rfl) (Nat.le_of_ble_eq_true rfl) (Nat.le_of_ble_eq_true rfl) (Nat.le_of_ble_eq_true rfl) (Or.inr ⟨rfl, hrg1, c1⟩)
abbrev rmX3_fold : Room := { frames := 6, cells := 1, slots := 6, locals := 84 }
set_option maxHeartbeats 1000000 in
set_option maxRecDepth 100000 in
theorem lp_X3_fold {p : Program} {l : Launch} {e : Env} {s : State} {m : MethodId} {args : Array Value} {below : List Frame} {meth : Method} {c : Code} {Q : State → Prop} (S : CallFix p m c cX3_fold 4 s args wsX3_fold RX3) {D : va_G} {cy : Nat → ClassId} {ad : Nat → Nat} {n : Nat} {σ : S3} {mm : Nat} (hmm : mm < 60) (hX : cX ad (15 + 3 * n) s.heap.size s) : ∀ (k : Nat) (j : Nat) (acc : Int32) (H : Heap) (locs : List Loc) (ls : Array Slot), mm + 1 - j < k → j ≤ mm + 1 → fo σ ≤ j → acc = flF σ (fo σ) (j - fo σ) → CW D cy s ad n σ H locs → lv_has ls 4 [(0, .ref (ad 0)), (1, .int (nI mm)), (2, .int acc), (3, .int (nI j))] → (∀ (r : Int32) (H : Heap) (locs : List Loc) (ls : Array Slot), r = flF σ (fo σ) (mm + 1 - fo σ) → CW D cy s ad n σ H locs → lv_has ls 4 [(0, .ref (ad 0)), (1, .int (nI mm)), (2, .int r)] → W p l e rmX3_fold s m args below meth c H locs (0 + rmX3_hasEnded.cells) (0 + rmX3_hasEnded.slots) Q (F0 m 52 ls [])) → W p l e rmX3_fold s m args below meth c H locs (0 + rmX3_hasEnded.cells) (0 + rmX3_hasEnded.slots) Q (F0 m 33 ls []) := by
  have hx := S.1
  have hb := S.2.1
  have hts := S.2.2.2.2
  intro k
  induction k with
  | zero => intro j acc H locs ls hk; exact absurd hk (Nat.not_lt_zero _)
  | succ k ih =>
    intro j acc H locs ls hk hj hfo hacc hw hl kk
    refine lv_iload_n hx hb dX3_fold_33 rfl (lv_at hl 3 rfl) ?_
    refine lv_iload_n hx hb dX3_fold_34 rfl (lv_at hl 1 rfl) ?_
    refine lv_icmp_gt (tgt := 52) hx hb dX3_fold_35 (by decide) (fun c1 => ?_) (fun c1 => ?_)
    · have hj6 : j = mm + 1 := by
        have := (nI_ltI (a := mm) (b := j) (by omega) (by omega)).mp c1
        omega
      exact kk acc H locs ls (by rw [hacc, hj6]) hw (lv_sub hl [0, 1, 2] rfl)
    · have hj7 : j ≤ mm := by
        rcases Nat.lt_or_ge mm j with q | q
        · exact absurd ((nI_ltI (by omega) (by omega)).mpr q) c1
        · exact q
      have hj6 : j < 60 := by omega
      refine lv_iload_n hx hb dX3_fold_38 rfl (lv_at hl 2 rfl) ?_
      refine lv_aload_n hx hb dX3_fold_39 rfl (lv_at hl 0 rfl) ?_
      refine lv_iload_n hx hb dX3_fold_40 rfl (lv_at hl 3 rfl) ?_
      refine xc_Mi hw (va_runV (As := [.int (nI j)]) (rest := [.int acc]) S (c_X3_sumLaidOn l D cy ad n σ j hj6 _) (cwV 1 S.2.2.2.2 gX3_fold_X3_sumLaidOn rfl rfl rfl (by decide +kernel) ⟨Nat.le_of_ble_eq_true rfl, Nat.le_of_ble_eq_true rfl⟩) (xc_preV (cX_ok _ _) hX hw (k_0 n) (cE_0 _ _ _ _) rfl rfl) rfl rfl hl.1 rfl (lv_room (Nat.le_of_ble_eq_true rfl)) dX3_fold_41 ⟨Nat.le_of_ble_eq_true rfl, Nat.le_of_ble_eq_true rfl⟩) (fun r9 u H locs hp hw => ?_)
      obtain ⟨hu9, rfl⟩ := hp
      rw [hu9] at hw
      clear hu9
      refine lv_iadd hx hb dX3_fold_44 ?_
      refine lv_istore_n (lv' := [(2, .int (acc + (slF σ j 4))), (0, .ref (ad 0)), (1, .int (nI mm)), (3, .int (nI j))]) hx hb dX3_fold_45 rfl hl (by decide) rfl (fun ls hl => ?_)
      refine lv_iinc (v := nI (j + 1)) (lv' := [(3, .int (nI (j + 1))), (2, .int (acc + (slF σ j 4))), (0, .ref (ad 0)), (1, .int (nI mm))]) hx hb dX3_fold_46 hl (k := 3) rfl (nI_1 j) (by decide) rfl (fun ls hl => ?_)
      refine lv_goto (tgt := 33) hx hb dX3_fold_49 (by decide) ?_
      exact ih (j + 1) (acc + (slF σ j 4)) H locs ls (by omega) (by omega) (by omega) (by rw [hacc, show j + 1 - fo σ = (j - fo σ) + 1 by omega]; show _ = flF _ _ _ + slF σ (fo σ + (j - fo σ)) 4; rw [show fo σ + (j - fo σ) = j by omega]) hw (lv_sub hl [2, 3, 1, 0] rfl) kk
theorem inX3_fold_X3 : (∀ w ∈ wsX30, w ∈ wsX3_fold) := by decide +kernel
theorem inX3_fold_xIA : (∀ w ∈ (vx_atS RX3 163 xIA nm2).filter goodWord, w ∈ wsX3_fold) := by
  intro w h
  first | exact List.mem_cons_of_mem _ (List.mem_append_right _ h) | exact List.mem_cons_of_mem _ (List.mem_append_left _ (List.mem_append_right _ h)) | exact List.mem_cons_of_mem _ (List.mem_append_left _ (List.mem_append_left _ (List.mem_append_right _ h)))
theorem inX3_fold_xIA1 : Cond.classLink RX3 159 xIA ∈ wsX3_fold ∧ Cond.initialized xIA ∈ wsX3_fold := ⟨by decide +kernel, by decide +kernel⟩
set_option maxHeartbeats 1000000 in
set_option maxRecDepth 100000 in
/-- fold -/
theorem c_X3_fold (l : Launch) (hl9 : l.stackTraces = false) (D : va_G) (cy : Nat → ClassId) (ad : Nat → Nat) (n : Nat) (σ : S3) (x0 : Int32) : CT l yX3_fold wsX3_fold rmX3_fold D cy ad n [.ref (ad 0), .int x0] σ (xPi fun r u => (endP σ x0 ∧ ¬ x0 < nI (fo σ)) ∧ r = flF σ (fo σ) (x0.toNatClampNeg + 1 - fo σ) ∧ u = su σ 20 0 0 (nI (x0.toNatClampNeg + 1))) (e1 xIA (endP σ x0 ∧ ¬ x0 < nI (fo σ))) := by
  refine xs_T (cc := cX3_fold) (maxL := 4) (ret := (some .int)) (by decide +kernel) rfl (Nat.le_of_ble_eq_true rfl) ?_
  intro p e s m below meth c ls S hr hlocks htb hw hX hl
  have S : CallFix p m c cX3_fold 4 s [.ref (ad 0), .int x0].toArray wsX3_fold RX3 := S
  have hx := S.1
  have hb := S.2.1
  have hts := S.2.2.2.2
  have htr := hl9
  have hl : lv_has ls 4 [(0, .ref (ad 0)), (1, .int x0)] := hl
  refine lv_aload_n hx hb dX3_fold_0 rfl (lv_at hl 0 rfl) ?_
  refine lv_iload_n hx hb dX3_fold_1 rfl (lv_at hl 1 rfl) ?_
  refine xc_Mi hw (va_runV (As := [.int x0]) (rest := []) S (c_X3_hasEnded l D cy ad n σ x0 _) (cwV 1 S.2.2.2.2 gX3_fold_X3_hasEnded rfl rfl rfl (by decide +kernel) ⟨Nat.le_of_ble_eq_true rfl, Nat.le_of_ble_eq_true rfl⟩) (xc_preV (cX_ok _ _) hX hw (k_0 n) (cE_0 _ _ _ _) rfl rfl) rfl rfl hl.1 rfl (lv_room (Nat.le_of_ble_eq_true rfl)) dX3_fold_2 ⟨Nat.le_of_ble_eq_true rfl, Nat.le_of_ble_eq_true rfl⟩) (fun r9 u H locs hp hw => ?_)
  obtain ⟨hu9, rfl⟩ := hp
  rw [hu9] at hw
  clear hu9
  refine lv_if_eq (tgt := 16) hx hb dX3_fold_5 (by decide) (fun c1 => ?_) (fun c1 => ?_)
  · exact xt_throw (text := "the month has not ended, or is folded") S htr hlocks htb hw hX hl.1 (by decide +kernel) inX3_fold_xIA1.1 inX3_fold_xIA1.2 inX3_fold_xIA tg_IA (by decide +kernel) dX3_fold_16 dX3_fold_19 dX3_fold_20 dX3_fold_22 dX3_fold_25 (Nat.le_of_ble_eq_true rfl) (Nat.le_of_ble_eq_true rfl) (Nat.le_of_ble_eq_true rfl) (Nat.le_of_ble_eq_true rfl) (⟨rfl, fun h => (heI_0.mp c1) h.1⟩)
  · have he := heI_1.mp c1
    obtain ⟨mm, hmm, rfl⟩ := i32_ix he.1 he.2.1
    refine lv_iload_n hx hb dX3_fold_8 rfl (lv_at hl 1 rfl) ?_
    refine lv_aload_n hx hb dX3_fold_9 rfl (lv_at hl 0 rfl) ?_
    refine xr_get S hw (j := 7) (k_0 n) (cE_0 _ _ _ _) rfl inX3_fold_X3 (by decide) (hts (.fieldLink RX3 44 "UnionOffice" "foldedMonths" "I") (by decide +kernel)) rfl dX3_fold_10 ?_
    refine lv_icmp_ge (tgt := 26) hx hb dX3_fold_13 (by decide) (fun c2 => ?_) (fun c2 => ?_)
    · refine lv_iconst (v := 0) hx hb dX3_fold_26 (by decide) ?_
      refine lv_istore_n (lv' := [(2, .int 0), (0, .ref (ad 0)), (1, .int (nI mm))]) hx hb dX3_fold_27 rfl hl (by decide) rfl (fun ls hl => ?_)
      refine lv_aload_n hx hb dX3_fold_28 rfl (lv_at hl 1 rfl) ?_
      refine xr_get S hw (j := 7) (k_0 n) (cE_0 _ _ _ _) rfl inX3_fold_X3 (by decide) (hts (.fieldLink RX3 44 "UnionOffice" "foldedMonths" "I") (by decide +kernel)) rfl dX3_fold_29 ?_
      refine lv_istore_n (lv' := [(3, .int (nI (fo σ))), (2, .int 0), (0, .ref (ad 0)), (1, .int (nI mm))]) hx hb dX3_fold_32 rfl hl (by decide) rfl (fun ls hl => ?_)
      have hfl := fo_lt σ
      have hfm : fo σ ≤ mm := (nI_leI hfl (by omega)).mp c2
      refine lp_X3_fold S hmm hX 62 (fo σ) 0 _ _ ls (by omega) (by omega) (Nat.le_refl _) (by rw [Nat.sub_self]; rfl) hw (lv_sub hl [2, 3, 1, 0] rfl) (fun r H locs ls hr9 hw hl => ?_)
      refine lv_aload_n hx hb dX3_fold_52 rfl (lv_at hl 0 rfl) ?_
      refine lv_iload_n hx hb dX3_fold_53 rfl (lv_at hl 1 rfl) ?_
      refine lv_iconst (v := 1) hx hb dX3_fold_54 (by decide) ?_
      refine lv_iadd hx hb dX3_fold_55 ?_
      rw [show nI mm + 1 = nI (mm + 1) from nI_1 _]
      obtain ⟨σ1, hσ1⟩ : ∃ y : S3, y = su σ 20 0 0 (nI (mm + 1)) := ⟨_, rfl⟩
      refine xr_put S hw tyX3 tyX3_ok nmX3 (j := 7) (k_0 n) (cE_0 _ _ _ _) rfl inX3_fold_X3 (by decide) (hts (.fieldLink RX3 44 "UnionOffice" "foldedMonths" "I") (by decide +kernel)) rfl (tyX3_ok 7 (by decide)) rfl rfl (Nat.le_of_ble_eq_true rfl) dX3_fold_56 (cE cy ad n σ1) (by rw [hσ1]; exact up_fold _ _ _ _ (show mm + 1 < 2 ^ 31 by omega)) (fun H locs hw => ?_)
      refine lv_iload_n hx hb dX3_fold_59 rfl (lv_at hl 2 rfl) ?_
      exact vx_ret (xe_i S.1 S.2.1 hr hlocks hw (⟨⟨he, Int32.not_lt.mpr c2⟩, by rw [cl_nI (by omega)]; exact hr9, by rw [cl_nI (by omega)]; exact hσ1⟩) (Nat.le_of_ble_eq_true rfl) (Nat.le_of_ble_eq_true rfl) dX3_fold_60)
    · exact xt_throw (text := "the month has not ended, or is folded") S htr hlocks htb hw hX hl.1 (by decide +kernel) inX3_fold_xIA1.1 inX3_fold_xIA1.2 inX3_fold_xIA tg_IA (by decide +kernel) dX3_fold_16 dX3_fold_19 dX3_fold_20 dX3_fold_22 dX3_fold_25 (Nat.le_of_ble_eq_true rfl) (Nat.le_of_ble_eq_true rfl) (Nat.le_of_ble_eq_true rfl) (Nat.le_of_ble_eq_true rfl) (⟨rfl, fun h => c2 (Int32.not_lt.mp h.2)⟩)
abbrev rmX3_day : Room := { frames := 0, cells := 0, slots := 0, locals := 0 }
theorem inX3_day_X3 : (∀ w ∈ wsX30, w ∈ wsX3_day) := by decide +kernel
set_option maxHeartbeats 1000000 in
set_option maxRecDepth 100000 in
/-- day -/
theorem c_X3_day (l : Launch) (D : va_G) (cy : Nat → ClassId) (ad : Nat → Nat) (n : Nat) (σ : S3)  : CM l yX3_day wsX3_day rmX3_day D cy ad n [.ref (ad 0)] σ (xPi fun r u => u = σ ∧ r = σ 18 0 0) := by
  refine xs_M (cc := cX3_day) (maxL := 1) (ret := (some .int)) (by decide +kernel) rfl (Nat.le_of_ble_eq_true rfl) ?_
  intro p e s m below meth c ls S hr hlocks hnm hw hX hl
  have S : CallFix p m c cX3_day 1 s [.ref (ad 0)].toArray wsX3_day RX3 := S
  have hx := S.1
  have hb := S.2.1
  have hts := S.2.2.2.2
  have hl : lv_has ls 1 [(0, .ref (ad 0))] := hl
  refine lv_aload_n hx hb dX3_day_0 rfl (lv_at hl 0 rfl) ?_
  refine xr_get S hw (j := 5) (k_0 n) (cE_0 _ _ _ _) rfl inX3_day_X3 (by decide) (hts (.fieldLink RX3 38 "UnionOffice" "today" "I") (by decide +kernel)) rfl dX3_day_1 ?_
  exact xe_i S.1 S.2.1 hr hlocks hw (⟨rfl, rfl⟩) (Nat.le_of_ble_eq_true rfl) (Nat.le_of_ble_eq_true rfl) dX3_day_4
abbrev rmX3_fund : Room := { frames := 0, cells := 0, slots := 0, locals := 0 }
theorem inX3_fund_X3 : (∀ w ∈ wsX30, w ∈ wsX3_fund) := by decide +kernel
set_option maxHeartbeats 1000000 in
set_option maxRecDepth 100000 in
/-- fund -/
theorem c_X3_fund (l : Launch) (D : va_G) (cy : Nat → ClassId) (ad : Nat → Nat) (n : Nat) (σ : S3)  : CM l yX3_fund wsX3_fund rmX3_fund D cy ad n [.ref (ad 0)] σ (xPi fun r u => u = σ ∧ r = σ 19 0 0) := by
  refine xs_M (cc := cX3_fund) (maxL := 1) (ret := (some .int)) (by decide +kernel) rfl (Nat.le_of_ble_eq_true rfl) ?_
  intro p e s m below meth c ls S hr hlocks hnm hw hX hl
  have S : CallFix p m c cX3_fund 1 s [.ref (ad 0)].toArray wsX3_fund RX3 := S
  have hx := S.1
  have hb := S.2.1
  have hts := S.2.2.2.2
  have hl : lv_has ls 1 [(0, .ref (ad 0))] := hl
  refine lv_aload_n hx hb dX3_fund_0 rfl (lv_at hl 0 rfl) ?_
  refine xr_get S hw (j := 6) (k_0 n) (cE_0 _ _ _ _) rfl inX3_fund_X3 (by decide) (hts (.fieldLink RX3 41 "UnionOffice" "inFund" "I") (by decide +kernel)) rfl dX3_fund_1 ?_
  exact xe_i S.1 S.2.1 hr hlocks hw (⟨rfl, rfl⟩) (Nat.le_of_ble_eq_true rfl) (Nat.le_of_ble_eq_true rfl) dX3_fund_4
abbrev rmX3_owed : Room := { frames := 7, cells := 1, slots := 6, locals := 105 }
set_option maxHeartbeats 1000000 in
set_option maxRecDepth 100000 in
/-- owed -/
theorem c_X3_owed (l : Launch) (hl9 : l.stackTraces = false) (D : va_G) (cy : Nat → ClassId) (ad : Nat → Nat) (n : Nat) (σ : S3) (hn : n ≤ 16) (x0 : Int32) : CT l yX3_owed wsX3_owed rmX3_owed D cy ad n [.ref (ad 0), .int x0] σ (xPi fun r u => inI x0 n ∧ u = σ ∧ r = sOwed σ x0.toNatClampNeg) (e1 xIO (inI x0 n)) := by
  refine xs_T (cc := cX3_owed) (maxL := 2) (ret := (some .int)) (by decide +kernel) rfl (Nat.le_of_ble_eq_true rfl) ?_
  intro p e s m below meth c ls S hr hlocks htb hw hX hl
  have S : CallFix p m c cX3_owed 2 s [.ref (ad 0), .int x0].toArray wsX3_owed RX3 := S
  have hx := S.1
  have hb := S.2.1
  have hts := S.2.2.2.2
  have htr := hl9
  have hl : lv_has ls 2 [(0, .ref (ad 0)), (1, .int x0)] := hl
  refine lv_aload_n hx hb dX3_owed_0 rfl (lv_at hl 0 rfl) ?_
  refine lv_iload_n hx hb dX3_owed_1 rfl (lv_at hl 1 rfl) ?_
  refine xc_T htb hlocks hw (vx_runV (As := [.int x0]) (rest := []) S (c_X3_memberAt l htr D cy ad n σ hn x0 _) (cwV 1 S.2.2.2.2 gX3_owed_X3_memberAt rfl rfl rfl (by decide +kernel) ⟨Nat.le_of_ble_eq_true rfl, Nat.le_of_ble_eq_true rfl⟩) (xc_preV (cX_ok _ _) hX hw (k_0 n) (cE_0 _ _ _ _) rfl rfl) rfl rfl hl.1 rfl (lv_room (Nat.le_of_ble_eq_true rfl)) dX3_owed_2 ⟨Nat.le_of_ble_eq_true rfl, Nat.le_of_ble_eq_true rfl⟩) (fun _ he => he) (Nat.le_of_ble_eq_true rfl) (Nat.le_of_ble_eq_true rfl) (fun v9 u H locs hp hw => ?_)
  obtain ⟨_, rfl, hu9, hin1, rfl⟩ := hp
  rw [hu9] at hw
  clear hu9
  refine xc_Mi hw (va_runVN (As := []) (rest := []) S (c_X2_sumOwed l D cy ad n σ x0.toNatClampNeg hin1.2 _) ⟨va_cnB 0 S.2.2.2.2 gX3_owed_X2_sumOwed_n96 rfl rfl rfl (hX.1.w (w := .methodLinkNest RX3 96 yX2_sumOwed "UnionOffice") (by decide +kernel)) (hts (.initialized RX2) (by decide +kernel)) (by decide +kernel) ⟨Nat.le_of_ble_eq_true rfl, Nat.le_of_ble_eq_true rfl⟩, hts (.instanceMethod yX2_sumOwed) (by decide +kernel), hts (.selects RX2 yX2_sumOwed yX2_sumOwed) (by decide +kernel)⟩ (xc_preV (cX_ok _ _) hX hw (k_m hin1.2) (cE_m _ _ _ _ _) rfl rfl) rfl rfl hl.1 rfl (lv_room (Nat.le_of_ble_eq_true rfl)) dX3_owed_5 ⟨Nat.le_of_ble_eq_true rfl, Nat.le_of_ble_eq_true rfl⟩) (fun r9 u H locs hp hw => ?_)
  obtain ⟨hu9, rfl⟩ := hp
  rw [hu9] at hw
  clear hu9
  exact vx_ret (xe_i S.1 S.2.1 hr hlocks hw (⟨hin1, rfl, rfl⟩) (Nat.le_of_ble_eq_true rfl) (Nat.le_of_ble_eq_true rfl) dX3_owed_8)
abbrev rmX3_credit : Room := { frames := 7, cells := 1, slots := 6, locals := 105 }
theorem inX3_credit_X2 : (∀ w ∈ wsX20, w ∈ wsX3_credit) := by decide +kernel
set_option maxHeartbeats 1000000 in
set_option maxRecDepth 100000 in
/-- credit -/
theorem c_X3_credit (l : Launch) (hl9 : l.stackTraces = false) (D : va_G) (cy : Nat → ClassId) (ad : Nat → Nat) (n : Nat) (σ : S3) (hn : n ≤ 16) (x0 : Int32) : CT l yX3_credit wsX3_credit rmX3_credit D cy ad n [.ref (ad 0), .int x0] σ (xPi fun r u => inI x0 n ∧ u = σ ∧ r = σ 5 x0.toNatClampNeg 0) (e1 xIO (inI x0 n)) := by
  refine xs_T (cc := cX3_credit) (maxL := 2) (ret := (some .int)) (by decide +kernel) rfl (Nat.le_of_ble_eq_true rfl) ?_
  intro p e s m below meth c ls S hr hlocks htb hw hX hl
  have S : CallFix p m c cX3_credit 2 s [.ref (ad 0), .int x0].toArray wsX3_credit RX3 := S
  have hx := S.1
  have hb := S.2.1
  have hts := S.2.2.2.2
  have htr := hl9
  have hl : lv_has ls 2 [(0, .ref (ad 0)), (1, .int x0)] := hl
  refine lv_aload_n hx hb dX3_credit_0 rfl (lv_at hl 0 rfl) ?_
  refine lv_iload_n hx hb dX3_credit_1 rfl (lv_at hl 1 rfl) ?_
  refine xc_T htb hlocks hw (vx_runV (As := [.int x0]) (rest := []) S (c_X3_memberAt l htr D cy ad n σ hn x0 _) (cwV 1 S.2.2.2.2 gX3_credit_X3_memberAt rfl rfl rfl (by decide +kernel) ⟨Nat.le_of_ble_eq_true rfl, Nat.le_of_ble_eq_true rfl⟩) (xc_preV (cX_ok _ _) hX hw (k_0 n) (cE_0 _ _ _ _) rfl rfl) rfl rfl hl.1 rfl (lv_room (Nat.le_of_ble_eq_true rfl)) dX3_credit_2 ⟨Nat.le_of_ble_eq_true rfl, Nat.le_of_ble_eq_true rfl⟩) (fun _ he => he) (Nat.le_of_ble_eq_true rfl) (Nat.le_of_ble_eq_true rfl) (fun v9 u H locs hp hw => ?_)
  obtain ⟨_, rfl, hu9, hin1, rfl⟩ := hp
  rw [hu9] at hw
  clear hu9
  refine xr_getN S hw (j := 7) (k_m hin1.2) (cE_m _ _ _ _ _) rfl inX3_credit_X2 (by decide) (hX.1.w (w := .fieldLinkNest RX3 167 "UnionOffice$Member" "leftOver" "I" "UnionOffice") (by decide +kernel)) rfl dX3_credit_5 ?_
  exact vx_ret (xe_i S.1 S.2.1 hr hlocks hw (⟨hin1, rfl, rfl⟩) (Nat.le_of_ble_eq_true rfl) (Nat.le_of_ble_eq_true rfl) dX3_credit_8)
abbrev rmX3_hasStanding : Room := { frames := 7, cells := 1, slots := 6, locals := 105 }
theorem inX3_hasStanding_X3 : (∀ w ∈ wsX30, w ∈ wsX3_hasStanding) := by decide +kernel
set_option maxHeartbeats 1000000 in
set_option maxRecDepth 100000 in
/-- hasStanding -/
theorem c_X3_hasStanding (l : Launch) (hl9 : l.stackTraces = false) (D : va_G) (cy : Nat → ClassId) (ad : Nat → Nat) (n : Nat) (σ : S3) (hn : n ≤ 16) (x0 : Int32) : CT l yX3_hasStanding wsX3_hasStanding rmX3_hasStanding D cy ad n [.ref (ad 0), .int x0] σ (xPi fun r u => inI x0 n ∧ u = σ ∧ r = stI σ x0.toNatClampNeg (σ 18 0 0)) (e1 xIO (inI x0 n)) := by
  refine xs_T (cc := cX3_hasStanding) (maxL := 2) (ret := (some .boolean)) (by decide +kernel) rfl (Nat.le_of_ble_eq_true rfl) ?_
  intro p e s m below meth c ls S hr hlocks htb hw hX hl
  have S : CallFix p m c cX3_hasStanding 2 s [.ref (ad 0), .int x0].toArray wsX3_hasStanding RX3 := S
  have hx := S.1
  have hb := S.2.1
  have hts := S.2.2.2.2
  have htr := hl9
  have hl : lv_has ls 2 [(0, .ref (ad 0)), (1, .int x0)] := hl
  refine lv_aload_n hx hb dX3_hasStanding_0 rfl (lv_at hl 0 rfl) ?_
  refine lv_iload_n hx hb dX3_hasStanding_1 rfl (lv_at hl 1 rfl) ?_
  refine xc_T htb hlocks hw (vx_runV (As := [.int x0]) (rest := []) S (c_X3_memberAt l htr D cy ad n σ hn x0 _) (cwV 1 S.2.2.2.2 gX3_hasStanding_X3_memberAt rfl rfl rfl (by decide +kernel) ⟨Nat.le_of_ble_eq_true rfl, Nat.le_of_ble_eq_true rfl⟩) (xc_preV (cX_ok _ _) hX hw (k_0 n) (cE_0 _ _ _ _) rfl rfl) rfl rfl hl.1 rfl (lv_room (Nat.le_of_ble_eq_true rfl)) dX3_hasStanding_2 ⟨Nat.le_of_ble_eq_true rfl, Nat.le_of_ble_eq_true rfl⟩) (fun _ he => he) (Nat.le_of_ble_eq_true rfl) (Nat.le_of_ble_eq_true rfl) (fun v9 u H locs hp hw => ?_)
  obtain ⟨_, rfl, hu9, hin1, rfl⟩ := hp
  rw [hu9] at hw
  clear hu9
  refine lv_aload_n hx hb dX3_hasStanding_5 rfl (lv_at hl 0 rfl) ?_
  refine xr_get S hw (j := 5) (k_0 n) (cE_0 _ _ _ _) rfl inX3_hasStanding_X3 (by decide) (hts (.fieldLink RX3 38 "UnionOffice" "today" "I") (by decide +kernel)) rfl dX3_hasStanding_6 ?_
  refine xc_Mi hw (va_runVN (As := [.int (σ 18 0 0)]) (rest := []) S (c_X2_standsOn l D cy ad n σ x0.toNatClampNeg hin1.2 (σ 18 0 0) _) ⟨va_cnB 1 S.2.2.2.2 gX3_hasStanding_X2_standsOn_n120 rfl rfl rfl (hX.1.w (w := .methodLinkNest RX3 120 yX2_standsOn "UnionOffice") (by decide +kernel)) (hts (.initialized RX2) (by decide +kernel)) (by decide +kernel) ⟨Nat.le_of_ble_eq_true rfl, Nat.le_of_ble_eq_true rfl⟩, hts (.instanceMethod yX2_standsOn) (by decide +kernel), hts (.selects RX2 yX2_standsOn yX2_standsOn) (by decide +kernel)⟩ (xc_preV (cX_ok _ _) hX hw (k_m hin1.2) (cE_m _ _ _ _ _) rfl rfl) rfl rfl hl.1 rfl (lv_room (Nat.le_of_ble_eq_true rfl)) dX3_hasStanding_9 ⟨Nat.le_of_ble_eq_true rfl, Nat.le_of_ble_eq_true rfl⟩) (fun r9 u H locs hp hw => ?_)
  obtain ⟨hu9, rfl⟩ := hp
  rw [hu9] at hw
  clear hu9
  exact vx_ret (xe_z S.1 S.2.1 hr (stI_01 _ _ _) hlocks hw (⟨hin1, rfl, rfl⟩) (Nat.le_of_ble_eq_true rfl) (Nat.le_of_ble_eq_true rfl) dX3_hasStanding_12)
abbrev rmX3_strikePay : Room := { frames := 7, cells := 1, slots := 6, locals := 105 }
theorem inX3_strikePay_X2 : (∀ w ∈ wsX20, w ∈ wsX3_strikePay) := by decide +kernel
set_option maxHeartbeats 1000000 in
set_option maxRecDepth 100000 in
/-- strikePay -/
theorem c_X3_strikePay (l : Launch) (hl9 : l.stackTraces = false) (D : va_G) (cy : Nat → ClassId) (ad : Nat → Nat) (n : Nat) (σ : S3) (hn : n ≤ 16) (x0 : Int32) : CT l yX3_strikePay wsX3_strikePay rmX3_strikePay D cy ad n [.ref (ad 0), .int x0] σ (xPi fun r u => inI x0 n ∧ u = σ ∧ r = σ 6 x0.toNatClampNeg 0) (e1 xIO (inI x0 n)) := by
  refine xs_T (cc := cX3_strikePay) (maxL := 2) (ret := (some .int)) (by decide +kernel) rfl (Nat.le_of_ble_eq_true rfl) ?_
  intro p e s m below meth c ls S hr hlocks htb hw hX hl
  have S : CallFix p m c cX3_strikePay 2 s [.ref (ad 0), .int x0].toArray wsX3_strikePay RX3 := S
  have hx := S.1
  have hb := S.2.1
  have hts := S.2.2.2.2
  have htr := hl9
  have hl : lv_has ls 2 [(0, .ref (ad 0)), (1, .int x0)] := hl
  refine lv_aload_n hx hb dX3_strikePay_0 rfl (lv_at hl 0 rfl) ?_
  refine lv_iload_n hx hb dX3_strikePay_1 rfl (lv_at hl 1 rfl) ?_
  refine xc_T htb hlocks hw (vx_runV (As := [.int x0]) (rest := []) S (c_X3_memberAt l htr D cy ad n σ hn x0 _) (cwV 1 S.2.2.2.2 gX3_strikePay_X3_memberAt rfl rfl rfl (by decide +kernel) ⟨Nat.le_of_ble_eq_true rfl, Nat.le_of_ble_eq_true rfl⟩) (xc_preV (cX_ok _ _) hX hw (k_0 n) (cE_0 _ _ _ _) rfl rfl) rfl rfl hl.1 rfl (lv_room (Nat.le_of_ble_eq_true rfl)) dX3_strikePay_2 ⟨Nat.le_of_ble_eq_true rfl, Nat.le_of_ble_eq_true rfl⟩) (fun _ he => he) (Nat.le_of_ble_eq_true rfl) (Nat.le_of_ble_eq_true rfl) (fun v9 u H locs hp hw => ?_)
  obtain ⟨_, rfl, hu9, hin1, rfl⟩ := hp
  rw [hu9] at hw
  clear hu9
  refine xr_getN S hw (j := 8) (k_m hin1.2) (cE_m _ _ _ _ _) rfl inX3_strikePay_X2 (by decide) (hX.1.w (w := .fieldLinkNest RX3 180 "UnionOffice$Member" "strikePayHad" "I" "UnionOffice") (by decide +kernel)) rfl dX3_strikePay_5 ?_
  exact vx_ret (xe_i S.1 S.2.1 hr hlocks hw (⟨hin1, rfl, rfl⟩) (Nat.le_of_ble_eq_true rfl) (Nat.le_of_ble_eq_true rfl) dX3_strikePay_8)
abbrev rmX3_delegates : Room := { frames := 7, cells := 1, slots := 6, locals := 105 }
theorem inX3_delegates_X1 : (∀ w ∈ wsX10, w ∈ wsX3_delegates) := by decide +kernel
set_option maxHeartbeats 1000000 in
set_option maxRecDepth 100000 in
/-- delegates -/
theorem c_X3_delegates (l : Launch) (hl9 : l.stackTraces = false) (D : va_G) (cy : Nat → ClassId) (ad : Nat → Nat) (n : Nat) (σ : S3) (x0 : Int32) : CT l yX3_delegates wsX3_delegates rmX3_delegates D cy ad n [.ref (ad 0), .int x0] σ (xPi fun r u => inI x0 4 ∧ u = σ ∧ r = σ 16 x0.toNatClampNeg 0) (e1 xIO (inI x0 4)) := by
  refine xs_T (cc := cX3_delegates) (maxL := 2) (ret := (some .int)) (by decide +kernel) rfl (Nat.le_of_ble_eq_true rfl) ?_
  intro p e s m below meth c ls S hr hlocks htb hw hX hl
  have S : CallFix p m c cX3_delegates 2 s [.ref (ad 0), .int x0].toArray wsX3_delegates RX3 := S
  have hx := S.1
  have hb := S.2.1
  have hts := S.2.2.2.2
  have htr := hl9
  have hl : lv_has ls 2 [(0, .ref (ad 0)), (1, .int x0)] := hl
  refine lv_aload_n hx hb dX3_delegates_0 rfl (lv_at hl 0 rfl) ?_
  refine lv_iload_n hx hb dX3_delegates_1 rfl (lv_at hl 1 rfl) ?_
  refine xc_T htb hlocks hw (vx_runV (As := [.int x0]) (rest := []) S (c_X3_branchAt l htr D cy ad n σ x0 _) (cwV 1 S.2.2.2.2 gX3_delegates_X3_branchAt rfl rfl rfl (by decide +kernel) ⟨Nat.le_of_ble_eq_true rfl, Nat.le_of_ble_eq_true rfl⟩) (xc_preV (cX_ok _ _) hX hw (k_0 n) (cE_0 _ _ _ _) rfl rfl) rfl rfl hl.1 rfl (lv_room (Nat.le_of_ble_eq_true rfl)) dX3_delegates_2 ⟨Nat.le_of_ble_eq_true rfl, Nat.le_of_ble_eq_true rfl⟩) (fun _ he => he) (Nat.le_of_ble_eq_true rfl) (Nat.le_of_ble_eq_true rfl) (fun v9 u H locs hp hw => ?_)
  obtain ⟨_, rfl, hu9, hin1, rfl⟩ := hp
  rw [hu9] at hw
  clear hu9
  refine xr_getN S hw (j := 6) (k_br n hin1.2) (cE_br _ _ _ _ hin1.2) rfl inX3_delegates_X1 (by decide) (hX.1.w (w := .fieldLinkNest RX3 183 "UnionOffice$Branch" "delegatesOfYear" "I" "UnionOffice") (by decide +kernel)) rfl dX3_delegates_5 ?_
  exact vx_ret (xe_i S.1 S.2.1 hr hlocks hw (⟨hin1, rfl, rfl⟩) (Nat.le_of_ble_eq_true rfl) (Nat.le_of_ble_eq_true rfl) dX3_delegates_8)
abbrev rmX3_isOut : Room := { frames := 7, cells := 1, slots := 6, locals := 105 }
theorem inX3_isOut_X1 : (∀ w ∈ wsX10, w ∈ wsX3_isOut) := by decide +kernel
set_option maxHeartbeats 1000000 in
set_option maxRecDepth 100000 in
/-- isOut -/
theorem c_X3_isOut (l : Launch) (hl9 : l.stackTraces = false) (D : va_G) (cy : Nat → ClassId) (ad : Nat → Nat) (n : Nat) (σ : S3) (h14 : ∀ b, b < 4 → σ 14 b 0 = 0 ∨ σ 14 b 0 = 1) (x0 : Int32) : CT l yX3_isOut wsX3_isOut rmX3_isOut D cy ad n [.ref (ad 0), .int x0] σ (xPi fun r u => inI x0 4 ∧ u = σ ∧ r = σ 14 x0.toNatClampNeg 0) (e1 xIO (inI x0 4)) := by
  refine xs_T (cc := cX3_isOut) (maxL := 2) (ret := (some .boolean)) (by decide +kernel) rfl (Nat.le_of_ble_eq_true rfl) ?_
  intro p e s m below meth c ls S hr hlocks htb hw hX hl
  have S : CallFix p m c cX3_isOut 2 s [.ref (ad 0), .int x0].toArray wsX3_isOut RX3 := S
  have hx := S.1
  have hb := S.2.1
  have hts := S.2.2.2.2
  have htr := hl9
  have hl : lv_has ls 2 [(0, .ref (ad 0)), (1, .int x0)] := hl
  refine lv_aload_n hx hb dX3_isOut_0 rfl (lv_at hl 0 rfl) ?_
  refine lv_iload_n hx hb dX3_isOut_1 rfl (lv_at hl 1 rfl) ?_
  refine xc_T htb hlocks hw (vx_runV (As := [.int x0]) (rest := []) S (c_X3_branchAt l htr D cy ad n σ x0 _) (cwV 1 S.2.2.2.2 gX3_isOut_X3_branchAt rfl rfl rfl (by decide +kernel) ⟨Nat.le_of_ble_eq_true rfl, Nat.le_of_ble_eq_true rfl⟩) (xc_preV (cX_ok _ _) hX hw (k_0 n) (cE_0 _ _ _ _) rfl rfl) rfl rfl hl.1 rfl (lv_room (Nat.le_of_ble_eq_true rfl)) dX3_isOut_2 ⟨Nat.le_of_ble_eq_true rfl, Nat.le_of_ble_eq_true rfl⟩) (fun _ he => he) (Nat.le_of_ble_eq_true rfl) (Nat.le_of_ble_eq_true rfl) (fun v9 u H locs hp hw => ?_)
  obtain ⟨_, rfl, hu9, hin1, rfl⟩ := hp
  rw [hu9] at hw
  clear hu9
  refine xr_getN S hw (j := 5) (k_br n hin1.2) (cE_br _ _ _ _ hin1.2) rfl inX3_isOut_X1 (by decide) (hX.1.w (w := .fieldLinkNest RX3 108 "UnionOffice$Branch" "isOnStrike" "Z" "UnionOffice") (by decide +kernel)) rfl dX3_isOut_5 ?_
  exact vx_ret (xe_z S.1 S.2.1 hr (h14 _ hin1.2) hlocks hw (⟨hin1, rfl, rfl⟩) (Nat.le_of_ble_eq_true rfl) (Nat.le_of_ble_eq_true rfl) dX3_isOut_8)
abbrev rmX3_laid : Room := { frames := 7, cells := 3, slots := 18, locals := 105 }
theorem inX3_laid_X2 : (∀ w ∈ wsX20, w ∈ wsX3_laid) := by decide +kernel
theorem inX3_laid_X3 : (∀ w ∈ wsX30, w ∈ wsX3_laid) := by decide +kernel
theorem inX3_laid_xIS : (∀ w ∈ (vx_atS RX3 67 xIS nm2).filter goodWord, w ∈ wsX3_laid) := by
  intro w h
  first | exact List.mem_cons_of_mem _ (List.mem_append_right _ h) | exact List.mem_cons_of_mem _ (List.mem_append_left _ (List.mem_append_right _ h)) | exact List.mem_cons_of_mem _ (List.mem_append_left _ (List.mem_append_left _ (List.mem_append_right _ h)))
theorem inX3_laid_xIS1 : Cond.classLink RX3 63 xIS ∈ wsX3_laid ∧ Cond.initialized xIS ∈ wsX3_laid := ⟨by decide +kernel, by decide +kernel⟩
set_option maxHeartbeats 1000000 in
set_option maxRecDepth 100000 in
/-- laid -/
theorem c_X3_laid (l : Launch) (hl9 : l.stackTraces = false) (D : va_G) (cy : Nat → ClassId) (ad : Nat → Nat) (n : Nat) (σ : S3) (hn : n ≤ 16) (x0 x1 : Int32) : CT l yX3_laid wsX3_laid rmX3_laid D cy ad n [.ref (ad 0), .int x0, .int x1] σ (xPi fun r u => (inI x0 n ∧ endP σ x1) ∧ ¬ x1 < nI (fo σ) ∧ u = σ ∧ r = σ 8 x0.toNatClampNeg x1.toNatClampNeg) (e2 xIO xIS (inI x0 n ∧ endP σ x1) (¬ x1 < nI (fo σ))) := by
  refine xs_T (cc := cX3_laid) (maxL := 4) (ret := (some .int)) (by decide +kernel) rfl (Nat.le_of_ble_eq_true rfl) ?_
  intro p e s m below meth c ls S hr hlocks htb hw hX hl
  have S : CallFix p m c cX3_laid 4 s [.ref (ad 0), .int x0, .int x1].toArray wsX3_laid RX3 := S
  have hx := S.1
  have hb := S.2.1
  have hts := S.2.2.2.2
  have htr := hl9
  have hl : lv_has ls 4 [(0, .ref (ad 0)), (1, .int x0), (2, .int x1)] := hl
  refine lv_aload_n hx hb dX3_laid_0 rfl (lv_at hl 0 rfl) ?_
  refine lv_iload_n hx hb dX3_laid_1 rfl (lv_at hl 1 rfl) ?_
  refine xc_T htb hlocks hw (vx_runV (As := [.int x0]) (rest := []) S (c_X3_memberAt l htr D cy ad n σ hn x0 _) (cwV 1 S.2.2.2.2 gX3_laid_X3_memberAt rfl rfl rfl (by decide +kernel) ⟨Nat.le_of_ble_eq_true rfl, Nat.le_of_ble_eq_true rfl⟩) (xc_preV (cX_ok _ _) hX hw (k_0 n) (cE_0 _ _ _ _) rfl rfl) rfl rfl hl.1 rfl (lv_room (Nat.le_of_ble_eq_true rfl)) dX3_laid_2 ⟨Nat.le_of_ble_eq_true rfl, Nat.le_of_ble_eq_true rfl⟩) (fun _ he => Or.inl ⟨he.1, fun h => he.2 h.1⟩) (Nat.le_of_ble_eq_true rfl) (Nat.le_of_ble_eq_true rfl) (fun v9 u H locs hp hw => ?_)
  obtain ⟨_, rfl, hu9, hin1, rfl⟩ := hp
  rw [hu9] at hw
  clear hu9
  refine lv_astore_n (lv' := [(3, .ref (ad (15 + 3 * x0.toNatClampNeg))), (0, .ref (ad 0)), (1, .int x0), (2, .int x1)]) hx hb dX3_laid_5 rfl hl (by decide) rfl (fun ls hl => ?_)
  refine lv_aload_n hx hb dX3_laid_6 rfl (lv_at hl 1 rfl) ?_
  refine lv_iload_n hx hb dX3_laid_7 rfl (lv_at hl 3 rfl) ?_
  refine xc_T htb hlocks hw (vx_runV (As := [.int x1]) (rest := []) S (c_X3_checkEnded l htr D cy ad n σ x1 _) (cwV 1 S.2.2.2.2 gX3_laid_X3_checkEnded rfl rfl rfl (by decide +kernel) ⟨Nat.le_of_ble_eq_true rfl, Nat.le_of_ble_eq_true rfl⟩) (xc_preV (cX_ok _ _) hX hw (k_0 n) (cE_0 _ _ _ _) rfl rfl) rfl rfl hl.1 rfl (lv_room (Nat.le_of_ble_eq_true rfl)) dX3_laid_8 ⟨Nat.le_of_ble_eq_true rfl, Nat.le_of_ble_eq_true rfl⟩) (fun _ he => Or.inl ⟨he.1, fun h => he.2 h.2⟩) (Nat.le_of_ble_eq_true rfl) (Nat.le_of_ble_eq_true rfl) (fun v9 u H locs hp hw => ?_)
  obtain ⟨rfl, hu9, hed1⟩ := hp
  rw [hu9] at hw
  clear hu9
  refine lv_iload_n hx hb dX3_laid_11 rfl (lv_at hl 3 rfl) ?_
  refine lv_aload_n hx hb dX3_laid_12 rfl (lv_at hl 1 rfl) ?_
  refine xr_get S hw (j := 7) (k_0 n) (cE_0 _ _ _ _) rfl inX3_laid_X3 (by decide) (hts (.fieldLink RX3 44 "UnionOffice" "foldedMonths" "I") (by decide +kernel)) rfl dX3_laid_13 ?_
  refine lv_icmp_ge (tgt := 29) hx hb dX3_laid_16 (by decide) (fun c1 => ?_) (fun c1 => ?_)
  · refine lv_aload_n hx hb dX3_laid_29 rfl (lv_at hl 0 rfl) ?_
    refine xr_getN S hw (j := 2) (k_m hin1.2) (cE_m _ _ _ _ _) rfl inX3_laid_X2 (by decide) (hX.1.w (w := .fieldLinkNest RX3 175 "UnionOffice$Member" "laidOn" "[I" "UnionOffice") (by decide +kernel)) rfl dX3_laid_30 ?_
    refine lv_iload_n hx hb dX3_laid_33 rfl (lv_at hl 3 rfl) ?_
    refine xr_iald S hw (t0 := 0) (k_ml hin1.2) (cE_ml _ _ _ _ _) rfl hed1.vp dX3_laid_34 ?_
    exact vx_ret (xe_i S.1 S.2.1 hr hlocks hw (⟨⟨hin1, hed1⟩, Int32.not_lt.mpr c1, rfl, rfl⟩) (Nat.le_of_ble_eq_true rfl) (Nat.le_of_ble_eq_true rfl) dX3_laid_35)
  · exact xt_throw (text := "the month is folded") S htr hlocks htb hw hX hl.1 (by decide +kernel) inX3_laid_xIS1.1 inX3_laid_xIS1.2 inX3_laid_xIS tg_IS (by decide +kernel) dX3_laid_19 dX3_laid_22 dX3_laid_23 dX3_laid_25 dX3_laid_28 (Nat.le_of_ble_eq_true rfl) (Nat.le_of_ble_eq_true rfl) (Nat.le_of_ble_eq_true rfl) (Nat.le_of_ble_eq_true rfl) (Or.inr ⟨rfl, ⟨hin1, hed1⟩, fun h => c1 (Int32.not_lt.mp h)⟩)
abbrev rmX3_laidFor : Room := { frames := 7, cells := 2, slots := 12, locals := 105 }
theorem inX3_laidFor_X1 : (∀ w ∈ wsX10, w ∈ wsX3_laidFor) := by decide +kernel
set_option maxHeartbeats 1000000 in
set_option maxRecDepth 100000 in
/-- laidFor -/
theorem c_X3_laidFor (l : Launch) (hl9 : l.stackTraces = false) (D : va_G) (cy : Nat → ClassId) (ad : Nat → Nat) (n : Nat) (σ : S3) (x0 x1 : Int32) : CT l yX3_laidFor wsX3_laidFor rmX3_laidFor D cy ad n [.ref (ad 0), .int x0, .int x1] σ (xPi fun r u => (inI x0 4 ∧ endP σ x1) ∧ u = σ ∧ r = σ 9 x0.toNatClampNeg x1.toNatClampNeg) (e1 xIO (inI x0 4 ∧ endP σ x1)) := by
  refine xs_T (cc := cX3_laidFor) (maxL := 4) (ret := (some .int)) (by decide +kernel) rfl (Nat.le_of_ble_eq_true rfl) ?_
  intro p e s m below meth c ls S hr hlocks htb hw hX hl
  have S : CallFix p m c cX3_laidFor 4 s [.ref (ad 0), .int x0, .int x1].toArray wsX3_laidFor RX3 := S
  have hx := S.1
  have hb := S.2.1
  have hts := S.2.2.2.2
  have htr := hl9
  have hl : lv_has ls 4 [(0, .ref (ad 0)), (1, .int x0), (2, .int x1)] := hl
  refine lv_aload_n hx hb dX3_laidFor_0 rfl (lv_at hl 0 rfl) ?_
  refine lv_iload_n hx hb dX3_laidFor_1 rfl (lv_at hl 1 rfl) ?_
  refine xc_T htb hlocks hw (vx_runV (As := [.int x0]) (rest := []) S (c_X3_branchAt l htr D cy ad n σ x0 _) (cwV 1 S.2.2.2.2 gX3_laidFor_X3_branchAt rfl rfl rfl (by decide +kernel) ⟨Nat.le_of_ble_eq_true rfl, Nat.le_of_ble_eq_true rfl⟩) (xc_preV (cX_ok _ _) hX hw (k_0 n) (cE_0 _ _ _ _) rfl rfl) rfl rfl hl.1 rfl (lv_room (Nat.le_of_ble_eq_true rfl)) dX3_laidFor_2 ⟨Nat.le_of_ble_eq_true rfl, Nat.le_of_ble_eq_true rfl⟩) (fun _ he => ⟨he.1, fun h => he.2 h.1⟩) (Nat.le_of_ble_eq_true rfl) (Nat.le_of_ble_eq_true rfl) (fun v9 u H locs hp hw => ?_)
  obtain ⟨_, rfl, hu9, hin1, rfl⟩ := hp
  rw [hu9] at hw
  clear hu9
  refine lv_astore_n (lv' := [(3, .ref (ad (7 + x0.toNatClampNeg))), (0, .ref (ad 0)), (1, .int x0), (2, .int x1)]) hx hb dX3_laidFor_5 rfl hl (by decide) rfl (fun ls hl => ?_)
  refine lv_aload_n hx hb dX3_laidFor_6 rfl (lv_at hl 1 rfl) ?_
  refine lv_iload_n hx hb dX3_laidFor_7 rfl (lv_at hl 3 rfl) ?_
  refine xc_T htb hlocks hw (vx_runV (As := [.int x1]) (rest := []) S (c_X3_checkEnded l htr D cy ad n σ x1 _) (cwV 1 S.2.2.2.2 gX3_laidFor_X3_checkEnded rfl rfl rfl (by decide +kernel) ⟨Nat.le_of_ble_eq_true rfl, Nat.le_of_ble_eq_true rfl⟩) (xc_preV (cX_ok _ _) hX hw (k_0 n) (cE_0 _ _ _ _) rfl rfl) rfl rfl hl.1 rfl (lv_room (Nat.le_of_ble_eq_true rfl)) dX3_laidFor_8 ⟨Nat.le_of_ble_eq_true rfl, Nat.le_of_ble_eq_true rfl⟩) (fun _ he => ⟨he.1, fun h => he.2 h.2⟩) (Nat.le_of_ble_eq_true rfl) (Nat.le_of_ble_eq_true rfl) (fun v9 u H locs hp hw => ?_)
  obtain ⟨rfl, hu9, hed1⟩ := hp
  rw [hu9] at hw
  clear hu9
  refine lv_aload_n hx hb dX3_laidFor_11 rfl (lv_at hl 0 rfl) ?_
  refine xr_getN S hw (j := 0) (k_br n hin1.2) (cE_br _ _ _ _ hin1.2) rfl inX3_laidFor_X1 (by decide) (hX.1.w (w := .fieldLinkNest RX3 179 "UnionOffice$Branch" "laidOn" "[I" "UnionOffice") (by decide +kernel)) rfl dX3_laidFor_12 ?_
  refine lv_iload_n hx hb dX3_laidFor_15 rfl (lv_at hl 3 rfl) ?_
  refine xr_iald S hw (t0 := 0) (k_la n hin1.2) (cE_la _ _ _ _ hin1.2) rfl hed1.vp dX3_laidFor_16 ?_
  exact vx_ret (xe_i S.1 S.2.1 hr hlocks hw (⟨⟨hin1, hed1⟩, rfl, rfl⟩) (Nat.le_of_ble_eq_true rfl) (Nat.le_of_ble_eq_true rfl) dX3_laidFor_17)
