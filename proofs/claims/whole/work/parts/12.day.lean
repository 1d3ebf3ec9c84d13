/-! ===== UnionOffice: what the calls look up and test, the end of a day ===== -/
theorem vr_band {ad : Nat → Nat} {j : Nat} (h : j < 3) : va_rf (if j < 3 then some (ad (4 + j)) else none) = .ref (ad (4 + j)) := by rw [if_pos h]; rfl
theorem vr_br {ad : Nat → Nat} {j : Nat} (h : j < 4) : va_rf (if j < 4 then some (ad (7 + j)) else none) = .ref (ad (7 + j)) := by rw [if_pos h]; rfl
theorem vr_m {ad : Nat → Nat} {j n : Nat} (h : j < n) : va_rf (if j < n then some (ad (15 + 3 * j)) else none) = .ref (ad (15 + 3 * j)) := by rw [if_pos h]; rfl
theorem vr_mN {ad : Nat → Nat} {j n : Nat} (h : ¬ j < n) : va_rf (if j < n then some (ad (15 + 3 * j)) else none) = .null := by rw [if_neg h]; rfl
theorem in_of {x y : Int32} {k : Nat} (hk : k < 2 ^ 31) (hy : y = nI k) (h0 : ¬ x < 0) (h : x < y) : inI x k := by
  refine ⟨h0, ?_⟩
  obtain ⟨j, hj, rfl⟩ := nI_of h0
  subst hy
  rw [nI_clamp hj]
  exact (nI_ltI hj hk).mp h
theorem in_lt {x y : Int32} {k : Nat} (hk : k < 2 ^ 31) (hy : y = nI k) (h : inI x k) : x < y := by
  obtain ⟨h0, h1⟩ := h
  obtain ⟨j, hj, rfl⟩ := nI_of h0
  subst hy
  rw [nI_clamp hj] at h1
  exact (nI_ltI hj hk).mpr h1
theorem in_le {x : Int32} {j k : Nat} (h : inI x j) (hjk : j ≤ k) : inI x k := ⟨h.1, Nat.lt_of_lt_of_le h.2 hjk⟩
abbrev rgI (v a b : Int32) : Prop := ¬ v < a ∧ v ≤ b
abbrev endP (σ : S3) (x : Int32) : Prop := ¬ x < 0 ∧ ¬ 60 ≤ x ∧ ¬ σ 18 0 0 / 30 ≤ x
def heI (σ : S3) (x : Int32) : Int32 := if endP σ x then 1 else 0
theorem heI_1 {σ : S3} {x : Int32} : ¬ heI σ x = 0 ↔ endP σ x := by
  unfold heI
  by_cases h : endP σ x
  · rw [if_pos h]; exact ⟨fun _ => h, fun _ => by decide⟩
  · rw [if_neg h]; exact ⟨fun z => absurd rfl z, fun z => absurd z h⟩
theorem heI_0 {σ : S3} {x : Int32} : heI σ x = 0 ↔ ¬ endP σ x := by
  rw [← heI_1, Decidable.not_not]
theorem endP.in60 {σ : S3} {x : Int32} (h : endP σ x) : inI x 60 := in_of (by decide) rfl h.1 (Int32.not_le.mp h.2.1)
theorem endP.vp {σ : S3} {x : Int32} (h : endP σ x) : vp_in x 60 := vp_of_in h.in60
abbrev rmX3_bandAt : Room := { frames := 6, cells := 1, slots := 6, locals := 84 }
theorem inX3_bandAt_X3 : (∀ w ∈ wsX30, w ∈ wsX3_bandAt) := by decide +kernel
theorem inX3_bandAt_xIO : (∀ w ∈ (vx_atS RX3 190 xIO nm2).filter goodWord, w ∈ wsX3_bandAt) := by
  intro w h
  first | exact List.mem_cons_of_mem _ (List.mem_append_right _ h) | exact List.mem_cons_of_mem _ (List.mem_append_left _ (List.mem_append_right _ h)) | exact List.mem_cons_of_mem _ (List.mem_append_left _ (List.mem_append_left _ (List.mem_append_right _ h)))
theorem inX3_bandAt_xIO1 : Cond.classLink RX3 186 xIO ∈ wsX3_bandAt ∧ Cond.initialized xIO ∈ wsX3_bandAt := ⟨by decide +kernel, by decide +kernel⟩
set_option maxHeartbeats 1000000 in
set_option maxRecDepth 100000 in
/-- bandAt -/
theorem c_X3_bandAt (l : Launch) (hl9 : l.stackTraces = false) (D : va_G) (cy : Nat → ClassId) (ad : Nat → Nat) (n : Nat) (σ : S3) (x0 : Int32) : CT l yX3_bandAt wsX3_bandAt rmX3_bandAt D cy ad n [.ref (ad 0), .int x0] σ (xPr fun r u => u = σ ∧ inI x0 3 ∧ r = ad (4 + x0.toNatClampNeg)) (fun E9 => E9 = xIO ∧ ¬ inI x0 3) := by
  refine xs_T (cc := cX3_bandAt) (maxL := 2) (ret := (some (.object "UnionOffice$Band"))) (by decide +kernel) rfl (Nat.le_of_ble_eq_true rfl) ?_
  intro p e s m below meth c ls S hr hlocks htb hw hX hl
  have S : CallFix p m c cX3_bandAt 2 s [.ref (ad 0), .int x0].toArray wsX3_bandAt RX3 := S
  have hx := S.1
  have hb := S.2.1
  have hts := S.2.2.2.2
  have htr := hl9
  have hl : lv_has ls 2 [(0, .ref (ad 0)), (1, .int x0)] := hl
  refine lv_iload_n hx hb dX3_bandAt_0 rfl (lv_at hl 1 rfl) ?_
  refine lv_if_lt (tgt := 13) hx hb dX3_bandAt_1 (by decide) (fun c1 => ?_) (fun c1 => ?_)
  · exact xt_throw (text := "no such band") S htr hlocks htb hw hX hl.1 (by decide +kernel) inX3_bandAt_xIO1.1 inX3_bandAt_xIO1.2 inX3_bandAt_xIO tg_IO (by decide +kernel) dX3_bandAt_13 dX3_bandAt_16 dX3_bandAt_17 dX3_bandAt_19 dX3_bandAt_22 (Nat.le_of_ble_eq_true rfl) (Nat.le_of_ble_eq_true rfl) (Nat.le_of_ble_eq_true rfl) (Nat.le_of_ble_eq_true rfl) (⟨rfl, fun h => h.1 c1⟩)
  · refine lv_iload_n hx hb dX3_bandAt_4 rfl (lv_at hl 1 rfl) ?_
    refine lv_aload_n hx hb dX3_bandAt_5 rfl (lv_at hl 0 rfl) ?_
    refine xr_get S hw (j := 0) (k_0 n) (cE_0 _ _ _ _) rfl inX3_bandAt_X3 (by decide) (hts (.fieldLink RX3 14 "UnionOffice" "bands" "[LUnionOffice$Band;") (by decide +kernel)) rfl dX3_bandAt_6 ?_
    refine xr_alen S hw (t0 := 2) (k_1 n) (cE_1 _ _ _ _) rfl (v := 3) rfl dX3_bandAt_9 ?_
    refine lv_icmp_lt (tgt := 23) hx hb dX3_bandAt_10 (by decide) (fun c2 => ?_) (fun c2 => ?_)
    · have h9 : inI x0 3 := in_of (by decide) rfl c1 c2
      refine lv_aload_n hx hb dX3_bandAt_23 rfl (lv_at hl 0 rfl) ?_
      refine xr_get S hw (j := 0) (k_0 n) (cE_0 _ _ _ _) rfl inX3_bandAt_X3 (by decide) (hts (.fieldLink RX3 14 "UnionOffice" "bands" "[LUnionOffice$Band;") (by decide +kernel)) rfl dX3_bandAt_24 ?_
      refine lv_iload_n hx hb dX3_bandAt_27 rfl (lv_at hl 1 rfl) ?_
      refine xp_aald S hw (t0 := 2) (k_1 n) (cE_1 _ _ _ _) rfl (vp_of_in h9) (vr_band h9.2) dX3_bandAt_28 ?_
      exact vx_ret (xe_r S.1 S.2.1 hr hlocks hw (⟨rfl, h9, rfl⟩) (Nat.le_of_ble_eq_true rfl) (Nat.le_of_ble_eq_true rfl) dX3_bandAt_29)
    · exact xt_throw (text := "no such band") S htr hlocks htb hw hX hl.1 (by decide +kernel) inX3_bandAt_xIO1.1 inX3_bandAt_xIO1.2 inX3_bandAt_xIO tg_IO (by decide +kernel) dX3_bandAt_13 dX3_bandAt_16 dX3_bandAt_17 dX3_bandAt_19 dX3_bandAt_22 (Nat.le_of_ble_eq_true rfl) (Nat.le_of_ble_eq_true rfl) (Nat.le_of_ble_eq_true rfl) (Nat.le_of_ble_eq_true rfl) (⟨rfl, fun h => c2 (in_lt (by decide) rfl h)⟩)
abbrev rmX3_branchAt : Room := { frames := 6, cells := 1, slots := 6, locals := 84 }
theorem inX3_branchAt_X3 : (∀ w ∈ wsX30, w ∈ wsX3_branchAt) := by decide +kernel
theorem inX3_branchAt_xIO : (∀ w ∈ (vx_atS RX3 190 xIO nm2).filter goodWord, w ∈ wsX3_branchAt) := by
  intro w h
  first | exact List.mem_cons_of_mem _ (List.mem_append_right _ h) | exact List.mem_cons_of_mem _ (List.mem_append_left _ (List.mem_append_right _ h)) | exact List.mem_cons_of_mem _ (List.mem_append_left _ (List.mem_append_left _ (List.mem_append_right _ h)))
theorem inX3_branchAt_xIO1 : Cond.classLink RX3 186 xIO ∈ wsX3_branchAt ∧ Cond.initialized xIO ∈ wsX3_branchAt := ⟨by decide +kernel, by decide +kernel⟩
set_option maxHeartbeats 1000000 in
set_option maxRecDepth 100000 in
/-- branchAt -/
theorem c_X3_branchAt (l : Launch) (hl9 : l.stackTraces = false) (D : va_G) (cy : Nat → ClassId) (ad : Nat → Nat) (n : Nat) (σ : S3) (x0 : Int32) : CT l yX3_branchAt wsX3_branchAt rmX3_branchAt D cy ad n [.ref (ad 0), .int x0] σ (xPr fun r u => u = σ ∧ inI x0 4 ∧ r = ad (7 + x0.toNatClampNeg)) (fun E9 => E9 = xIO ∧ ¬ inI x0 4) := by
  refine xs_T (cc := cX3_branchAt) (maxL := 2) (ret := (some (.object "UnionOffice$Branch"))) (by decide +kernel) rfl (Nat.le_of_ble_eq_true rfl) ?_
  intro p e s m below meth c ls S hr hlocks htb hw hX hl
  have S : CallFix p m c cX3_branchAt 2 s [.ref (ad 0), .int x0].toArray wsX3_branchAt RX3 := S
  have hx := S.1
  have hb := S.2.1
  have hts := S.2.2.2.2
  have htr := hl9
  have hl : lv_has ls 2 [(0, .ref (ad 0)), (1, .int x0)] := hl
  refine lv_iload_n hx hb dX3_branchAt_0 rfl (lv_at hl 1 rfl) ?_
  refine lv_if_lt (tgt := 13) hx hb dX3_branchAt_1 (by decide) (fun c1 => ?_) (fun c1 => ?_)
  · exact xt_throw (text := "no such branch") S htr hlocks htb hw hX hl.1 (by decide +kernel) inX3_branchAt_xIO1.1 inX3_branchAt_xIO1.2 inX3_branchAt_xIO tg_IO (by decide +kernel) dX3_branchAt_13 dX3_branchAt_16 dX3_branchAt_17 dX3_branchAt_19 dX3_branchAt_22 (Nat.le_of_ble_eq_true rfl) (Nat.le_of_ble_eq_true rfl) (Nat.le_of_ble_eq_true rfl) (Nat.le_of_ble_eq_true rfl) (⟨rfl, fun h => h.1 c1⟩)
  · refine lv_iload_n hx hb dX3_branchAt_4 rfl (lv_at hl 1 rfl) ?_
    refine lv_aload_n hx hb dX3_branchAt_5 rfl (lv_at hl 0 rfl) ?_
    refine xr_get S hw (j := 1) (k_0 n) (cE_0 _ _ _ _) rfl inX3_branchAt_X3 (by decide) (hts (.fieldLink RX3 21 "UnionOffice" "branches" "[LUnionOffice$Branch;") (by decide +kernel)) rfl dX3_branchAt_6 ?_
    refine xr_alen S hw (t0 := 3) (k_2 n) (cE_2 _ _ _ _) rfl (v := 4) rfl dX3_branchAt_9 ?_
    refine lv_icmp_lt (tgt := 23) hx hb dX3_branchAt_10 (by decide) (fun c2 => ?_) (fun c2 => ?_)
    · have h9 : inI x0 4 := in_of (by decide) rfl c1 c2
      refine lv_aload_n hx hb dX3_branchAt_23 rfl (lv_at hl 0 rfl) ?_
      refine xr_get S hw (j := 1) (k_0 n) (cE_0 _ _ _ _) rfl inX3_branchAt_X3 (by decide) (hts (.fieldLink RX3 21 "UnionOffice" "branches" "[LUnionOffice$Branch;") (by decide +kernel)) rfl dX3_branchAt_24 ?_
      refine lv_iload_n hx hb dX3_branchAt_27 rfl (lv_at hl 1 rfl) ?_
      refine xp_aald S hw (t0 := 3) (k_2 n) (cE_2 _ _ _ _) rfl (vp_of_in h9) (vr_br h9.2) dX3_branchAt_28 ?_
      exact vx_ret (xe_r S.1 S.2.1 hr hlocks hw (⟨rfl, h9, rfl⟩) (Nat.le_of_ble_eq_true rfl) (Nat.le_of_ble_eq_true rfl) dX3_branchAt_29)
    · exact xt_throw (text := "no such branch") S htr hlocks htb hw hX hl.1 (by decide +kernel) inX3_branchAt_xIO1.1 inX3_branchAt_xIO1.2 inX3_branchAt_xIO tg_IO (by decide +kernel) dX3_branchAt_13 dX3_branchAt_16 dX3_branchAt_17 dX3_branchAt_19 dX3_branchAt_22 (Nat.le_of_ble_eq_true rfl) (Nat.le_of_ble_eq_true rfl) (Nat.le_of_ble_eq_true rfl) (Nat.le_of_ble_eq_true rfl) (⟨rfl, fun h => c2 (in_lt (by decide) rfl h)⟩)
abbrev rmX3_memberAt : Room := { frames := 6, cells := 1, slots := 6, locals := 84 }
theorem inX3_memberAt_X3 : (∀ w ∈ wsX30, w ∈ wsX3_memberAt) := by decide +kernel
theorem inX3_memberAt_xIO : (∀ w ∈ (vx_atS RX3 190 xIO nm2).filter goodWord, w ∈ wsX3_memberAt) := by
  intro w h
  first | exact List.mem_cons_of_mem _ (List.mem_append_right _ h) | exact List.mem_cons_of_mem _ (List.mem_append_left _ (List.mem_append_right _ h)) | exact List.mem_cons_of_mem _ (List.mem_append_left _ (List.mem_append_left _ (List.mem_append_right _ h)))
theorem inX3_memberAt_xIO1 : Cond.classLink RX3 186 xIO ∈ wsX3_memberAt ∧ Cond.initialized xIO ∈ wsX3_memberAt := ⟨by decide +kernel, by decide +kernel⟩
set_option maxHeartbeats 1000000 in
set_option maxRecDepth 100000 in
/-- memberAt -/
theorem c_X3_memberAt (l : Launch) (hl9 : l.stackTraces = false) (D : va_G) (cy : Nat → ClassId) (ad : Nat → Nat) (n : Nat) (σ : S3) (hn : n ≤ 16) (x0 : Int32) : CT l yX3_memberAt wsX3_memberAt rmX3_memberAt D cy ad n [.ref (ad 0), .int x0] σ (xPr fun r u => u = σ ∧ inI x0 n ∧ r = ad (15 + 3 * x0.toNatClampNeg)) (fun E9 => E9 = xIO ∧ ¬ inI x0 n) := by
  refine xs_T (cc := cX3_memberAt) (maxL := 2) (ret := (some (.object "UnionOffice$Member"))) (by decide +kernel) rfl (Nat.le_of_ble_eq_true rfl) ?_
  intro p e s m below meth c ls S hr hlocks htb hw hX hl
  have S : CallFix p m c cX3_memberAt 2 s [.ref (ad 0), .int x0].toArray wsX3_memberAt RX3 := S
  have hx := S.1
  have hb := S.2.1
  have hts := S.2.2.2.2
  have htr := hl9
  have hl : lv_has ls 2 [(0, .ref (ad 0)), (1, .int x0)] := hl
  refine lv_iload_n hx hb dX3_memberAt_0 rfl (lv_at hl 1 rfl) ?_
  refine lv_if_lt (tgt := 22) hx hb dX3_memberAt_1 (by decide) (fun c1 => ?_) (fun c1 => ?_)
  · exact xt_throw (text := "no such member") S htr hlocks htb hw hX hl.1 (by decide +kernel) inX3_memberAt_xIO1.1 inX3_memberAt_xIO1.2 inX3_memberAt_xIO tg_IO (by decide +kernel) dX3_memberAt_22 dX3_memberAt_25 dX3_memberAt_26 dX3_memberAt_28 dX3_memberAt_31 (Nat.le_of_ble_eq_true rfl) (Nat.le_of_ble_eq_true rfl) (Nat.le_of_ble_eq_true rfl) (Nat.le_of_ble_eq_true rfl) (⟨rfl, fun h => h.1 c1⟩)
  · refine lv_iload_n hx hb dX3_memberAt_4 rfl (lv_at hl 1 rfl) ?_
    refine lv_aload_n hx hb dX3_memberAt_5 rfl (lv_at hl 0 rfl) ?_
    refine xr_get S hw (j := 2) (k_0 n) (cE_0 _ _ _ _) rfl inX3_memberAt_X3 (by decide) (hts (.fieldLink RX3 27 "UnionOffice" "members" "[LUnionOffice$Member;") (by decide +kernel)) rfl dX3_memberAt_6 ?_
    refine xr_alen S hw (t0 := 4) (k_3 n) (cE_3 _ _ _ _) rfl (v := 16) rfl dX3_memberAt_9 ?_
    refine lv_icmp_ge (tgt := 22) hx hb dX3_memberAt_10 (by decide) (fun c2 => ?_) (fun c2 => ?_)
    · exact xt_throw (text := "no such member") S htr hlocks htb hw hX hl.1 (by decide +kernel) inX3_memberAt_xIO1.1 inX3_memberAt_xIO1.2 inX3_memberAt_xIO tg_IO (by decide +kernel) dX3_memberAt_22 dX3_memberAt_25 dX3_memberAt_26 dX3_memberAt_28 dX3_memberAt_31 (Nat.le_of_ble_eq_true rfl) (Nat.le_of_ble_eq_true rfl) (Nat.le_of_ble_eq_true rfl) (Nat.le_of_ble_eq_true rfl) (⟨rfl, fun h => (Int32.not_lt.mpr c2) (in_lt (by decide) rfl (in_le h hn))⟩)
    · have h9 : inI x0 16 := in_of (by decide) rfl c1 (Int32.not_le.mp c2)
      refine lv_aload_n hx hb dX3_memberAt_13 rfl (lv_at hl 0 rfl) ?_
      refine xr_get S hw (j := 2) (k_0 n) (cE_0 _ _ _ _) rfl inX3_memberAt_X3 (by decide) (hts (.fieldLink RX3 27 "UnionOffice" "members" "[LUnionOffice$Member;") (by decide +kernel)) rfl dX3_memberAt_14 ?_
      refine lv_iload_n hx hb dX3_memberAt_17 rfl (lv_at hl 1 rfl) ?_
      by_cases hjn : x0.toNatClampNeg < n
      · refine xp_aald S hw (t0 := 4) (k_3 n) (cE_3 _ _ _ _) rfl (vp_of_in h9) (vr_m hjn) dX3_memberAt_18 ?_
        refine lv_ifnonnull (tgt := 32) hx hb dX3_memberAt_19 (by decide) ?_
        refine lv_aload_n hx hb dX3_memberAt_32 rfl (lv_at hl 0 rfl) ?_
        refine xr_get S hw (j := 2) (k_0 n) (cE_0 _ _ _ _) rfl inX3_memberAt_X3 (by decide) (hts (.fieldLink RX3 27 "UnionOffice" "members" "[LUnionOffice$Member;") (by decide +kernel)) rfl dX3_memberAt_33 ?_
        refine lv_iload_n hx hb dX3_memberAt_36 rfl (lv_at hl 1 rfl) ?_
        refine xp_aald S hw (t0 := 4) (k_3 n) (cE_3 _ _ _ _) rfl (vp_of_in h9) (vr_m hjn) dX3_memberAt_37 ?_
        exact vx_ret (xe_r S.1 S.2.1 hr hlocks hw (⟨rfl, ⟨c1, hjn⟩, rfl⟩) (Nat.le_of_ble_eq_true rfl) (Nat.le_of_ble_eq_true rfl) dX3_memberAt_38)
      · refine xp_aald S hw (t0 := 4) (k_3 n) (cE_3 _ _ _ _) rfl (vp_of_in h9) (vr_mN hjn) dX3_memberAt_18 ?_
        refine lv_ifnonnullN hx hb dX3_memberAt_19 ?_
        exact xt_throw (text := "no such member") S htr hlocks htb hw hX hl.1 (by decide +kernel) inX3_memberAt_xIO1.1 inX3_memberAt_xIO1.2 inX3_memberAt_xIO tg_IO (by decide +kernel) dX3_memberAt_22 dX3_memberAt_25 dX3_memberAt_26 dX3_memberAt_28 dX3_memberAt_31 (Nat.le_of_ble_eq_true rfl) (Nat.le_of_ble_eq_true rfl) (Nat.le_of_ble_eq_true rfl) (Nat.le_of_ble_eq_true rfl) (⟨rfl, fun h => hjn h.2⟩)
abbrev rmX3_checkNotLeft : Room := { frames := 6, cells := 1, slots := 6, locals := 84 }
theorem inX3_checkNotLeft_X2 : (∀ w ∈ wsX20, w ∈ wsX3_checkNotLeft) := by decide +kernel
theorem inX3_checkNotLeft_xIS : (∀ w ∈ (vx_atS RX3 67 xIS nm2).filter goodWord, w ∈ wsX3_checkNotLeft) := by
  intro w h
  first | exact List.mem_cons_of_mem _ (List.mem_append_right _ h) | exact List.mem_cons_of_mem _ (List.mem_append_left _ (List.mem_append_right _ h)) | exact List.mem_cons_of_mem _ (List.mem_append_left _ (List.mem_append_left _ (List.mem_append_right _ h)))
theorem inX3_checkNotLeft_xIS1 : Cond.classLink RX3 63 xIS ∈ wsX3_checkNotLeft ∧ Cond.initialized xIS ∈ wsX3_checkNotLeft := ⟨by decide +kernel, by decide +kernel⟩
set_option maxHeartbeats 1000000 in
set_option maxRecDepth 100000 in
/-- checkNotLeft -/
theorem c_X3_checkNotLeft (l : Launch) (hl9 : l.stackTraces = false) (D : va_G) (cy : Nat → ClassId) (ad : Nat → Nat) (n : Nat) (σ : S3) (i : Nat) (hi : i < n) : CT l yX3_checkNotLeft wsX3_checkNotLeft rmX3_checkNotLeft D cy ad n [.ref (ad 0), .ref (ad (15 + 3 * i))] σ (xPv fun u => u = σ ∧ σ 3 i 0 = 0) (fun E9 => E9 = xIS ∧ ¬ σ 3 i 0 = 0) := by
  refine xs_T (cc := cX3_checkNotLeft) (maxL := 2) (ret := none) (by decide +kernel) rfl (Nat.le_of_ble_eq_true rfl) ?_
  intro p e s m below meth c ls S hr hlocks htb hw hX hl
  have S : CallFix p m c cX3_checkNotLeft 2 s [.ref (ad 0), .ref (ad (15 + 3 * i))].toArray wsX3_checkNotLeft RX3 := S
  have hx := S.1
  have hb := S.2.1
  have hts := S.2.2.2.2
  have htr := hl9
  have hl : lv_has ls 2 [(0, .ref (ad 0)), (1, .ref (ad (15 + 3 * i)))] := hl
  refine lv_aload_n hx hb dX3_checkNotLeft_0 rfl (lv_at hl 1 rfl) ?_
  refine xr_getN S hw (j := 6) (k_m hi) (cE_m _ _ _ _ _) rfl inX3_checkNotLeft_X2 (by decide) (hX.1.w (w := .fieldLinkNest RX3 93 "UnionOffice$Member" "hasLeft" "Z" "UnionOffice") (by decide +kernel)) rfl dX3_checkNotLeft_1 ?_
  refine lv_if_eq (tgt := 17) hx hb dX3_checkNotLeft_4 (by decide) (fun c1 => ?_) (fun c1 => ?_)
  · exact vx_ret (xe_v S.1 S.2.1 hr hlocks hw (⟨rfl, c1⟩) (Nat.le_of_ble_eq_true rfl) (Nat.le_of_ble_eq_true rfl) dX3_checkNotLeft_17)
  · exact xt_throw (text := "the member has left") S htr hlocks htb hw hX hl.1 (by decide +kernel) inX3_checkNotLeft_xIS1.1 inX3_checkNotLeft_xIS1.2 inX3_checkNotLeft_xIS tg_IS (by decide +kernel) dX3_checkNotLeft_7 dX3_checkNotLeft_10 dX3_checkNotLeft_11 dX3_checkNotLeft_13 dX3_checkNotLeft_16 (Nat.le_of_ble_eq_true rfl) (Nat.le_of_ble_eq_true rfl) (Nat.le_of_ble_eq_true rfl) (Nat.le_of_ble_eq_true rfl) (⟨rfl, c1⟩)
abbrev rmX3_checkRange : Room := { frames := 6, cells := 1, slots := 6, locals := 84 }
theorem inX3_checkRange_xIA : (∀ w ∈ (vx_atS RX3 163 xIA nm2).filter goodWord, w ∈ wsX3_checkRange) := by
  intro w h
  first | exact List.mem_cons_of_mem _ (List.mem_append_right _ h) | exact List.mem_cons_of_mem _ (List.mem_append_left _ (List.mem_append_right _ h)) | exact List.mem_cons_of_mem _ (List.mem_append_left _ (List.mem_append_left _ (List.mem_append_right _ h)))
theorem inX3_checkRange_xIA1 : Cond.classLink RX3 159 xIA ∈ wsX3_checkRange ∧ Cond.initialized xIA ∈ wsX3_checkRange := ⟨by decide +kernel, by decide +kernel⟩
set_option maxHeartbeats 1000000 in
set_option maxRecDepth 100000 in
/-- checkRange -/
theorem c_X3_checkRange (l : Launch) (hl9 : l.stackTraces = false) (D : va_G) (cy : Nat → ClassId) (ad : Nat → Nat) (n : Nat) (σ : S3) (x0 x1 x2 : Int32) : CT l yX3_checkRange wsX3_checkRange rmX3_checkRange D cy ad n [.ref (ad 0), .int x0, .int x1, .int x2] σ (xPv fun u => u = σ ∧ rgI x0 x1 x2) (fun E9 => E9 = xIA ∧ ¬ rgI x0 x1 x2) := by
  refine xs_T (cc := cX3_checkRange) (maxL := 4) (ret := none) (by decide +kernel) rfl (Nat.le_of_ble_eq_true rfl) ?_
  intro p e s m below meth c ls S hr hlocks htb hw hX hl
  have S : CallFix p m c cX3_checkRange 4 s [.ref (ad 0), .int x0, .int x1, .int x2].toArray wsX3_checkRange RX3 := S
  have hx := S.1
  have hb := S.2.1
  have hts := S.2.2.2.2
  have htr := hl9
  have hl : lv_has ls 4 [(0, .ref (ad 0)), (1, .int x0), (2, .int x1), (3, .int x2)] := hl
  refine lv_iload_n hx hb dX3_checkRange_0 rfl (lv_at hl 1 rfl) ?_
  refine lv_iload_n hx hb dX3_checkRange_1 rfl (lv_at hl 2 rfl) ?_
  refine lv_icmp_lt (tgt := 10) hx hb dX3_checkRange_2 (by decide) (fun c1 => ?_) (fun c1 => ?_)
  · exact xt_throw (text := "out of range") S htr hlocks htb hw hX hl.1 (by decide +kernel) inX3_checkRange_xIA1.1 inX3_checkRange_xIA1.2 inX3_checkRange_xIA tg_IA (by decide +kernel) dX3_checkRange_10 dX3_checkRange_13 dX3_checkRange_14 dX3_checkRange_16 dX3_checkRange_19 (Nat.le_of_ble_eq_true rfl) (Nat.le_of_ble_eq_true rfl) (Nat.le_of_ble_eq_true rfl) (Nat.le_of_ble_eq_true rfl) (⟨rfl, fun h => h.1 c1⟩)
  · refine lv_iload_n hx hb dX3_checkRange_5 rfl (lv_at hl 1 rfl) ?_
    refine lv_iload_n hx hb dX3_checkRange_6 rfl (lv_at hl 3 rfl) ?_
    refine lv_icmp_le (tgt := 20) hx hb dX3_checkRange_7 (by decide) (fun c2 => ?_) (fun c2 => ?_)
    · exact vx_ret (xe_v S.1 S.2.1 hr hlocks hw (⟨rfl, c1, c2⟩) (Nat.le_of_ble_eq_true rfl) (Nat.le_of_ble_eq_true rfl) dX3_checkRange_20)
    · exact xt_throw (text := "out of range") S htr hlocks htb hw hX hl.1 (by decide +kernel) inX3_checkRange_xIA1.1 inX3_checkRange_xIA1.2 inX3_checkRange_xIA tg_IA (by decide +kernel) dX3_checkRange_10 dX3_checkRange_13 dX3_checkRange_14 dX3_checkRange_16 dX3_checkRange_19 (Nat.le_of_ble_eq_true rfl) (Nat.le_of_ble_eq_true rfl) (Nat.le_of_ble_eq_true rfl) (Nat.le_of_ble_eq_true rfl) (⟨rfl, fun h => c2 h.2⟩)
abbrev rmX3_hasEnded : Room := { frames := 0, cells := 0, slots := 0, locals := 0 }
theorem inX3_hasEnded_X3 : (∀ w ∈ wsX30, w ∈ wsX3_hasEnded) := by decide +kernel
set_option maxHeartbeats 1000000 in
set_option maxRecDepth 100000 in
/-- hasEnded -/
theorem c_X3_hasEnded (l : Launch) (D : va_G) (cy : Nat → ClassId) (ad : Nat → Nat) (n : Nat) (σ : S3) (x0 : Int32) : CM l yX3_hasEnded wsX3_hasEnded rmX3_hasEnded D cy ad n [.ref (ad 0), .int x0] σ (xPi fun r u => u = σ ∧ r = heI σ x0) := by
  refine xs_M (cc := cX3_hasEnded) (maxL := 2) (ret := (some .boolean)) (by decide +kernel) rfl (Nat.le_of_ble_eq_true rfl) ?_
  intro p e s m below meth c ls S hr hlocks hnm hw hX hl
  have S : CallFix p m c cX3_hasEnded 2 s [.ref (ad 0), .int x0].toArray wsX3_hasEnded RX3 := S
  have hx := S.1
  have hb := S.2.1
  have hts := S.2.2.2.2
  have hl : lv_has ls 2 [(0, .ref (ad 0)), (1, .int x0)] := hl
  refine lv_iload_n hx hb dX3_hasEnded_0 rfl (lv_at hl 1 rfl) ?_
  refine lv_if_lt (tgt := 25) hx hb dX3_hasEnded_1 (by decide) (fun c1 => ?_) (fun c1 => ?_)
  · refine lv_iconst (v := 0) hx hb dX3_hasEnded_25 (by decide) ?_
    exact xe_z S.1 S.2.1 hr (Or.inl rfl) hlocks hw (⟨rfl, by simp [heI, endP, c1]⟩) (Nat.le_of_ble_eq_true rfl) (Nat.le_of_ble_eq_true rfl) dX3_hasEnded_26
  · refine lv_iload_n hx hb dX3_hasEnded_4 rfl (lv_at hl 1 rfl) ?_
    refine lv_bipush (v := 60) hx hb dX3_hasEnded_5 (by decide) ?_
    refine lv_icmp_ge (tgt := 25) hx hb dX3_hasEnded_7 (by decide) (fun c2 => ?_) (fun c2 => ?_)
    · refine lv_iconst (v := 0) hx hb dX3_hasEnded_25 (by decide) ?_
      exact xe_z S.1 S.2.1 hr (Or.inl rfl) hlocks hw (⟨rfl, by simp [heI, endP, c1, c2]⟩) (Nat.le_of_ble_eq_true rfl) (Nat.le_of_ble_eq_true rfl) dX3_hasEnded_26
    · refine lv_iload_n hx hb dX3_hasEnded_10 rfl (lv_at hl 1 rfl) ?_
      refine lv_aload_n hx hb dX3_hasEnded_11 rfl (lv_at hl 0 rfl) ?_
      refine xr_get S hw (j := 5) (k_0 n) (cE_0 _ _ _ _) rfl inX3_hasEnded_X3 (by decide) (hts (.fieldLink RX3 38 "UnionOffice" "today" "I") (by decide +kernel)) rfl dX3_hasEnded_12 ?_
      refine lv_bipush (v := 30) hx hb dX3_hasEnded_15 (by decide) ?_
      refine lv_idiv hx hb dX3_hasEnded_17 (by decide) ?_
      refine lv_icmp_ge (tgt := 25) hx hb dX3_hasEnded_18 (by decide) (fun c3 => ?_) (fun c3 => ?_)
      · refine lv_iconst (v := 0) hx hb dX3_hasEnded_25 (by decide) ?_
        exact xe_z S.1 S.2.1 hr (Or.inl rfl) hlocks hw (⟨rfl, by simp [heI, endP, c1, c2, c3]⟩) (Nat.le_of_ble_eq_true rfl) (Nat.le_of_ble_eq_true rfl) dX3_hasEnded_26
      · refine lv_iconst (v := 1) hx hb dX3_hasEnded_21 (by decide) ?_
        refine lv_goto (tgt := 26) hx hb dX3_hasEnded_22 (by decide) ?_
        exact xe_z S.1 S.2.1 hr (Or.inr rfl) hlocks hw (⟨rfl, by simp [heI, endP, c1, c2, c3]⟩) (Nat.le_of_ble_eq_true rfl) (Nat.le_of_ble_eq_true rfl) dX3_hasEnded_26
abbrev rmX3_checkEnded : Room := { frames := 6, cells := 1, slots := 6, locals := 84 }
theorem inX3_checkEnded_xIO : (∀ w ∈ (vx_atS RX3 190 xIO nm2).filter goodWord, w ∈ wsX3_checkEnded) := by
  intro w h
  first | exact List.mem_cons_of_mem _ (List.mem_append_right _ h) | exact List.mem_cons_of_mem _ (List.mem_append_left _ (List.mem_append_right _ h)) | exact List.mem_cons_of_mem _ (List.mem_append_left _ (List.mem_append_left _ (List.mem_append_right _ h)))
theorem inX3_checkEnded_xIO1 : Cond.classLink RX3 186 xIO ∈ wsX3_checkEnded ∧ Cond.initialized xIO ∈ wsX3_checkEnded := ⟨by decide +kernel, by decide +kernel⟩
set_option maxHeartbeats 1000000 in
set_option maxRecDepth 100000 in
/-- checkEnded -/
theorem c_X3_checkEnded (l : Launch) (hl9 : l.stackTraces = false) (D : va_G) (cy : Nat → ClassId) (ad : Nat → Nat) (n : Nat) (σ : S3) (x0 : Int32) : CT l yX3_checkEnded wsX3_checkEnded rmX3_checkEnded D cy ad n [.ref (ad 0), .int x0] σ (xPv fun u => u = σ ∧ endP σ x0) (fun E9 => E9 = xIO ∧ ¬ endP σ x0) := by
  refine xs_T (cc := cX3_checkEnded) (maxL := 2) (ret := none) (by decide +kernel) rfl (Nat.le_of_ble_eq_true rfl) ?_
  intro p e s m below meth c ls S hr hlocks htb hw hX hl
  have S : CallFix p m c cX3_checkEnded 2 s [.ref (ad 0), .int x0].toArray wsX3_checkEnded RX3 := S
  have hx := S.1
  have hb := S.2.1
  have hts := S.2.2.2.2
  have htr := hl9
  have hl : lv_has ls 2 [(0, .ref (ad 0)), (1, .int x0)] := hl
  refine lv_aload_n hx hb dX3_checkEnded_0 rfl (lv_at hl 0 rfl) ?_
  refine lv_iload_n hx hb dX3_checkEnded_1 rfl (lv_at hl 1 rfl) ?_
  refine xc_Mi hw (va_runV (As := [.int x0]) (rest := []) S (c_X3_hasEnded l D cy ad n σ x0 _) (cwV 1 S.2.2.2.2 gX3_checkEnded_X3_hasEnded rfl rfl rfl (by decide +kernel) ⟨Nat.le_of_ble_eq_true rfl, Nat.le_of_ble_eq_true rfl⟩) (xc_preV (cX_ok _ _) hX hw (k_0 n) (cE_0 _ _ _ _) rfl rfl) rfl rfl hl.1 rfl (lv_room (Nat.le_of_ble_eq_true rfl)) dX3_checkEnded_2 ⟨Nat.le_of_ble_eq_true rfl, Nat.le_of_ble_eq_true rfl⟩) (fun r9 u H locs hp hw => ?_)
  obtain ⟨hu9, rfl⟩ := hp
  rw [hu9] at hw
  clear hu9
  refine lv_if_ne (tgt := 18) hx hb dX3_checkEnded_5 (by decide) (fun c1 => ?_) (fun c1 => ?_)
  · exact vx_ret (xe_v S.1 S.2.1 hr hlocks hw (⟨rfl, heI_1.mp c1⟩) (Nat.le_of_ble_eq_true rfl) (Nat.le_of_ble_eq_true rfl) dX3_checkEnded_18)
  · exact xt_throw (text := "the month has not ended") S htr hlocks htb hw hX hl.1 (by decide +kernel) inX3_checkEnded_xIO1.1 inX3_checkEnded_xIO1.2 inX3_checkEnded_xIO tg_IO (by decide +kernel) dX3_checkEnded_8 dX3_checkEnded_11 dX3_checkEnded_12 dX3_checkEnded_14 dX3_checkEnded_17 (Nat.le_of_ble_eq_true rfl) (Nat.le_of_ble_eq_true rfl) (Nat.le_of_ble_eq_true rfl) (Nat.le_of_ble_eq_true rfl) (⟨rfl, heI_0.mp c1⟩)
abbrev rmX3_countStanding : Room := { frames := 1, cells := 0, slots := 0, locals := 22 }
def cntF (σ : S3) (n b : Nat) (d : Int32) : Nat → Int32
  | 0 => 0
  | j + 1 => if j < n ∧ br σ j = b ∧ Stands σ j d then cntF σ n b d j + 1 else cntF σ n b d j
theorem lt16 {m : Nat} (h : m < 2 ^ 31) : ¬ 16 ≤ nI m ↔ m < 16 := by
  have e : (16 : Int32) = nI 16 := rfl
  rw [e, nI_leI (by decide) h]
  omega
theorem lt4 {m : Nat} (h : m < 2 ^ 31) : ¬ 4 ≤ nI m ↔ m < 4 := by
  have e : (4 : Int32) = nI 4 := rfl
  rw [e, nI_leI (by decide) h]
  omega
theorem inX3_countStanding_X2 : (∀ w ∈ wsX20, w ∈ wsX3_countStanding) := by decide +kernel
theorem inX3_countStanding_X3 : (∀ w ∈ wsX30, w ∈ wsX3_countStanding) := by decide +kernel
set_option maxHeartbeats 1000000 in
set_option maxRecDepth 100000 in
theorem lp_X3_countStanding {p : Program} {l : Launch} {e : Env} {s : State} {m : MethodId} {args : Array Value} {below : List Frame} {meth : Method} {c : Code} {Q : State → Prop} (S : CallFix p m c cX3_countStanding 7 s args wsX3_countStanding RX3) {D : va_G} {cy : Nat → ClassId} {ad : Nat → Nat} {n : Nat} {σ : S3} {b : Nat} (hb4 : b < 4) (hX : cX ad (15 + 3 * n) s.heap.size s) : ∀ (k : Nat) (j : Nat) (acc : Int32) (H : Heap) (locs : List Loc) (ls : Array Slot), 16 - j < k → j ≤ 16 → acc = cntF σ n b (σ 18 0 0) j → CW D cy s ad n σ H locs → lv_has ls 7 [(0, .ref (ad 0)), (1, .ref (ad (7 + b))), (2, .int acc), (3, .ref (ad 3)), (4, .int 16), (5, .int (nI j))] → (∀ (r : Int32) (H : Heap) (locs : List Loc) (ls : Array Slot), r = cntF σ n b (σ 18 0 0) 16 → CW D cy s ad n σ H locs → lv_has ls 7 [(0, .ref (ad 0)), (2, .int r)] → W p l e rmX3_countStanding s m args below meth c H locs 0 0 Q (F0 m 62 ls [])) → W p l e rmX3_countStanding s m args below meth c H locs 0 0 Q (F0 m 14 ls []) := by
  have hx := S.1
  have hb := S.2.1
  have hts := S.2.2.2.2
  intro k
  induction k with
  | zero => intro j acc H locs ls hk; exact absurd hk (Nat.not_lt_zero _)
  | succ k ih =>
    intro j acc H locs ls hk hj hacc hw hl kk
    refine lv_iload hx hb dX3_countStanding_14 (lv_at hl 5 rfl) ?_
    refine lv_iload hx hb dX3_countStanding_16 (lv_at hl 4 rfl) ?_
    refine lv_icmp_ge (tgt := 62) hx hb dX3_countStanding_18 (by decide) (fun c1 => ?_) (fun c1 => ?_)
    · have hj6 : j = 16 := by
        rcases Nat.lt_or_ge j 16 with q | q
        · exact absurd c1 ((lt16 (by omega)).mpr q)
        · omega
      exact kk acc H locs ls (by rw [hacc, hj6]) hw (lv_sub hl [0, 2] rfl)
    · have hj6 : j < 16 := (lt16 (by omega)).mp c1
      refine lv_aload_n hx hb dX3_countStanding_21 rfl (lv_at hl 3 rfl) ?_
      refine lv_iload hx hb dX3_countStanding_22 (lv_at hl 5 rfl) ?_
      by_cases hjn : j < n
      · refine xn_aald S hw (t0 := 4) (k_3 n) (cE_3 _ _ _ _) rfl hj6 (by decide) (vr_m hjn) dX3_countStanding_24 ?_
        refine lv_astore (lv' := [(6, .ref (ad (15 + 3 * j))), (0, .ref (ad 0)), (1, .ref (ad (7 + b))), (2, .int acc), (3, .ref (ad 3)), (4, .int 16), (5, .int (nI j))]) hx hb dX3_countStanding_25 hl (by decide) rfl (fun ls hl => ?_)
        refine lv_aload hx hb dX3_countStanding_27 (lv_at hl 0 rfl) ?_
        refine lv_ifnull hx hb dX3_countStanding_29 ?_
        refine lv_aload hx hb dX3_countStanding_32 (lv_at hl 0 rfl) ?_
        refine xr_getN S hw (j := 3) (k_m hjn) (cE_m _ _ _ _ _) rfl inX3_countStanding_X2 (by decide) (hX.1.w (w := .fieldLinkNest RX3 81 "UnionOffice$Member" "branch" "LUnionOffice$Branch;" "UnionOffice") (by decide +kernel)) rfl dX3_countStanding_34 ?_
        refine lv_aload_n hx hb dX3_countStanding_37 rfl (lv_at hl 2 rfl) ?_
        refine xr_acmpne (k1 := (7 + (br σ j))) (k2 := (7 + b)) (tgt := 56) hx hb hw (k_br n (br_lt σ j)) (k_br n hb4) dX3_countStanding_38 (by decide) (fun c2 => ?_) (fun c2 => ?_)
        · have hb5 : ¬ br σ j = b := by omega
          refine lv_iinc (v := nI (j + 1)) (lv' := [(5, .int (nI (j + 1))), (6, .ref (ad (15 + 3 * j))), (0, .ref (ad 0)), (1, .ref (ad (7 + b))), (2, .int acc), (3, .ref (ad 3)), (4, .int 16)]) hx hb dX3_countStanding_56 hl (k := 6) rfl (nI_1 j) (by decide) rfl (fun ls hl => ?_)
          refine lv_goto (tgt := 14) hx hb dX3_countStanding_59 (by decide) ?_
          exact ih (j + 1) (acc) H locs ls (by omega) (by omega) (by rw [hacc]; exact (if_neg (fun q => hb5 q.2.1)).symm) hw (lv_sub hl [2, 3, 4, 5, 6, 0] rfl) kk
        · have hb5 : br σ j = b := by omega
          refine lv_aload hx hb dX3_countStanding_41 (lv_at hl 0 rfl) ?_
          refine lv_aload_n hx hb dX3_countStanding_43 rfl (lv_at hl 1 rfl) ?_
          refine xr_get S hw (j := 5) (k_0 n) (cE_0 _ _ _ _) rfl inX3_countStanding_X3 (by decide) (hts (.fieldLink RX3 38 "UnionOffice" "today" "I") (by decide +kernel)) rfl dX3_countStanding_44 ?_
          refine xc_Mi hw (va_runVN (As := [.int (σ 18 0 0)]) (rest := []) S (c_X2_standsOn l D cy ad n σ j hjn (σ 18 0 0) _) ⟨va_cnB 1 S.2.2.2.2 gX3_countStanding_X2_standsOn_n120 rfl rfl rfl (hX.1.w (w := .methodLinkNest RX3 120 yX2_standsOn "UnionOffice") (by decide +kernel)) (hts (.initialized RX2) (by decide +kernel)) (by decide +kernel) ⟨Nat.le_of_ble_eq_true rfl, Nat.le_of_ble_eq_true rfl⟩, hts (.instanceMethod yX2_standsOn) (by decide +kernel), hts (.selects RX2 yX2_standsOn yX2_standsOn) (by decide +kernel)⟩ (xc_preV (cX_ok _ _) hX hw (k_m hjn) (cE_m _ _ _ _ _) rfl rfl) rfl rfl hl.1 rfl (lv_room (Nat.le_of_ble_eq_true rfl)) dX3_countStanding_47 ⟨Nat.le_of_ble_eq_true rfl, Nat.le_of_ble_eq_true rfl⟩) (fun r9 u H locs hp hw => ?_)
          obtain ⟨hu9, rfl⟩ := hp
          rw [hu9] at hw
          clear hu9
          refine lv_if_eq (tgt := 56) hx hb dX3_countStanding_50 (by decide) (fun c3 => ?_) (fun c3 => ?_)
          · have hs5 := stI_0.mp c3
            refine lv_iinc (v := nI (j + 1)) (lv' := [(5, .int (nI (j + 1))), (6, .ref (ad (15 + 3 * j))), (0, .ref (ad 0)), (1, .ref (ad (7 + b))), (2, .int acc), (3, .ref (ad 3)), (4, .int 16)]) hx hb dX3_countStanding_56 hl (k := 6) rfl (nI_1 j) (by decide) rfl (fun ls hl => ?_)
            refine lv_goto (tgt := 14) hx hb dX3_countStanding_59 (by decide) ?_
            exact ih (j + 1) (acc) H locs ls (by omega) (by omega) (by rw [hacc]; exact (if_neg (fun q => hs5 q.2.2)).symm) hw (lv_sub hl [2, 3, 4, 5, 6, 0] rfl) kk
          · have hs5 := stI_1.mp c3
            refine lv_iinc (v := acc + 1) (lv' := [(2, .int (acc + 1)), (6, .ref (ad (15 + 3 * j))), (0, .ref (ad 0)), (1, .ref (ad (7 + b))), (3, .ref (ad 3)), (4, .int 16), (5, .int (nI j))]) hx hb dX3_countStanding_53 hl (k := 3) rfl rfl (by decide) rfl (fun ls hl => ?_)
            refine lv_iinc (v := nI (j + 1)) (lv' := [(5, .int (nI (j + 1))), (2, .int (acc + 1)), (6, .ref (ad (15 + 3 * j))), (0, .ref (ad 0)), (1, .ref (ad (7 + b))), (3, .ref (ad 3)), (4, .int 16)]) hx hb dX3_countStanding_56 hl (k := 6) rfl (nI_1 j) (by decide) rfl (fun ls hl => ?_)
            refine lv_goto (tgt := 14) hx hb dX3_countStanding_59 (by decide) ?_
            exact ih (j + 1) (acc + 1) H locs ls (by omega) (by omega) (by rw [hacc]; exact (if_pos ⟨hjn, hb5, hs5⟩).symm) hw (lv_sub hl [3, 4, 1, 5, 6, 0] rfl) kk
      · refine xn_aald S hw (t0 := 4) (k_3 n) (cE_3 _ _ _ _) rfl hj6 (by decide) (vr_mN hjn) dX3_countStanding_24 ?_
        refine lv_astoreN (lv' := [(6, .null), (0, .ref (ad 0)), (1, .ref (ad (7 + b))), (2, .int acc), (3, .ref (ad 3)), (4, .int 16), (5, .int (nI j))]) hx hb dX3_countStanding_25 hl (by decide) rfl (fun ls hl => ?_)
        refine lv_aloadN hx hb dX3_countStanding_27 (lv_at hl 0 rfl) ?_
        refine lv_ifnullN (tgt := 56) hx hb dX3_countStanding_29 (by decide) ?_
        refine lv_iinc (v := nI (j + 1)) (lv' := [(5, .int (nI (j + 1))), (6, .null), (0, .ref (ad 0)), (1, .ref (ad (7 + b))), (2, .int acc), (3, .ref (ad 3)), (4, .int 16)]) hx hb dX3_countStanding_56 hl (k := 6) rfl (nI_1 j) (by decide) rfl (fun ls hl => ?_)
        refine lv_goto (tgt := 14) hx hb dX3_countStanding_59 (by decide) ?_
        exact ih (j + 1) (acc) H locs ls (by omega) (by omega) (by rw [hacc]; exact (if_neg (fun q => hjn q.1)).symm) hw (lv_sub hl [2, 3, 4, 5, 6, 0] rfl) kk
set_option maxHeartbeats 1000000 in
set_option maxRecDepth 100000 in
/-- countStanding(branch) -/
theorem c_X3_countStanding (l : Launch) (D : va_G) (cy : Nat → ClassId) (ad : Nat → Nat) (n : Nat) (σ : S3) (b : Nat) (hb4 : b < 4) : CM l yX3_countStanding wsX3_countStanding rmX3_countStanding D cy ad n [.ref (ad 0), .ref (ad (7 + b))] σ (xPi fun r u => u = σ ∧ r = cntF σ n b (σ 18 0 0) 16) := by
  refine xs_M (cc := cX3_countStanding) (maxL := 7) (ret := (some .int)) (by decide +kernel) rfl (Nat.le_of_ble_eq_true rfl) ?_
  intro p e s m below meth c ls S hr hlocks hnm hw hX hl
  have S : CallFix p m c cX3_countStanding 7 s [.ref (ad 0), .ref (ad (7 + b))].toArray wsX3_countStanding RX3 := S
  have hx := S.1
  have hb := S.2.1
  have hts := S.2.2.2.2
  have hl : lv_has ls 7 [(0, .ref (ad 0)), (1, .ref (ad (7 + b)))] := hl
  refine lv_iconst (v := 0) hx hb dX3_countStanding_0 (by decide) ?_
  refine lv_istore_n (lv' := [(2, .int 0), (0, .ref (ad 0)), (1, .ref (ad (7 + b)))]) hx hb dX3_countStanding_1 rfl hl (by decide) rfl (fun ls hl => ?_)
  refine lv_aload_n hx hb dX3_countStanding_2 rfl (lv_at hl 1 rfl) ?_
  refine xr_get S hw (j := 2) (k_0 n) (cE_0 _ _ _ _) rfl inX3_countStanding_X3 (by decide) (hts (.fieldLink RX3 27 "UnionOffice" "members" "[LUnionOffice$Member;") (by decide +kernel)) rfl dX3_countStanding_3 ?_
  refine lv_astore_n (lv' := [(3, .ref (ad 3)), (2, .int 0), (0, .ref (ad 0)), (1, .ref (ad (7 + b)))]) hx hb dX3_countStanding_6 rfl hl (by decide) rfl (fun ls hl => ?_)
  refine lv_aload_n hx hb dX3_countStanding_7 rfl (lv_at hl 0 rfl) ?_
  refine xr_alen S hw (t0 := 4) (k_3 n) (cE_3 _ _ _ _) rfl (v := 16) rfl dX3_countStanding_8 ?_
  refine lv_istore (lv' := [(4, .int 16), (3, .ref (ad 3)), (2, .int 0), (0, .ref (ad 0)), (1, .ref (ad (7 + b)))]) hx hb dX3_countStanding_9 hl (by decide) rfl (fun ls hl => ?_)
  refine lv_iconst (v := 0) hx hb dX3_countStanding_11 (by decide) ?_
  refine lv_istore (lv' := [(5, .int 0), (4, .int 16), (3, .ref (ad 3)), (2, .int 0), (0, .ref (ad 0)), (1, .ref (ad (7 + b)))]) hx hb dX3_countStanding_12 hl (by decide) rfl (fun ls hl => ?_)
  refine lp_X3_countStanding S hb4 hX 17 0 0 _ _ ls (by omega) (by omega) rfl hw (lv_sub hl [4, 5, 3, 2, 1, 0] rfl) (fun r H locs ls hr9 hw hl => ?_)
  refine lv_iload_n hx hb dX3_countStanding_62 rfl (lv_at hl 1 rfl) ?_
  exact xe_i S.1 S.2.1 hr hlocks hw (⟨rfl, hr9⟩) (Nat.le_of_ble_eq_true rfl) (Nat.le_of_ble_eq_true rfl) dX3_countStanding_63
abbrev rmX3_sumLaidOn : Room := { frames := 0, cells := 0, slots := 0, locals := 0 }
def slF (σ : S3) (m : Nat) : Nat → Int32
  | 0 => 0
  | j + 1 => slF σ m j + σ 9 j m
theorem inX3_sumLaidOn_X1 : (∀ w ∈ wsX10, w ∈ wsX3_sumLaidOn) := by decide +kernel
set_option maxHeartbeats 1000000 in
set_option maxRecDepth 100000 in
theorem lp_X3_sumLaidOn {p : Program} {l : Launch} {e : Env} {R : Room} {s : State} {m : MethodId} {args : Array Value} {below : List Frame} {meth : Method} {c : Code} {cells slots : Nat} {Q : State → Prop} (S : CallFix p m c cX3_sumLaidOn 7 s args wsX3_sumLaidOn RX3) {D : va_G} {cy : Nat → ClassId} {ad : Nat → Nat} {n : Nat} {σ : S3} {mm : Nat} (hmm : mm < 60) (hX : cX ad (15 + 3 * n) s.heap.size s) : ∀ (k : Nat) (j : Nat) (acc : Int32) (H : Heap) (locs : List Loc) (ls : Array Slot), 4 - j < k → j ≤ 4 → acc = slF σ mm j → CW D cy s ad n σ H locs → lv_has ls 7 [(0, .ref (ad 0)), (1, .int (nI mm)), (2, .int acc), (3, .ref (ad 2)), (4, .int 4), (5, .int (nI j))] → (∀ (r : Int32) (H : Heap) (locs : List Loc) (ls : Array Slot), r = slF σ mm 4 → CW D cy s ad n σ H locs → lv_has ls 7 [(0, .ref (ad 0)), (2, .int r)] → W p l e R s m args below meth c H locs cells slots Q (F0 m 43 ls [])) → W p l e R s m args below meth c H locs cells slots Q (F0 m 14 ls []) := by
  have hx := S.1
  have hb := S.2.1
  have hts := S.2.2.2.2
  intro k
  induction k with
  | zero => intro j acc H locs ls hk; exact absurd hk (Nat.not_lt_zero _)
  | succ k ih =>
    intro j acc H locs ls hk hj hacc hw hl kk
    refine lv_iload hx hb dX3_sumLaidOn_14 (lv_at hl 5 rfl) ?_
    refine lv_iload hx hb dX3_sumLaidOn_16 (lv_at hl 4 rfl) ?_
    refine lv_icmp_ge (tgt := 43) hx hb dX3_sumLaidOn_18 (by decide) (fun c1 => ?_) (fun c1 => ?_)
    · have hj6 : j = 4 := by
        rcases Nat.lt_or_ge j 4 with q | q
        · exact absurd c1 ((lt4 (by omega)).mpr q)
        · omega
      exact kk acc H locs ls (by rw [hacc, hj6]) hw (lv_sub hl [0, 2] rfl)
    · have hj6 : j < 4 := (lt4 (by omega)).mp c1
      refine lv_aload_n hx hb dX3_sumLaidOn_21 rfl (lv_at hl 3 rfl) ?_
      refine lv_iload hx hb dX3_sumLaidOn_22 (lv_at hl 5 rfl) ?_
      refine xn_aald S hw (t0 := 3) (k_2 n) (cE_2 _ _ _ _) rfl hj6 (by decide) (vr_br hj6) dX3_sumLaidOn_24 ?_
      refine lv_astore (lv' := [(6, .ref (ad (7 + j))), (0, .ref (ad 0)), (1, .int (nI mm)), (2, .int acc), (3, .ref (ad 2)), (4, .int 4), (5, .int (nI j))]) hx hb dX3_sumLaidOn_25 hl (by decide) rfl (fun ls hl => ?_)
      refine lv_iload_n hx hb dX3_sumLaidOn_27 rfl (lv_at hl 3 rfl) ?_
      refine lv_aload hx hb dX3_sumLaidOn_28 (lv_at hl 0 rfl) ?_
      refine xr_getN S hw (j := 0) (k_br n hj6) (cE_br _ _ _ _ hj6) rfl inX3_sumLaidOn_X1 (by decide) (hX.1.w (w := .fieldLinkNest RX3 179 "UnionOffice$Branch" "laidOn" "[I" "UnionOffice") (by decide +kernel)) rfl dX3_sumLaidOn_30 ?_
      refine lv_iload_n hx hb dX3_sumLaidOn_33 rfl (lv_at hl 2 rfl) ?_
      refine xn_iald S hw (t0 := 0) (k_la n hj6) (cE_la _ _ _ _ hj6) rfl hmm (by decide) dX3_sumLaidOn_34 ?_
      refine lv_iadd hx hb dX3_sumLaidOn_35 ?_
      refine lv_istore_n (lv' := [(2, .int (acc + (σ 9 j mm))), (6, .ref (ad (7 + j))), (0, .ref (ad 0)), (1, .int (nI mm)), (3, .ref (ad 2)), (4, .int 4), (5, .int (nI j))]) hx hb dX3_sumLaidOn_36 rfl hl (by decide) rfl (fun ls hl => ?_)
      refine lv_iinc (v := nI (j + 1)) (lv' := [(5, .int (nI (j + 1))), (2, .int (acc + (σ 9 j mm))), (6, .ref (ad (7 + j))), (0, .ref (ad 0)), (1, .int (nI mm)), (3, .ref (ad 2)), (4, .int 4)]) hx hb dX3_sumLaidOn_37 hl (k := 6) rfl (nI_1 j) (by decide) rfl (fun ls hl => ?_)
      refine lv_goto (tgt := 14) hx hb dX3_sumLaidOn_40 (by decide) ?_
      exact ih (j + 1) (acc + (σ 9 j mm)) H locs ls (by omega) (by omega) (by rw [hacc]; rfl) hw (lv_sub hl [3, 4, 1, 5, 6, 0] rfl) kk
theorem inX3_sumLaidOn_X3 : (∀ w ∈ wsX30, w ∈ wsX3_sumLaidOn) := by decide +kernel
set_option maxHeartbeats 1000000 in
set_option maxRecDepth 100000 in
/-- sumLaidOn(month) -/
theorem c_X3_sumLaidOn (l : Launch) (D : va_G) (cy : Nat → ClassId) (ad : Nat → Nat) (n : Nat) (σ : S3) (mm : Nat) (hmm : mm < 60) : CM l yX3_sumLaidOn wsX3_sumLaidOn rmX3_sumLaidOn D cy ad n [.ref (ad 0), .int (nI mm)] σ (xPi fun r u => u = σ ∧ r = slF σ mm 4) := by
  refine xs_M (cc := cX3_sumLaidOn) (maxL := 7) (ret := (some .int)) (by decide +kernel) rfl (Nat.le_of_ble_eq_true rfl) ?_
  intro p e s m below meth c ls S hr hlocks hnm hw hX hl
  have S : CallFix p m c cX3_sumLaidOn 7 s [.ref (ad 0), .int (nI mm)].toArray wsX3_sumLaidOn RX3 := S
  have hx := S.1
  have hb := S.2.1
  have hts := S.2.2.2.2
  have hl : lv_has ls 7 [(0, .ref (ad 0)), (1, .int (nI mm))] := hl
  refine lv_iconst (v := 0) hx hb dX3_sumLaidOn_0 (by decide) ?_
  refine lv_istore_n (lv' := [(2, .int 0), (0, .ref (ad 0)), (1, .int (nI mm))]) hx hb dX3_sumLaidOn_1 rfl hl (by decide) rfl (fun ls hl => ?_)
  refine lv_aload_n hx hb dX3_sumLaidOn_2 rfl (lv_at hl 1 rfl) ?_
  refine xr_get S hw (j := 1) (k_0 n) (cE_0 _ _ _ _) rfl inX3_sumLaidOn_X3 (by decide) (hts (.fieldLink RX3 21 "UnionOffice" "branches" "[LUnionOffice$Branch;") (by decide +kernel)) rfl dX3_sumLaidOn_3 ?_
  refine lv_astore_n (lv' := [(3, .ref (ad 2)), (2, .int 0), (0, .ref (ad 0)), (1, .int (nI mm))]) hx hb dX3_sumLaidOn_6 rfl hl (by decide) rfl (fun ls hl => ?_)
  refine lv_aload_n hx hb dX3_sumLaidOn_7 rfl (lv_at hl 0 rfl) ?_
  refine xr_alen S hw (t0 := 3) (k_2 n) (cE_2 _ _ _ _) rfl (v := 4) rfl dX3_sumLaidOn_8 ?_
  refine lv_istore (lv' := [(4, .int 4), (3, .ref (ad 2)), (2, .int 0), (0, .ref (ad 0)), (1, .int (nI mm))]) hx hb dX3_sumLaidOn_9 hl (by decide) rfl (fun ls hl => ?_)
  refine lv_iconst (v := 0) hx hb dX3_sumLaidOn_11 (by decide) ?_
  refine lv_istore (lv' := [(5, .int 0), (4, .int 4), (3, .ref (ad 2)), (2, .int 0), (0, .ref (ad 0)), (1, .int (nI mm))]) hx hb dX3_sumLaidOn_12 hl (by decide) rfl (fun ls hl => ?_)
  refine lp_X3_sumLaidOn S hmm hX 5 0 0 _ _ ls (by omega) (by omega) rfl hw (lv_sub hl [4, 5, 3, 2, 1, 0] rfl) (fun r H locs ls hr9 hw hl => ?_)
  refine lv_iload_n hx hb dX3_sumLaidOn_43 rfl (lv_at hl 1 rfl) ?_
  exact xe_i S.1 S.2.1 hr hlocks hw (⟨rfl, hr9⟩) (Nat.le_of_ble_eq_true rfl) (Nat.le_of_ble_eq_true rfl) dX3_sumLaidOn_44
abbrev rmX3_payStrikers : Room := { frames := 1, cells := 0, slots := 0, locals := 22 }
abbrev strP (σ : S3) (n j : Nat) : Prop := j < n ∧ ¬ σ 14 (br σ j) 0 = 0 ∧ Stands σ j (σ 18 0 0) ∧ ¬ σ 19 0 0 < σ 17 0 0
def strS (σ : S3) (n j : Nat) : S3 := if strP σ n j then su (su σ 19 0 0 (σ 19 0 0 - σ 17 0 0)) 6 j 0 (σ 6 j 0 + σ 17 0 0) else σ
def strF (σ : S3) (n : Nat) : Nat → S3
  | 0 => σ
  | j + 1 => strS (strF σ n j) n j
theorem inX3_payStrikers_X1 : (∀ w ∈ wsX10, w ∈ wsX3_payStrikers) := by decide +kernel
theorem inX3_payStrikers_X2 : (∀ w ∈ wsX20, w ∈ wsX3_payStrikers) := by decide +kernel
theorem inX3_payStrikers_X3 : (∀ w ∈ wsX30, w ∈ wsX3_payStrikers) := by decide +kernel
set_option maxHeartbeats 1000000 in
set_option maxRecDepth 100000 in
theorem lp_X3_payStrikers {p : Program} {l : Launch} {e : Env} {s : State} {m : MethodId} {args : Array Value} {below : List Frame} {meth : Method} {c : Code} {Q : State → Prop} (S : CallFix p m c cX3_payStrikers 5 s args wsX3_payStrikers RX3) {D : va_G} {cy : Nat → ClassId} {ad : Nat → Nat} {n : Nat} {σ : S3} (hX : cX ad (15 + 3 * n) s.heap.size s) : ∀ (k : Nat) (j : Nat) (τ : S3) (H : Heap) (locs : List Loc) (ls : Array Slot), 16 - j < k → j ≤ 16 → τ = strF σ n j → CW D cy s ad n τ H locs → lv_has ls 5 [(0, .ref (ad 0)), (1, .ref (ad 3)), (2, .int 16), (3, .int (nI j))] → (∀ (H : Heap) (locs : List Loc) (ls : Array Slot), CW D cy s ad n (strF σ n 16) H locs → lv_has ls 5 [(0, .ref (ad 0))] → W p l e rmX3_payStrikers s m args below meth c H locs 0 0 Q (F0 m 92 ls [])) → W p l e rmX3_payStrikers s m args below meth c H locs 0 0 Q (F0 m 10 ls []) := by
  have hx := S.1
  have hb := S.2.1
  have hts := S.2.2.2.2
  intro k
  induction k with
  | zero => intro j τ H locs ls hk; exact absurd hk (Nat.not_lt_zero _)
  | succ k ih =>
    intro j τ H locs ls hk hj hτ hw hl kk
    refine lv_iload_n hx hb dX3_payStrikers_10 rfl (lv_at hl 3 rfl) ?_
    refine lv_iload_n hx hb dX3_payStrikers_11 rfl (lv_at hl 2 rfl) ?_
    refine lv_icmp_ge (tgt := 92) hx hb dX3_payStrikers_12 (by decide) (fun c1 => ?_) (fun c1 => ?_)
    · have hj6 : j = 16 := by
        rcases Nat.lt_or_ge j 16 with q | q
        · exact absurd c1 ((lt16 (by omega)).mpr q)
        · omega
      exact kk H locs ls (by rw [← hj6, ← hτ]; exact hw) (lv_sub hl [0] rfl)
    · have hj6 : j < 16 := (lt16 (by omega)).mp c1
      refine lv_aload_n hx hb dX3_payStrikers_15 rfl (lv_at hl 1 rfl) ?_
      refine lv_iload_n hx hb dX3_payStrikers_16 rfl (lv_at hl 3 rfl) ?_
      by_cases hjn : j < n
      · refine xn_aald S hw (t0 := 4) (k_3 n) (cE_3 _ _ _ _) rfl hj6 (by decide) (vr_m hjn) dX3_payStrikers_17 ?_
        refine lv_astore (lv' := [(4, .ref (ad (15 + 3 * j))), (0, .ref (ad 0)), (1, .ref (ad 3)), (2, .int 16), (3, .int (nI j))]) hx hb dX3_payStrikers_18 hl (by decide) rfl (fun ls hl => ?_)
        refine lv_aload hx hb dX3_payStrikers_20 (lv_at hl 0 rfl) ?_
        refine lv_ifnull hx hb dX3_payStrikers_22 ?_
        refine lv_aload hx hb dX3_payStrikers_25 (lv_at hl 0 rfl) ?_
        refine xr_getN S hw (j := 3) (k_m hjn) (cE_m _ _ _ _ _) rfl inX3_payStrikers_X2 (by decide) (hX.1.w (w := .fieldLinkNest RX3 81 "UnionOffice$Member" "branch" "LUnionOffice$Branch;" "UnionOffice") (by decide +kernel)) rfl dX3_payStrikers_27 ?_
        refine xr_getN S hw (j := 5) (k_br n (br_lt τ j)) (cE_br _ _ _ _ (br_lt τ j)) rfl inX3_payStrikers_X1 (by decide) (hX.1.w (w := .fieldLinkNest RX3 108 "UnionOffice$Branch" "isOnStrike" "Z" "UnionOffice") (by decide +kernel)) rfl dX3_payStrikers_30 ?_
        refine lv_if_eq (tgt := 86) hx hb dX3_payStrikers_33 (by decide) (fun c2 => ?_) (fun c2 => ?_)
        · refine lv_iinc (v := nI (j + 1)) (lv' := [(3, .int (nI (j + 1))), (4, .ref (ad (15 + 3 * j))), (0, .ref (ad 0)), (1, .ref (ad 3)), (2, .int 16)]) hx hb dX3_payStrikers_86 hl (k := 4) rfl (nI_1 j) (by decide) rfl (fun ls hl => ?_)
          refine lv_goto (tgt := 10) hx hb dX3_payStrikers_89 (by decide) ?_
          exact ih (j + 1) τ H locs ls (by omega) (by omega) (by show _ = strS (strF σ n j) n j; rw [← hτ]; exact (if_neg (fun q => q.2.1 c2)).symm) hw (lv_sub hl [2, 3, 4, 0] rfl) kk
        · refine lv_aload hx hb dX3_payStrikers_36 (lv_at hl 0 rfl) ?_
          refine lv_aload_n hx hb dX3_payStrikers_38 rfl (lv_at hl 1 rfl) ?_
          refine xr_get S hw (j := 5) (k_0 n) (cE_0 _ _ _ _) rfl inX3_payStrikers_X3 (by decide) (hts (.fieldLink RX3 38 "UnionOffice" "today" "I") (by decide +kernel)) rfl dX3_payStrikers_39 ?_
          refine xc_Mi hw (va_runVN (As := [.int (τ 18 0 0)]) (rest := []) S (c_X2_standsOn l D cy ad n τ j hjn (τ 18 0 0) _) ⟨va_cnB 1 S.2.2.2.2 gX3_payStrikers_X2_standsOn_n120 rfl rfl rfl (hX.1.w (w := .methodLinkNest RX3 120 yX2_standsOn "UnionOffice") (by decide +kernel)) (hts (.initialized RX2) (by decide +kernel)) (by decide +kernel) ⟨Nat.le_of_ble_eq_true rfl, Nat.le_of_ble_eq_true rfl⟩, hts (.instanceMethod yX2_standsOn) (by decide +kernel), hts (.selects RX2 yX2_standsOn yX2_standsOn) (by decide +kernel)⟩ (xc_preV (cX_ok _ _) hX hw (k_m hjn) (cE_m _ _ _ _ _) rfl rfl) rfl rfl hl.1 rfl (lv_room (Nat.le_of_ble_eq_true rfl)) dX3_payStrikers_42 ⟨Nat.le_of_ble_eq_true rfl, Nat.le_of_ble_eq_true rfl⟩) (fun r9 u H locs hp hw => ?_)
          obtain ⟨hu9, rfl⟩ := hp
          rw [hu9] at hw
          clear hu9
          refine lv_if_eq (tgt := 86) hx hb dX3_payStrikers_45 (by decide) (fun c3 => ?_) (fun c3 => ?_)
          · have hs5 := stI_0.mp c3
            refine lv_iinc (v := nI (j + 1)) (lv' := [(3, .int (nI (j + 1))), (4, .ref (ad (15 + 3 * j))), (0, .ref (ad 0)), (1, .ref (ad 3)), (2, .int 16)]) hx hb dX3_payStrikers_86 hl (k := 4) rfl (nI_1 j) (by decide) rfl (fun ls hl => ?_)
            refine lv_goto (tgt := 10) hx hb dX3_payStrikers_89 (by decide) ?_
            exact ih (j + 1) τ H locs ls (by omega) (by omega) (by show _ = strS (strF σ n j) n j; rw [← hτ]; exact (if_neg (fun q => hs5 q.2.2.1)).symm) hw (lv_sub hl [2, 3, 4, 0] rfl) kk
          · have hs5 := stI_1.mp c3
            refine lv_aload_n hx hb dX3_payStrikers_48 rfl (lv_at hl 1 rfl) ?_
            refine xr_get S hw (j := 6) (k_0 n) (cE_0 _ _ _ _) rfl inX3_payStrikers_X3 (by decide) (hts (.fieldLink RX3 41 "UnionOffice" "inFund" "I") (by decide +kernel)) rfl dX3_payStrikers_49 ?_
            refine lv_aload_n hx hb dX3_payStrikers_52 rfl (lv_at hl 1 rfl) ?_
            refine xr_get S hw (j := 4) (k_0 n) (cE_0 _ _ _ _) rfl inX3_payStrikers_X3 (by decide) (hts (.fieldLink RX3 35 "UnionOffice" "payOfStrikeDay" "I") (by decide +kernel)) rfl dX3_payStrikers_53 ?_
            refine lv_icmp_lt (tgt := 86) hx hb dX3_payStrikers_56 (by decide) (fun c4 => ?_) (fun c4 => ?_)
            · refine lv_iinc (v := nI (j + 1)) (lv' := [(3, .int (nI (j + 1))), (4, .ref (ad (15 + 3 * j))), (0, .ref (ad 0)), (1, .ref (ad 3)), (2, .int 16)]) hx hb dX3_payStrikers_86 hl (k := 4) rfl (nI_1 j) (by decide) rfl (fun ls hl => ?_)
              refine lv_goto (tgt := 10) hx hb dX3_payStrikers_89 (by decide) ?_
              exact ih (j + 1) τ H locs ls (by omega) (by omega) (by show _ = strS (strF σ n j) n j; rw [← hτ]; exact (if_neg (fun q => q.2.2.2 c4)).symm) hw (lv_sub hl [2, 3, 4, 0] rfl) kk
            · refine lv_aload_n hx hb dX3_payStrikers_59 rfl (lv_at hl 1 rfl) ?_
              refine lv_dup hx hb dX3_payStrikers_60 rfl ?_
              refine xr_get S hw (j := 6) (k_0 n) (cE_0 _ _ _ _) rfl inX3_payStrikers_X3 (by decide) (hts (.fieldLink RX3 41 "UnionOffice" "inFund" "I") (by decide +kernel)) rfl dX3_payStrikers_61 ?_
              refine lv_aload_n hx hb dX3_payStrikers_64 rfl (lv_at hl 1 rfl) ?_
              refine xr_get S hw (j := 4) (k_0 n) (cE_0 _ _ _ _) rfl inX3_payStrikers_X3 (by decide) (hts (.fieldLink RX3 35 "UnionOffice" "payOfStrikeDay" "I") (by decide +kernel)) rfl dX3_payStrikers_65 ?_
              refine lv_isub hx hb dX3_payStrikers_68 ?_
              obtain ⟨σ1, hσ1⟩ : ∃ y : S3, y = su τ 19 0 0 ((τ 19 0 0) - (τ 17 0 0)) := ⟨_, rfl⟩
              refine xr_put S hw tyX3 tyX3_ok nmX3 (j := 6) (k_0 n) (cE_0 _ _ _ _) rfl inX3_payStrikers_X3 (by decide) (hts (.fieldLink RX3 41 "UnionOffice" "inFund" "I") (by decide +kernel)) rfl (tyX3_ok 6 (by decide)) rfl rfl (Nat.le_of_ble_eq_true rfl) dX3_payStrikers_69 (cE cy ad n σ1) (by rw [hσ1]; exact up_fund _ _ _ _  _) (fun H locs hw => ?_)
              refine lv_aload hx hb dX3_payStrikers_72 (lv_at hl 0 rfl) ?_
              refine lv_dup hx hb dX3_payStrikers_74 rfl ?_
              refine xr_getN S hw (j := 8) (k_m hjn) (cE_m _ _ _ _ _) rfl inX3_payStrikers_X2 (by decide) (hX.1.w (w := .fieldLinkNest RX3 180 "UnionOffice$Member" "strikePayHad" "I" "UnionOffice") (by decide +kernel)) rfl dX3_payStrikers_75 ?_
              refine lv_aload_n hx hb dX3_payStrikers_78 rfl (lv_at hl 1 rfl) ?_
              refine xr_get S hw (j := 4) (k_0 n) (cE_0 _ _ _ _) rfl inX3_payStrikers_X3 (by decide) (hts (.fieldLink RX3 35 "UnionOffice" "payOfStrikeDay" "I") (by decide +kernel)) rfl dX3_payStrikers_79 ?_
              refine lv_iadd hx hb dX3_payStrikers_82 ?_
              obtain ⟨σ2, hσ2⟩ : ∃ y : S3, y = su σ1 6 j 0 ((σ1 6 j 0) + (σ1 17 0 0)) := ⟨_, rfl⟩
              refine xr_putN S hw tyX2 tyX2_ok nmX2 (j := 8) (k_m hjn) (cE_m _ _ _ _ _) rfl inX3_payStrikers_X2 (by decide) (hX.1.w (w := .fieldLinkNest RX3 180 "UnionOffice$Member" "strikePayHad" "I" "UnionOffice") (by decide +kernel)) rfl (tyX2_ok 8 (by decide)) rfl rfl (Nat.le_of_ble_eq_true rfl) dX3_payStrikers_83 (cE cy ad n σ2) (by rw [hσ2]; exact up_had _ _ _ _ j _) (fun H locs hw => ?_)
              refine lv_iinc (v := nI (j + 1)) (lv' := [(3, .int (nI (j + 1))), (4, .ref (ad (15 + 3 * j))), (0, .ref (ad 0)), (1, .ref (ad 3)), (2, .int 16)]) hx hb dX3_payStrikers_86 hl (k := 4) rfl (nI_1 j) (by decide) rfl (fun ls hl => ?_)
              refine lv_goto (tgt := 10) hx hb dX3_payStrikers_89 (by decide) ?_
              exact ih (j + 1) σ2 H locs ls (by omega) (by omega) (by show _ = strS (strF σ n j) n j; rw [← hτ]; show _ = if strP τ n j then _ else _; rw [if_pos ⟨hjn, c2, hs5, c4⟩, hσ2, hσ1]; simp [su]) hw (lv_sub hl [2, 3, 4, 0] rfl) kk
      · refine xn_aald S hw (t0 := 4) (k_3 n) (cE_3 _ _ _ _) rfl hj6 (by decide) (vr_mN hjn) dX3_payStrikers_17 ?_
        refine lv_astoreN (lv' := [(4, .null), (0, .ref (ad 0)), (1, .ref (ad 3)), (2, .int 16), (3, .int (nI j))]) hx hb dX3_payStrikers_18 hl (by decide) rfl (fun ls hl => ?_)
        refine lv_aloadN hx hb dX3_payStrikers_20 (lv_at hl 0 rfl) ?_
        refine lv_ifnullN (tgt := 86) hx hb dX3_payStrikers_22 (by decide) ?_
        refine lv_iinc (v := nI (j + 1)) (lv' := [(3, .int (nI (j + 1))), (4, .null), (0, .ref (ad 0)), (1, .ref (ad 3)), (2, .int 16)]) hx hb dX3_payStrikers_86 hl (k := 4) rfl (nI_1 j) (by decide) rfl (fun ls hl => ?_)
        refine lv_goto (tgt := 10) hx hb dX3_payStrikers_89 (by decide) ?_
        exact ih (j + 1) τ H locs ls (by omega) (by omega) (by show _ = strS (strF σ n j) n j; rw [← hτ]; exact (if_neg (fun q => hjn q.1)).symm) hw (lv_sub hl [2, 3, 4, 0] rfl) kk
set_option maxHeartbeats 1000000 in
set_option maxRecDepth 100000 in
/-- payStrikers() -/
theorem c_X3_payStrikers (l : Launch) (D : va_G) (cy : Nat → ClassId) (ad : Nat → Nat) (n : Nat) (σ : S3)  : CM l yX3_payStrikers wsX3_payStrikers rmX3_payStrikers D cy ad n [.ref (ad 0)] σ (xPv fun u => u = strF σ n 16) := by
  refine xs_M (cc := cX3_payStrikers) (maxL := 5) (ret := none) (by decide +kernel) rfl (Nat.le_of_ble_eq_true rfl) ?_
  intro p e s m below meth c ls S hr hlocks hnm hw hX hl
  have S : CallFix p m c cX3_payStrikers 5 s [.ref (ad 0)].toArray wsX3_payStrikers RX3 := S
  have hx := S.1
  have hb := S.2.1
  have hts := S.2.2.2.2
  have hl : lv_has ls 5 [(0, .ref (ad 0))] := hl
  refine lv_aload_n hx hb dX3_payStrikers_0 rfl (lv_at hl 0 rfl) ?_
  refine xr_get S hw (j := 2) (k_0 n) (cE_0 _ _ _ _) rfl inX3_payStrikers_X3 (by decide) (hts (.fieldLink RX3 27 "UnionOffice" "members" "[LUnionOffice$Member;") (by decide +kernel)) rfl dX3_payStrikers_1 ?_
  refine lv_astore_n (lv' := [(1, .ref (ad 3)), (0, .ref (ad 0))]) hx hb dX3_payStrikers_4 rfl hl (by decide) rfl (fun ls hl => ?_)
  refine lv_aload_n hx hb dX3_payStrikers_5 rfl (lv_at hl 0 rfl) ?_
  refine xr_alen S hw (t0 := 4) (k_3 n) (cE_3 _ _ _ _) rfl (v := 16) rfl dX3_payStrikers_6 ?_
  refine lv_istore_n (lv' := [(2, .int 16), (1, .ref (ad 3)), (0, .ref (ad 0))]) hx hb dX3_payStrikers_7 rfl hl (by decide) rfl (fun ls hl => ?_)
  refine lv_iconst (v := 0) hx hb dX3_payStrikers_8 (by decide) ?_
  refine lv_istore_n (lv' := [(3, .int 0), (2, .int 16), (1, .ref (ad 3)), (0, .ref (ad 0))]) hx hb dX3_payStrikers_9 rfl hl (by decide) rfl (fun ls hl => ?_)
  refine lp_X3_payStrikers S hX 17 0 σ _ _ ls (by omega) (by omega) rfl hw (lv_sub hl [3, 2, 1, 0] rfl) (fun H locs ls hw hl => ?_)
  exact xe_v S.1 S.2.1 hr hlocks hw (rfl) (Nat.le_of_ble_eq_true rfl) (Nat.le_of_ble_eq_true rfl) dX3_payStrikers_92
abbrev rmX3_chargeDues : Room := { frames := 3, cells := 0, slots := 0, locals := 64 }
abbrev cdP (σ : S3) (n j : Nat) : Prop := j < n ∧ σ 3 j 0 = 0 ∧ σ 4 j 0 = 0
def cdS (σ : S3) (n : Nat) (x : Int32) (j : Nat) : S3 := if cdP σ n j then su (chgF σ j x).1 19 0 0 (σ 19 0 0 + (chgF σ j x).2) else σ
def cdF (σ : S3) (n : Nat) (x : Int32) : Nat → S3
  | 0 => σ
  | j + 1 => cdS (cdF σ n x j) n x j
theorem inX3_chargeDues_X2 : (∀ w ∈ wsX20, w ∈ wsX3_chargeDues) := by decide +kernel
theorem inX3_chargeDues_X3 : (∀ w ∈ wsX30, w ∈ wsX3_chargeDues) := by decide +kernel
set_option maxHeartbeats 1000000 in
set_option maxRecDepth 100000 in
theorem lp_X3_chargeDues {p : Program} {l : Launch} {e : Env} {s : State} {m : MethodId} {args : Array Value} {below : List Frame} {meth : Method} {c : Code} {Q : State → Prop} (S : CallFix p m c cX3_chargeDues 6 s args wsX3_chargeDues RX3) {D : va_G} {cy : Nat → ClassId} {ad : Nat → Nat} {n : Nat} {σ : S3} {x0 : Int32} (hX : cX ad (15 + 3 * n) s.heap.size s) : ∀ (k : Nat) (j : Nat) (τ : S3) (H : Heap) (locs : List Loc) (ls : Array Slot), 16 - j < k → j ≤ 16 → τ = cdF σ n x0 j → CW D cy s ad n τ H locs → lv_has ls 6 [(0, .ref (ad 0)), (1, .int x0), (2, .ref (ad 3)), (3, .int 16), (4, .int (nI j))] → (∀ (H : Heap) (locs : List Loc) (ls : Array Slot), CW D cy s ad n (cdF σ n x0 16) H locs → lv_has ls 6 [(0, .ref (ad 0))] → W p l e rmX3_chargeDues s m args below meth c H locs 0 0 Q (F0 m 65 ls [])) → W p l e rmX3_chargeDues s m args below meth c H locs 0 0 Q (F0 m 11 ls []) := by
  have hx := S.1
  have hb := S.2.1
  have hts := S.2.2.2.2
  intro k
  induction k with
  | zero => intro j τ H locs ls hk; exact absurd hk (Nat.not_lt_zero _)
  | succ k ih =>
    intro j τ H locs ls hk hj hτ hw hl kk
    refine lv_iload hx hb dX3_chargeDues_11 (lv_at hl 4 rfl) ?_
    refine lv_iload_n hx hb dX3_chargeDues_13 rfl (lv_at hl 3 rfl) ?_
    refine lv_icmp_ge (tgt := 65) hx hb dX3_chargeDues_14 (by decide) (fun c1 => ?_) (fun c1 => ?_)
    · have hj6 : j = 16 := by
        rcases Nat.lt_or_ge j 16 with q | q
        · exact absurd c1 ((lt16 (by omega)).mpr q)
        · omega
      exact kk H locs ls (by rw [← hj6, ← hτ]; exact hw) (lv_sub hl [0] rfl)
    · have hj6 : j < 16 := (lt16 (by omega)).mp c1
      refine lv_aload_n hx hb dX3_chargeDues_17 rfl (lv_at hl 2 rfl) ?_
      refine lv_iload hx hb dX3_chargeDues_18 (lv_at hl 4 rfl) ?_
      by_cases hjn : j < n
      · refine xn_aald S hw (t0 := 4) (k_3 n) (cE_3 _ _ _ _) rfl hj6 (by decide) (vr_m hjn) dX3_chargeDues_20 ?_
        refine lv_astore (lv' := [(5, .ref (ad (15 + 3 * j))), (0, .ref (ad 0)), (1, .int x0), (2, .ref (ad 3)), (3, .int 16), (4, .int (nI j))]) hx hb dX3_chargeDues_21 hl (by decide) rfl (fun ls hl => ?_)
        refine lv_aload hx hb dX3_chargeDues_23 (lv_at hl 0 rfl) ?_
        refine lv_ifnull hx hb dX3_chargeDues_25 ?_
        refine lv_aload hx hb dX3_chargeDues_28 (lv_at hl 0 rfl) ?_
        refine xr_getN S hw (j := 6) (k_m hjn) (cE_m _ _ _ _ _) rfl inX3_chargeDues_X2 (by decide) (hX.1.w (w := .fieldLinkNest RX3 93 "UnionOffice$Member" "hasLeft" "Z" "UnionOffice") (by decide +kernel)) rfl dX3_chargeDues_30 ?_
        refine lv_if_ne (tgt := 59) hx hb dX3_chargeDues_33 (by decide) (fun c2 => ?_) (fun c2 => ?_)
        · refine lv_iinc (v := nI (j + 1)) (lv' := [(4, .int (nI (j + 1))), (5, .ref (ad (15 + 3 * j))), (0, .ref (ad 0)), (1, .int x0), (2, .ref (ad 3)), (3, .int 16)]) hx hb dX3_chargeDues_59 hl (k := 5) rfl (nI_1 j) (by decide) rfl (fun ls hl => ?_)
          refine lv_goto (tgt := 11) hx hb dX3_chargeDues_62 (by decide) ?_
          exact ih (j + 1) τ H locs ls (by omega) (by omega) (by show _ = cdS (cdF σ n x0 j) n x0 j; rw [← hτ]; exact (if_neg (fun q => c2 q.2.1)).symm) hw (lv_sub hl [2, 3, 4, 5, 0] rfl) kk
        · refine lv_aload hx hb dX3_chargeDues_36 (lv_at hl 0 rfl) ?_
          refine xr_getN S hw (j := 5) (k_m hjn) (cE_m _ _ _ _ _) rfl inX3_chargeDues_X2 (by decide) (hX.1.w (w := .fieldLinkNest RX3 89 "UnionOffice$Member" "isOnLeave" "Z" "UnionOffice") (by decide +kernel)) rfl dX3_chargeDues_38 ?_
          refine lv_if_ne (tgt := 59) hx hb dX3_chargeDues_41 (by decide) (fun c3 => ?_) (fun c3 => ?_)
          · refine lv_iinc (v := nI (j + 1)) (lv' := [(4, .int (nI (j + 1))), (5, .ref (ad (15 + 3 * j))), (0, .ref (ad 0)), (1, .int x0), (2, .ref (ad 3)), (3, .int 16)]) hx hb dX3_chargeDues_59 hl (k := 5) rfl (nI_1 j) (by decide) rfl (fun ls hl => ?_)
            refine lv_goto (tgt := 11) hx hb dX3_chargeDues_62 (by decide) ?_
            exact ih (j + 1) τ H locs ls (by omega) (by omega) (by show _ = cdS (cdF σ n x0 j) n x0 j; rw [← hτ]; exact (if_neg (fun q => c3 q.2.2)).symm) hw (lv_sub hl [2, 3, 4, 5, 0] rfl) kk
          · refine lv_aload_n hx hb dX3_chargeDues_44 rfl (lv_at hl 1 rfl) ?_
            refine lv_dup hx hb dX3_chargeDues_45 rfl ?_
            refine xr_get S hw (j := 6) (k_0 n) (cE_0 _ _ _ _) rfl inX3_chargeDues_X3 (by decide) (hts (.fieldLink RX3 41 "UnionOffice" "inFund" "I") (by decide +kernel)) rfl dX3_chargeDues_46 ?_
            refine lv_aload hx hb dX3_chargeDues_49 (lv_at hl 0 rfl) ?_
            refine lv_iload_n hx hb dX3_chargeDues_51 rfl (lv_at hl 2 rfl) ?_
            refine xc_Mi hw (va_runVN (As := [.int x0]) (rest := [.int (τ 19 0 0), .ref (ad 0)]) S (c_X2_charge l D cy ad n τ j hjn x0 _) ⟨va_cnB 1 S.2.2.2.2 gX3_chargeDues_X2_charge_n210 rfl rfl rfl (hX.1.w (w := .methodLinkNest RX3 210 yX2_charge "UnionOffice") (by decide +kernel)) (hts (.initialized RX2) (by decide +kernel)) (by decide +kernel) ⟨Nat.le_of_ble_eq_true rfl, Nat.le_of_ble_eq_true rfl⟩, hts (.instanceMethod yX2_charge) (by decide +kernel), hts (.selects RX2 yX2_charge yX2_charge) (by decide +kernel)⟩ (xc_preV (cX_ok _ _) hX hw (k_m hjn) (cE_m _ _ _ _ _) rfl rfl) rfl rfl hl.1 rfl (lv_room (Nat.le_of_ble_eq_true rfl)) dX3_chargeDues_52 ⟨Nat.le_of_ble_eq_true rfl, Nat.le_of_ble_eq_true rfl⟩) (fun r9 u H locs hp hw => ?_)
            obtain ⟨rfl, rfl⟩ := hp
            refine lv_iadd hx hb dX3_chargeDues_55 ?_
            obtain ⟨σ1, hσ1⟩ : ∃ y : S3, y = su ((chgF τ j x0).1) 19 0 0 ((τ 19 0 0) + ((chgF τ j x0).2)) := ⟨_, rfl⟩
            refine xr_put S hw tyX3 tyX3_ok nmX3 (j := 6) (k_0 n) (cE_0 _ _ _ _) rfl inX3_chargeDues_X3 (by decide) (hts (.fieldLink RX3 41 "UnionOffice" "inFund" "I") (by decide +kernel)) rfl (tyX3_ok 6 (by decide)) rfl rfl (Nat.le_of_ble_eq_true rfl) dX3_chargeDues_56 (cE cy ad n σ1) (by rw [hσ1]; exact up_fund _ _ _ _  _) (fun H locs hw => ?_)
            refine lv_iinc (v := nI (j + 1)) (lv' := [(4, .int (nI (j + 1))), (5, .ref (ad (15 + 3 * j))), (0, .ref (ad 0)), (1, .int x0), (2, .ref (ad 3)), (3, .int 16)]) hx hb dX3_chargeDues_59 hl (k := 5) rfl (nI_1 j) (by decide) rfl (fun ls hl => ?_)
            refine lv_goto (tgt := 11) hx hb dX3_chargeDues_62 (by decide) ?_
            exact ih (j + 1) σ1 H locs ls (by omega) (by omega) (by show _ = cdS (cdF σ n x0 j) n x0 j; rw [← hτ, hσ1]; exact (if_pos ⟨hjn, c2, c3⟩).symm) hw (lv_sub hl [2, 3, 4, 5, 0] rfl) kk
      · refine xn_aald S hw (t0 := 4) (k_3 n) (cE_3 _ _ _ _) rfl hj6 (by decide) (vr_mN hjn) dX3_chargeDues_20 ?_
        refine lv_astoreN (lv' := [(5, .null), (0, .ref (ad 0)), (1, .int x0), (2, .ref (ad 3)), (3, .int 16), (4, .int (nI j))]) hx hb dX3_chargeDues_21 hl (by decide) rfl (fun ls hl => ?_)
        refine lv_aloadN hx hb dX3_chargeDues_23 (lv_at hl 0 rfl) ?_
        refine lv_ifnullN (tgt := 59) hx hb dX3_chargeDues_25 (by decide) ?_
        refine lv_iinc (v := nI (j + 1)) (lv' := [(4, .int (nI (j + 1))), (5, .null), (0, .ref (ad 0)), (1, .int x0), (2, .ref (ad 3)), (3, .int 16)]) hx hb dX3_chargeDues_59 hl (k := 5) rfl (nI_1 j) (by decide) rfl (fun ls hl => ?_)
        refine lv_goto (tgt := 11) hx hb dX3_chargeDues_62 (by decide) ?_
        exact ih (j + 1) τ H locs ls (by omega) (by omega) (by show _ = cdS (cdF σ n x0 j) n x0 j; rw [← hτ]; exact (if_neg (fun q => hjn q.1)).symm) hw (lv_sub hl [2, 3, 4, 5, 0] rfl) kk
set_option maxHeartbeats 1000000 in
set_option maxRecDepth 100000 in
/-- chargeDues(month) -/
theorem c_X3_chargeDues (l : Launch) (D : va_G) (cy : Nat → ClassId) (ad : Nat → Nat) (n : Nat) (σ : S3) (x0 : Int32) : CM l yX3_chargeDues wsX3_chargeDues rmX3_chargeDues D cy ad n [.ref (ad 0), .int x0] σ (xPv fun u => u = cdF σ n x0 16) := by
  refine xs_M (cc := cX3_chargeDues) (maxL := 6) (ret := none) (by decide +kernel) rfl (Nat.le_of_ble_eq_true rfl) ?_
  intro p e s m below meth c ls S hr hlocks hnm hw hX hl
  have S : CallFix p m c cX3_chargeDues 6 s [.ref (ad 0), .int x0].toArray wsX3_chargeDues RX3 := S
  have hx := S.1
  have hb := S.2.1
  have hts := S.2.2.2.2
  have hl : lv_has ls 6 [(0, .ref (ad 0)), (1, .int x0)] := hl
  refine lv_aload_n hx hb dX3_chargeDues_0 rfl (lv_at hl 0 rfl) ?_
  refine xr_get S hw (j := 2) (k_0 n) (cE_0 _ _ _ _) rfl inX3_chargeDues_X3 (by decide) (hts (.fieldLink RX3 27 "UnionOffice" "members" "[LUnionOffice$Member;") (by decide +kernel)) rfl dX3_chargeDues_1 ?_
  refine lv_astore_n (lv' := [(2, .ref (ad 3)), (0, .ref (ad 0)), (1, .int x0)]) hx hb dX3_chargeDues_4 rfl hl (by decide) rfl (fun ls hl => ?_)
  refine lv_aload_n hx hb dX3_chargeDues_5 rfl (lv_at hl 0 rfl) ?_
  refine xr_alen S hw (t0 := 4) (k_3 n) (cE_3 _ _ _ _) rfl (v := 16) rfl dX3_chargeDues_6 ?_
  refine lv_istore_n (lv' := [(3, .int 16), (2, .ref (ad 3)), (0, .ref (ad 0)), (1, .int x0)]) hx hb dX3_chargeDues_7 rfl hl (by decide) rfl (fun ls hl => ?_)
  refine lv_iconst (v := 0) hx hb dX3_chargeDues_8 (by decide) ?_
  refine lv_istore (lv' := [(4, .int 0), (3, .int 16), (2, .ref (ad 3)), (0, .ref (ad 0)), (1, .int x0)]) hx hb dX3_chargeDues_9 hl (by decide) rfl (fun ls hl => ?_)
  refine lp_X3_chargeDues S hX 17 0 σ _ _ ls (by omega) (by omega) rfl hw (lv_sub hl [3, 4, 2, 1, 0] rfl) (fun H locs ls hw hl => ?_)
  exact xe_v S.1 S.2.1 hr hlocks hw (rfl) (Nat.le_of_ble_eq_true rfl) (Nat.le_of_ble_eq_true rfl) dX3_chargeDues_65
abbrev rmX3_countDelegates : Room := { frames := 2, cells := 0, slots := 0, locals := 48 }
def dlS (σ : S3) (n b : Nat) : S3 := su σ 16 b 0 ((cntF σ n b (σ 18 0 0) 16 + 3 - 1) / 3)
def dlF (σ : S3) (n : Nat) : Nat → S3
  | 0 => σ
  | j + 1 => dlS (dlF σ n j) n j
theorem inX3_countDelegates_X1 : (∀ w ∈ wsX10, w ∈ wsX3_countDelegates) := by decide +kernel
set_option maxHeartbeats 1000000 in
set_option maxRecDepth 100000 in
theorem lp_X3_countDelegates {p : Program} {l : Launch} {e : Env} {s : State} {m : MethodId} {args : Array Value} {below : List Frame} {meth : Method} {c : Code} {Q : State → Prop} (S : CallFix p m c cX3_countDelegates 6 s args wsX3_countDelegates RX3) {D : va_G} {cy : Nat → ClassId} {ad : Nat → Nat} {n : Nat} {σ : S3} (hX : cX ad (15 + 3 * n) s.heap.size s) : ∀ (k : Nat) (j : Nat) (τ : S3) (H : Heap) (locs : List Loc) (ls : Array Slot), 4 - j < k → j ≤ 4 → τ = dlF σ n j → CW D cy s ad n τ H locs → lv_has ls 6 [(0, .ref (ad 0)), (1, .ref (ad 2)), (2, .int 4), (3, .int (nI j))] → (∀ (H : Heap) (locs : List Loc) (ls : Array Slot), CW D cy s ad n (dlF σ n 4) H locs → lv_has ls 6 [(0, .ref (ad 0))] → W p l e rmX3_countDelegates s m args below meth c H locs 0 0 Q (F0 m 47 ls [])) → W p l e rmX3_countDelegates s m args below meth c H locs 0 0 Q (F0 m 10 ls []) := by
  have hx := S.1
  have hb := S.2.1
  have hts := S.2.2.2.2
  intro k
  induction k with
  | zero => intro j τ H locs ls hk; exact absurd hk (Nat.not_lt_zero _)
  | succ k ih =>
    intro j τ H locs ls hk hj hτ hw hl kk
    refine lv_iload_n hx hb dX3_countDelegates_10 rfl (lv_at hl 3 rfl) ?_
    refine lv_iload_n hx hb dX3_countDelegates_11 rfl (lv_at hl 2 rfl) ?_
    refine lv_icmp_ge (tgt := 47) hx hb dX3_countDelegates_12 (by decide) (fun c1 => ?_) (fun c1 => ?_)
    · have hj6 : j = 4 := by
        rcases Nat.lt_or_ge j 4 with q | q
        · exact absurd c1 ((lt4 (by omega)).mpr q)
        · omega
      exact kk H locs ls (by rw [← hj6, ← hτ]; exact hw) (lv_sub hl [0] rfl)
    · have hj6 : j < 4 := (lt4 (by omega)).mp c1
      refine lv_aload_n hx hb dX3_countDelegates_15 rfl (lv_at hl 1 rfl) ?_
      refine lv_iload_n hx hb dX3_countDelegates_16 rfl (lv_at hl 3 rfl) ?_
      refine xn_aald S hw (t0 := 3) (k_2 n) (cE_2 _ _ _ _) rfl hj6 (by decide) (vr_br hj6) dX3_countDelegates_17 ?_
      refine lv_astore (lv' := [(4, .ref (ad (7 + j))), (0, .ref (ad 0)), (1, .ref (ad 2)), (2, .int 4), (3, .int (nI j))]) hx hb dX3_countDelegates_18 hl (by decide) rfl (fun ls hl => ?_)
      refine lv_aload_n hx hb dX3_countDelegates_20 rfl (lv_at hl 1 rfl) ?_
      refine lv_aload hx hb dX3_countDelegates_21 (lv_at hl 0 rfl) ?_
      refine xc_Mi hw (va_runV (As := [.ref (ad (7 + j))]) (rest := []) S (c_X3_countStanding l D cy ad n τ j hj6 _) (cwV 1 S.2.2.2.2 gX3_countDelegates_X3_countStanding rfl rfl rfl (by decide +kernel) ⟨Nat.le_of_ble_eq_true rfl, Nat.le_of_ble_eq_true rfl⟩) (xc_preV (cX_ok _ _) hX hw (k_0 n) (cE_0 _ _ _ _) rfl rfl) rfl rfl hl.1 rfl (lv_room (Nat.le_of_ble_eq_true rfl)) dX3_countDelegates_23 ⟨Nat.le_of_ble_eq_true rfl, Nat.le_of_ble_eq_true rfl⟩) (fun r9 u H locs hp hw => ?_)
      obtain ⟨hu9, rfl⟩ := hp
      rw [hu9] at hw
      clear hu9
      refine lv_istore (lv' := [(5, .int (cntF τ n j (τ 18 0 0) 16)), (4, .ref (ad (7 + j))), (0, .ref (ad 0)), (1, .ref (ad 2)), (2, .int 4), (3, .int (nI j))]) hx hb dX3_countDelegates_26 hl (by decide) rfl (fun ls hl => ?_)
      refine lv_aload hx hb dX3_countDelegates_28 (lv_at hl 1 rfl) ?_
      refine lv_iload hx hb dX3_countDelegates_30 (lv_at hl 0 rfl) ?_
      refine lv_iconst (v := 3) hx hb dX3_countDelegates_32 (by decide) ?_
      refine lv_iadd hx hb dX3_countDelegates_33 ?_
      refine lv_iconst (v := 1) hx hb dX3_countDelegates_34 (by decide) ?_
      refine lv_isub hx hb dX3_countDelegates_35 ?_
      refine lv_iconst (v := 3) hx hb dX3_countDelegates_36 (by decide) ?_
      refine lv_idiv hx hb dX3_countDelegates_37 (by decide) ?_
      obtain ⟨σ1, hσ1⟩ : ∃ y : S3, y = su τ 16 j 0 ((((cntF τ n j (τ 18 0 0) 16) + 3) - 1) / 3) := ⟨_, rfl⟩
      refine xr_putN S hw tyX1 tyX1_ok nmX1 (j := 6) (k_br n hj6) (cE_br _ _ _ _ hj6) rfl inX3_countDelegates_X1 (by decide) (hX.1.w (w := .fieldLinkNest RX3 183 "UnionOffice$Branch" "delegatesOfYear" "I" "UnionOffice") (by decide +kernel)) rfl (tyX1_ok 6 (by decide)) rfl rfl (Nat.le_of_ble_eq_true rfl) dX3_countDelegates_38 (cE cy ad n σ1) (by rw [hσ1]; exact up_deleg _ _ _ _ hj6 _) (fun H locs hw => ?_)
      refine lv_iinc (v := nI (j + 1)) (lv' := [(3, .int (nI (j + 1))), (5, .int (cntF τ n j (τ 18 0 0) 16)), (4, .ref (ad (7 + j))), (0, .ref (ad 0)), (1, .ref (ad 2)), (2, .int 4)]) hx hb dX3_countDelegates_41 hl (k := 5) rfl (nI_1 j) (by decide) rfl (fun ls hl => ?_)
      refine lv_goto (tgt := 10) hx hb dX3_countDelegates_44 (by decide) ?_
      exact ih (j + 1) σ1 H locs ls (by omega) (by omega) (by show _ = dlS (dlF σ n j) n j; rw [← hτ, hσ1]; rfl) hw (lv_sub hl [3, 4, 5, 0] rfl) kk
theorem inX3_countDelegates_X3 : (∀ w ∈ wsX30, w ∈ wsX3_countDelegates) := by decide +kernel
set_option maxHeartbeats 1000000 in
set_option maxRecDepth 100000 in
/-- countDelegates() -/
theorem c_X3_countDelegates (l : Launch) (D : va_G) (cy : Nat → ClassId) (ad : Nat → Nat) (n : Nat) (σ : S3)  : CM l yX3_countDelegates wsX3_countDelegates rmX3_countDelegates D cy ad n [.ref (ad 0)] σ (xPv fun u => u = dlF σ n 4) := by
  refine xs_M (cc := cX3_countDelegates) (maxL := 6) (ret := none) (by decide +kernel) rfl (Nat.le_of_ble_eq_true rfl) ?_
  intro p e s m below meth c ls S hr hlocks hnm hw hX hl
  have S : CallFix p m c cX3_countDelegates 6 s [.ref (ad 0)].toArray wsX3_countDelegates RX3 := S
  have hx := S.1
  have hb := S.2.1
  have hts := S.2.2.2.2
  have hl : lv_has ls 6 [(0, .ref (ad 0))] := hl
  refine lv_aload_n hx hb dX3_countDelegates_0 rfl (lv_at hl 0 rfl) ?_
  refine xr_get S hw (j := 1) (k_0 n) (cE_0 _ _ _ _) rfl inX3_countDelegates_X3 (by decide) (hts (.fieldLink RX3 21 "UnionOffice" "branches" "[LUnionOffice$Branch;") (by decide +kernel)) rfl dX3_countDelegates_1 ?_
  refine lv_astore_n (lv' := [(1, .ref (ad 2)), (0, .ref (ad 0))]) hx hb dX3_countDelegates_4 rfl hl (by decide) rfl (fun ls hl => ?_)
  refine lv_aload_n hx hb dX3_countDelegates_5 rfl (lv_at hl 0 rfl) ?_
  refine xr_alen S hw (t0 := 3) (k_2 n) (cE_2 _ _ _ _) rfl (v := 4) rfl dX3_countDelegates_6 ?_
  refine lv_istore_n (lv' := [(2, .int 4), (1, .ref (ad 2)), (0, .ref (ad 0))]) hx hb dX3_countDelegates_7 rfl hl (by decide) rfl (fun ls hl => ?_)
  refine lv_iconst (v := 0) hx hb dX3_countDelegates_8 (by decide) ?_
  refine lv_istore_n (lv' := [(3, .int 0), (2, .int 4), (1, .ref (ad 2)), (0, .ref (ad 0))]) hx hb dX3_countDelegates_9 rfl hl (by decide) rfl (fun ls hl => ?_)
  refine lp_X3_countDelegates S hX 5 0 σ _ _ ls (by omega) (by omega) rfl hw (lv_sub hl [3, 2, 1, 0] rfl) (fun H locs ls hw hl => ?_)
  exact xe_v S.1 S.2.1 hr hlocks hw (rfl) (Nat.le_of_ble_eq_true rfl) (Nat.le_of_ble_eq_true rfl) dX3_countDelegates_47
abbrev rmX3_endDay : Room := { frames := 4, cells := 0, slots := 0, locals := 89 }
def ed1 (σ : S3) (n : Nat) : S3 := strF σ n 16
def ed2 (σ : S3) (n : Nat) : S3 := if (ed1 σ n) 18 0 0 - (ed1 σ n) 18 0 0 / 30 * 30 = 29 then cdF (ed1 σ n) n ((ed1 σ n) 18 0 0 / 30) 16 else ed1 σ n
def ed3 (σ : S3) (n : Nat) : S3 := su (ed2 σ n) 18 0 0 ((ed2 σ n) 18 0 0 + 1)
def edF (σ : S3) (n : Nat) : S3 := if (ed3 σ n) 18 0 0 - (ed3 σ n) 18 0 0 / 360 * 360 = 0 then dlF (ed3 σ n) n 4 else ed3 σ n
theorem inX3_endDay_X3 : (∀ w ∈ wsX30, w ∈ wsX3_endDay) := by decide +kernel
set_option maxHeartbeats 1000000 in
set_option maxRecDepth 100000 in
/-- endDay() -/
theorem c_X3_endDay (l : Launch) (D : va_G) (cy : Nat → ClassId) (ad : Nat → Nat) (n : Nat) (σ : S3)  : CM l yX3_endDay wsX3_endDay rmX3_endDay D cy ad n [.ref (ad 0)] σ (xPv fun u => u = edF σ n) := by
  refine xs_M (cc := cX3_endDay) (maxL := 1) (ret := none) (by decide +kernel) rfl (Nat.le_of_ble_eq_true rfl) ?_
  intro p e s m below meth c ls S hr hlocks hnm hw hX hl
  have S : CallFix p m c cX3_endDay 1 s [.ref (ad 0)].toArray wsX3_endDay RX3 := S
  have hx := S.1
  have hb := S.2.1
  have hts := S.2.2.2.2
  have hl : lv_has ls 1 [(0, .ref (ad 0))] := hl
  refine lv_aload_n hx hb dX3_endDay_0 rfl (lv_at hl 0 rfl) ?_
  refine xc_Mv hw (va_runV (As := []) (rest := []) S (c_X3_payStrikers l D cy ad n σ _) (cwV 0 S.2.2.2.2 gX3_endDay_X3_payStrikers rfl rfl rfl (by decide +kernel) ⟨Nat.le_of_ble_eq_true rfl, Nat.le_of_ble_eq_true rfl⟩) (xc_preV (cX_ok _ _) hX hw (k_0 n) (cE_0 _ _ _ _) rfl rfl) rfl rfl hl.1 rfl (lv_room (Nat.le_of_ble_eq_true rfl)) dX3_endDay_1 ⟨Nat.le_of_ble_eq_true rfl, Nat.le_of_ble_eq_true rfl⟩) (fun u H locs hp hw => ?_)
  obtain rfl := hp
  refine lv_aload_n hx hb dX3_endDay_4 rfl (lv_at hl 0 rfl) ?_
  refine xr_get S hw (j := 5) (k_0 n) (cE_0 _ _ _ _) rfl inX3_endDay_X3 (by decide) (hts (.fieldLink RX3 38 "UnionOffice" "today" "I") (by decide +kernel)) rfl dX3_endDay_5 ?_
  refine lv_bipush (v := 30) hx hb dX3_endDay_8 (by decide) ?_
  refine lv_irem hx hb dX3_endDay_10 (by decide) ?_
  refine lv_bipush (v := 29) hx hb dX3_endDay_11 (by decide) ?_
  refine lv_icmp_ne (tgt := 27) hx hb dX3_endDay_13 (by decide) (fun c1 => ?_) (fun c1 => ?_)
  · have e2 : ed2 σ n = strF σ n 16 := if_neg c1
    rw [← e2] at hw
    refine lv_aload_n hx hb dX3_endDay_27 rfl (lv_at hl 0 rfl) ?_
    refine lv_dup hx hb dX3_endDay_28 rfl ?_
    refine xr_get S hw (j := 5) (k_0 n) (cE_0 _ _ _ _) rfl inX3_endDay_X3 (by decide) (hts (.fieldLink RX3 38 "UnionOffice" "today" "I") (by decide +kernel)) rfl dX3_endDay_29 ?_
    refine lv_iconst (v := 1) hx hb dX3_endDay_32 (by decide) ?_
    refine lv_iadd hx hb dX3_endDay_33 ?_
    obtain ⟨σ1, hσ1⟩ : ∃ y : S3, y = su (ed2 σ n) 18 0 0 (((ed2 σ n) 18 0 0) + 1) := ⟨_, rfl⟩
    refine xr_put S hw tyX3 tyX3_ok nmX3 (j := 5) (k_0 n) (cE_0 _ _ _ _) rfl inX3_endDay_X3 (by decide) (hts (.fieldLink RX3 38 "UnionOffice" "today" "I") (by decide +kernel)) rfl (tyX3_ok 5 (by decide)) rfl rfl (Nat.le_of_ble_eq_true rfl) dX3_endDay_34 (cE cy ad n σ1) (by rw [hσ1]; exact up_today _ _ _ _  _) (fun H locs hw => ?_)
    refine lv_aload_n hx hb dX3_endDay_37 rfl (lv_at hl 0 rfl) ?_
    refine xr_get S hw (j := 5) (k_0 n) (cE_0 _ _ _ _) rfl inX3_endDay_X3 (by decide) (hts (.fieldLink RX3 38 "UnionOffice" "today" "I") (by decide +kernel)) rfl dX3_endDay_38 ?_
    refine lv_sipush (v := 360) hx hb dX3_endDay_41 (by decide) ?_
    refine lv_irem hx hb dX3_endDay_44 (by decide) ?_
    refine lv_if_ne (tgt := 52) hx hb dX3_endDay_45 (by decide) (fun c2 => ?_) (fun c2 => ?_)
    · exact xe_v S.1 S.2.1 hr hlocks hw (by
            have e3 : ed3 σ n = σ1 := hσ1.symm
            rw [← e3] at c2
            rw [← e3]; exact (if_neg c2).symm) (Nat.le_of_ble_eq_true rfl) (Nat.le_of_ble_eq_true rfl) dX3_endDay_52
    · refine lv_aload_n hx hb dX3_endDay_48 rfl (lv_at hl 0 rfl) ?_
      refine xc_Mv hw (va_runV (As := []) (rest := []) S (c_X3_countDelegates l D cy ad n σ1 _) (cwV 0 S.2.2.2.2 gX3_endDay_X3_countDelegates rfl rfl rfl (by decide +kernel) ⟨Nat.le_of_ble_eq_true rfl, Nat.le_of_ble_eq_true rfl⟩) (xc_preV (cX_ok _ _) hX hw (k_0 n) (cE_0 _ _ _ _) rfl rfl) rfl rfl hl.1 rfl (lv_room (Nat.le_of_ble_eq_true rfl)) dX3_endDay_49 ⟨Nat.le_of_ble_eq_true rfl, Nat.le_of_ble_eq_true rfl⟩) (fun u H locs hp hw => ?_)
      obtain rfl := hp
      exact xe_v S.1 S.2.1 hr hlocks hw (by
            have e3 : ed3 σ n = σ1 := hσ1.symm
            rw [← e3] at c2
            rw [← e3]; exact (if_pos c2).symm) (Nat.le_of_ble_eq_true rfl) (Nat.le_of_ble_eq_true rfl) dX3_endDay_52
  · refine lv_aload_n hx hb dX3_endDay_16 rfl (lv_at hl 0 rfl) ?_
    refine lv_aload_n hx hb dX3_endDay_17 rfl (lv_at hl 0 rfl) ?_
    refine xr_get S hw (j := 5) (k_0 n) (cE_0 _ _ _ _) rfl inX3_endDay_X3 (by decide) (hts (.fieldLink RX3 38 "UnionOffice" "today" "I") (by decide +kernel)) rfl dX3_endDay_18 ?_
    refine lv_bipush (v := 30) hx hb dX3_endDay_21 (by decide) ?_
    refine lv_idiv hx hb dX3_endDay_23 (by decide) ?_
    refine xc_Mv hw (va_runV (As := [.int (((strF σ n 16) 18 0 0) / 30)]) (rest := []) S (c_X3_chargeDues l D cy ad n (strF σ n 16) (((strF σ n 16) 18 0 0) / 30) _) (cwV 1 S.2.2.2.2 gX3_endDay_X3_chargeDues rfl rfl rfl (by decide +kernel) ⟨Nat.le_of_ble_eq_true rfl, Nat.le_of_ble_eq_true rfl⟩) (xc_preV (cX_ok _ _) hX hw (k_0 n) (cE_0 _ _ _ _) rfl rfl) rfl rfl hl.1 rfl (lv_room (Nat.le_of_ble_eq_true rfl)) dX3_endDay_24 ⟨Nat.le_of_ble_eq_true rfl, Nat.le_of_ble_eq_true rfl⟩) (fun u H locs hp hw => ?_)
    obtain rfl := hp
    have e2 : ed2 σ n = cdF (strF σ n 16) n (((strF σ n 16) 18 0 0) / 30) 16 := if_pos c1
    rw [← e2] at hw
    refine lv_aload_n hx hb dX3_endDay_27 rfl (lv_at hl 0 rfl) ?_
    refine lv_dup hx hb dX3_endDay_28 rfl ?_
    refine xr_get S hw (j := 5) (k_0 n) (cE_0 _ _ _ _) rfl inX3_endDay_X3 (by decide) (hts (.fieldLink RX3 38 "UnionOffice" "today" "I") (by decide +kernel)) rfl dX3_endDay_29 ?_
    refine lv_iconst (v := 1) hx hb dX3_endDay_32 (by decide) ?_
    refine lv_iadd hx hb dX3_endDay_33 ?_
    obtain ⟨σ2, hσ2⟩ : ∃ y : S3, y = su (ed2 σ n) 18 0 0 (((ed2 σ n) 18 0 0) + 1) := ⟨_, rfl⟩
    refine xr_put S hw tyX3 tyX3_ok nmX3 (j := 5) (k_0 n) (cE_0 _ _ _ _) rfl inX3_endDay_X3 (by decide) (hts (.fieldLink RX3 38 "UnionOffice" "today" "I") (by decide +kernel)) rfl (tyX3_ok 5 (by decide)) rfl rfl (Nat.le_of_ble_eq_true rfl) dX3_endDay_34 (cE cy ad n σ2) (by rw [hσ2]; exact up_today _ _ _ _  _) (fun H locs hw => ?_)
    refine lv_aload_n hx hb dX3_endDay_37 rfl (lv_at hl 0 rfl) ?_
    refine xr_get S hw (j := 5) (k_0 n) (cE_0 _ _ _ _) rfl inX3_endDay_X3 (by decide) (hts (.fieldLink RX3 38 "UnionOffice" "today" "I") (by decide +kernel)) rfl dX3_endDay_38 ?_
    refine lv_sipush (v := 360) hx hb dX3_endDay_41 (by decide) ?_
    refine lv_irem hx hb dX3_endDay_44 (by decide) ?_
    refine lv_if_ne (tgt := 52) hx hb dX3_endDay_45 (by decide) (fun c3 => ?_) (fun c3 => ?_)
    · exact xe_v S.1 S.2.1 hr hlocks hw (by
            have e3 : ed3 σ n = σ2 := hσ2.symm
            rw [← e3] at c3
            rw [← e3]; exact (if_neg c3).symm) (Nat.le_of_ble_eq_true rfl) (Nat.le_of_ble_eq_true rfl) dX3_endDay_52
    · refine lv_aload_n hx hb dX3_endDay_48 rfl (lv_at hl 0 rfl) ?_
      refine xc_Mv hw (va_runV (As := []) (rest := []) S (c_X3_countDelegates l D cy ad n σ2 _) (cwV 0 S.2.2.2.2 gX3_endDay_X3_countDelegates rfl rfl rfl (by decide +kernel) ⟨Nat.le_of_ble_eq_true rfl, Nat.le_of_ble_eq_true rfl⟩) (xc_preV (cX_ok _ _) hX hw (k_0 n) (cE_0 _ _ _ _) rfl rfl) rfl rfl hl.1 rfl (lv_room (Nat.le_of_ble_eq_true rfl)) dX3_endDay_49 ⟨Nat.le_of_ble_eq_true rfl, Nat.le_of_ble_eq_true rfl⟩) (fun u H locs hp hw => ?_)
      obtain rfl := hp
      exact xe_v S.1 S.2.1 hr hlocks hw (by
            have e3 : ed3 σ n = σ2 := hσ2.symm
            rw [← e3] at c3
            rw [← e3]; exact (if_pos c3).symm) (Nat.le_of_ble_eq_true rfl) (Nat.le_of_ble_eq_true rfl) dX3_endDay_52
