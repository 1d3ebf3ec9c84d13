/-! ===== UnionOffice$Member ===== -/
abbrev rmX2_bit : Room := { frames := 0, cells := 0, slots := 0, locals := 0 }
theorem inX2_bit_X2 : (∀ w ∈ wsX20, w ∈ wsX2_bit) := by decide +kernel
set_option maxHeartbeats 4000000 in
set_option maxRecDepth 100000 in
/-- bit(): one bit, by the number -/
theorem c_X2_bit (l : Launch) (D : va_G) (cy : Nat → ClassId) (ad : Nat → Nat) (n : Nat) (σ : S3) (i : Nat) (hi : i < n) : CM l yX2_bit wsX2_bit rmX2_bit D cy ad n [.ref (ad (15 + 3 * i))] σ (xPi fun r u => u = σ ∧ r = 1 <<< (nI i &&& 31)) := by
  refine xs_M (cc := cX2_bit) (maxL := 1) (ret := (some .int)) (by decide +kernel) rfl (Nat.le_of_ble_eq_true rfl) ?_
  intro p e s m below meth c ls S hr hlocks hnm hw hX hl
  have S : CallFix p m c cX2_bit 1 s [.ref (ad (15 + 3 * i))].toArray wsX2_bit RX2 := S
  have hx := S.1
  have hb := S.2.1
  have hts := S.2.2.2.2
  have hl : lv_has ls 1 [(0, .ref (ad (15 + 3 * i)))] := hl
  refine lv_iconst (v := 1) hx hb dX2_bit_0 (by decide) ?_
  refine lv_aload_n hx hb dX2_bit_1 rfl (lv_at hl 0 rfl) ?_
  refine xr_get S hw (j := 0) (k_m hi) (cE_m _ _ _ _ _) rfl inX2_bit_X2 (by decide) (hts (.fieldLink RX2 35 "UnionOffice$Member" "number" "I") (by decide +kernel)) rfl dX2_bit_2 ?_
  refine lv_ishl hx hb dX2_bit_5 ?_
  exact xe_i S.1 S.2.1 hr hlocks hw (⟨rfl, rfl⟩) (Nat.le_of_ble_eq_true rfl) (Nat.le_of_ble_eq_true rfl) dX2_bit_6
abbrev rmX2_standsOn : Room := { frames := 0, cells := 0, slots := 0, locals := 0 }
theorem inX2_standsOn_X2 : (∀ w ∈ wsX20, w ∈ wsX2_standsOn) := by decide +kernel
set_option maxHeartbeats 4000000 in
set_option maxRecDepth 100000 in
/-- standsOn(day) -/
theorem c_X2_standsOn (l : Launch) (D : va_G) (cy : Nat → ClassId) (ad : Nat → Nat) (n : Nat) (σ : S3) (i : Nat) (hi : i < n) (d : Int32) : CM l yX2_standsOn wsX2_standsOn rmX2_standsOn D cy ad n [.ref (ad (15 + 3 * i)), .int d] σ (xPi fun r u => u = σ ∧ r = stI σ i d) := by
  refine xs_M (cc := cX2_standsOn) (maxL := 3) (ret := (some .boolean)) (by decide +kernel) rfl (Nat.le_of_ble_eq_true rfl) ?_
  intro p e s m below meth c ls S hr hlocks hnm hw hX hl
  have S : CallFix p m c cX2_standsOn 3 s [.ref (ad (15 + 3 * i)), .int d].toArray wsX2_standsOn RX2 := S
  have hx := S.1
  have hb := S.2.1
  have hts := S.2.2.2.2
  have hl : lv_has ls 3 [(0, .ref (ad (15 + 3 * i))), (1, .int d)] := hl
  refine lv_aload_n hx hb dX2_standsOn_0 rfl (lv_at hl 0 rfl) ?_
  refine xr_get S hw (j := 9) (k_m hi) (cE_m _ _ _ _ _) rfl inX2_standsOn_X2 (by decide) (hts (.fieldLink RX2 32 "UnionOffice$Member" "earliestOwed" "I") (by decide +kernel)) rfl dX2_standsOn_1 ?_
  refine lv_bipush (v := 60) hx hb dX2_standsOn_4 (by decide) ?_
  refine lv_icmp_ge (tgt := 29) hx hb dX2_standsOn_6 (by decide) (fun c1 => ?_) (fun c1 => ?_)
  · refine lv_iconst (v := 0) hx hb dX2_standsOn_29 (by decide) ?_
    refine lv_istore_n (lv' := [(2, .int 0), (0, .ref (ad (15 + 3 * i))), (1, .int d)]) hx hb dX2_standsOn_30 rfl hl (by decide) rfl (fun ls hl => ?_)
    refine lv_aload_n hx hb dX2_standsOn_31 rfl (lv_at hl 1 rfl) ?_
    refine xr_get S hw (j := 6) (k_m hi) (cE_m _ _ _ _ _) rfl inX2_standsOn_X2 (by decide) (hts (.fieldLink RX2 22 "UnionOffice$Member" "hasLeft" "Z") (by decide +kernel)) rfl dX2_standsOn_32 ?_
    refine lv_if_ne (tgt := 46) hx hb dX2_standsOn_35 (by decide) (fun c2 => ?_) (fun c2 => ?_)
    · refine lv_iconst (v := 0) hx hb dX2_standsOn_46 (by decide) ?_
      exact xe_z S.1 S.2.1 hr (Or.inl rfl) hlocks hw (⟨rfl, by simp [stI, Stands, c1, c2]⟩) (Nat.le_of_ble_eq_true rfl) (Nat.le_of_ble_eq_true rfl) dX2_standsOn_47
    · refine lv_iload_n hx hb dX2_standsOn_38 rfl (lv_at hl 0 rfl) ?_
      refine lv_if_ne (tgt := 46) hx hb dX2_standsOn_39 (by decide) (fun h => absurd h (by decide)) (fun _ => ?_)
      refine lv_iconst (v := 1) hx hb dX2_standsOn_42 (by decide) ?_
      refine lv_goto (tgt := 47) hx hb dX2_standsOn_43 (by decide) ?_
      exact xe_z S.1 S.2.1 hr (Or.inr rfl) hlocks hw (⟨rfl, by simp [stI, Stands, c1, c2]⟩) (Nat.le_of_ble_eq_true rfl) (Nat.le_of_ble_eq_true rfl) dX2_standsOn_47
  · refine lv_iload_n hx hb dX2_standsOn_9 rfl (lv_at hl 1 rfl) ?_
    refine lv_bipush (v := 30) hx hb dX2_standsOn_10 (by decide) ?_
    refine lv_aload_n hx hb dX2_standsOn_12 rfl (lv_at hl 0 rfl) ?_
    refine xr_get S hw (j := 9) (k_m hi) (cE_m _ _ _ _ _) rfl inX2_standsOn_X2 (by decide) (hts (.fieldLink RX2 32 "UnionOffice$Member" "earliestOwed" "I") (by decide +kernel)) rfl dX2_standsOn_13 ?_
    refine lv_iconst (v := 1) hx hb dX2_standsOn_16 (by decide) ?_
    refine lv_iadd hx hb dX2_standsOn_17 ?_
    refine lv_imul hx hb dX2_standsOn_18 ?_
    refine lv_bipush (v := 60) hx hb dX2_standsOn_19 (by decide) ?_
    refine lv_iadd hx hb dX2_standsOn_21 ?_
    refine lv_icmp_lt (tgt := 29) hx hb dX2_standsOn_22 (by decide) (fun c4 => ?_) (fun c4 => ?_)
    · refine lv_iconst (v := 0) hx hb dX2_standsOn_29 (by decide) ?_
      refine lv_istore_n (lv' := [(2, .int 0), (0, .ref (ad (15 + 3 * i))), (1, .int d)]) hx hb dX2_standsOn_30 rfl hl (by decide) rfl (fun ls hl => ?_)
      refine lv_aload_n hx hb dX2_standsOn_31 rfl (lv_at hl 1 rfl) ?_
      refine xr_get S hw (j := 6) (k_m hi) (cE_m _ _ _ _ _) rfl inX2_standsOn_X2 (by decide) (hts (.fieldLink RX2 22 "UnionOffice$Member" "hasLeft" "Z") (by decide +kernel)) rfl dX2_standsOn_32 ?_
      refine lv_if_ne (tgt := 46) hx hb dX2_standsOn_35 (by decide) (fun c5 => ?_) (fun c5 => ?_)
      · refine lv_iconst (v := 0) hx hb dX2_standsOn_46 (by decide) ?_
        exact xe_z S.1 S.2.1 hr (Or.inl rfl) hlocks hw (⟨rfl, by simp [stI, Stands, c1, c4, c5]⟩) (Nat.le_of_ble_eq_true rfl) (Nat.le_of_ble_eq_true rfl) dX2_standsOn_47
      · refine lv_iload_n hx hb dX2_standsOn_38 rfl (lv_at hl 0 rfl) ?_
        refine lv_if_ne (tgt := 46) hx hb dX2_standsOn_39 (by decide) (fun h => absurd h (by decide)) (fun _ => ?_)
        refine lv_iconst (v := 1) hx hb dX2_standsOn_42 (by decide) ?_
        refine lv_goto (tgt := 47) hx hb dX2_standsOn_43 (by decide) ?_
        exact xe_z S.1 S.2.1 hr (Or.inr rfl) hlocks hw (⟨rfl, by simp [stI, Stands, c1, c4, c5]⟩) (Nat.le_of_ble_eq_true rfl) (Nat.le_of_ble_eq_true rfl) dX2_standsOn_47
    · refine lv_iconst (v := 1) hx hb dX2_standsOn_25 (by decide) ?_
      refine lv_goto (tgt := 30) hx hb dX2_standsOn_26 (by decide) ?_
      refine lv_istore_n (lv' := [(2, .int 1), (0, .ref (ad (15 + 3 * i))), (1, .int d)]) hx hb dX2_standsOn_30 rfl hl (by decide) rfl (fun ls hl => ?_)
      refine lv_aload_n hx hb dX2_standsOn_31 rfl (lv_at hl 1 rfl) ?_
      refine xr_get S hw (j := 6) (k_m hi) (cE_m _ _ _ _ _) rfl inX2_standsOn_X2 (by decide) (hts (.fieldLink RX2 22 "UnionOffice$Member" "hasLeft" "Z") (by decide +kernel)) rfl dX2_standsOn_32 ?_
      refine lv_if_ne (tgt := 46) hx hb dX2_standsOn_35 (by decide) (fun c7 => ?_) (fun c7 => ?_)
      · refine lv_iconst (v := 0) hx hb dX2_standsOn_46 (by decide) ?_
        exact xe_z S.1 S.2.1 hr (Or.inl rfl) hlocks hw (⟨rfl, by simp [stI, Stands, c1, c4, c7]⟩) (Nat.le_of_ble_eq_true rfl) (Nat.le_of_ble_eq_true rfl) dX2_standsOn_47
      · refine lv_iload_n hx hb dX2_standsOn_38 rfl (lv_at hl 0 rfl) ?_
        refine lv_if_ne (tgt := 46) hx hb dX2_standsOn_39 (by decide) (fun _ => ?_) (fun h => absurd h (by decide))
        refine lv_iconst (v := 0) hx hb dX2_standsOn_46 (by decide) ?_
        exact xe_z S.1 S.2.1 hr (Or.inl rfl) hlocks hw (⟨rfl, by simp [stI, Stands, c1, c4, c7]⟩) (Nat.le_of_ble_eq_true rfl) (Nat.le_of_ble_eq_true rfl) dX2_standsOn_47
