/-! ===== UnionOffice$Member ===== -/
abbrev rmX2_bit : Room := { frames := 0, cells := 0, slots := 0, locals := 0 }
theorem inX2_bit_X2 : (∀ w ∈ wsX20, w ∈ wsX2_bit) := by decide +kernel
set_option maxHeartbeats 1000000 in
set_option maxRecDepth 100000 in
/-- bit(): one bit, by the number -/
theorem c_X2_bit (l : Launch) (D : va_G) (cy : Nat → ClassId) (ad : Nat → Nat) (n : Nat) (σ : S3) (i : Nat) (hi : i < n) : CM l yX2_bit wsX2_bit rmX2_bit D cy ad n [.ref (ad (15 + 3 * i))] σ (xPi fun r u => u = σ ∧ r = 1 <<< (nI i &&& 31)) := by
  refine xs_M (cc := cX2_bit) (maxL := 1) (ret := (some .int)) (by decide +kernel) rfl (Nat.le_of_ble_eq_true rfl) ?_
  intro p e s m below meth c ls S hr hlocks hnm hw hX hl
  have S : CallFix p m c cX2_bit 1 s [.ref (ad (15 + 3 * i))].toArray wsX2_bit RX2 := S
  have hx := S.1
  have hb := S.2.1
  have hts := S.2.2.2.2
  have hl : lv_has ls 1 [(0, .ref (ad (15 + 3 * i)))] := hl
  refine lv_iconst (v := 1) hx hb dX2_bit_0 (by decide) ?_
  refine lv_aload_n hx hb dX2_bit_1 rfl (lv_at hl 0 rfl) ?_
  refine xr_get S hw (j := 0) (k_m hi) (cE_m _ _ _ _ _) rfl inX2_bit_X2 (by decide) (hts (.fieldLink RX2 35 "UnionOffice$Member" "number" "I") (by decide +kernel)) rfl dX2_bit_2 ?_
  refine lv_ishl hx hb dX2_bit_5 ?_
  exact xe_i S.1 S.2.1 hr hlocks hw (⟨rfl, rfl⟩) (Nat.le_of_ble_eq_true rfl) (Nat.le_of_ble_eq_true rfl) dX2_bit_6
abbrev rmX2_standsOn : Room := { frames := 0, cells := 0, slots := 0, locals := 0 }
theorem inX2_standsOn_X2 : (∀ w ∈ wsX20, w ∈ wsX2_standsOn) := by decide +kernel
set_option maxHeartbeats 1000000 in
set_option maxRecDepth 100000 in
/-- standsOn(day) -/
theorem c_X2_standsOn (l : Launch) (D : va_G) (cy : Nat → ClassId) (ad : Nat → Nat) (n : Nat) (σ : S3) (i : Nat) (hi : i < n) (d : Int32) : CM l yX2_standsOn wsX2_standsOn rmX2_standsOn D cy ad n [.ref (ad (15 + 3 * i)), .int d] σ (xPi fun r u => u = σ ∧ r = stI σ i d) := by
  refine xs_M (cc := cX2_standsOn) (maxL := 3) (ret := (some .boolean)) (by decide +kernel) rfl (Nat.le_of_ble_eq_true rfl) ?_
  intro p e s m below meth c ls S hr hlocks hnm hw hX hl
  have S : CallFix p m c cX2_standsOn 3 s [.ref (ad (15 + 3 * i)), .int d].toArray wsX2_standsOn RX2 := S
  have hx := S.1
  have hb := S.2.1
  have hts := S.2.2.2.2
  have hl : lv_has ls 3 [(0, .ref (ad (15 + 3 * i))), (1, .int d)] := hl
  refine lv_aload_n hx hb dX2_standsOn_0 rfl (lv_at hl 0 rfl) ?_
  refine xr_get S hw (j := 9) (k_m hi) (cE_m _ _ _ _ _) rfl inX2_standsOn_X2 (by decide) (hts (.fieldLink RX2 32 "UnionOffice$Member" "earliestOwed" "I") (by decide +kernel)) rfl dX2_standsOn_1 ?_
  refine lv_bipush (v := 60) hx hb dX2_standsOn_4 (by decide) ?_
  refine lv_icmp_ge (tgt := 29) hx hb dX2_standsOn_6 (by decide) (fun c1 => ?_) (fun c1 => ?_)
  · refine lv_iconst (v := 0) hx hb dX2_standsOn_29 (by decide) ?_
    refine lv_istore_n (lv' := [(2, .int 0), (0, .ref (ad (15 + 3 * i))), (1, .int d)]) hx hb dX2_standsOn_30 rfl hl (by decide) rfl (fun ls hl => ?_)
    refine lv_aload_n hx hb dX2_standsOn_31 rfl (lv_at hl 1 rfl) ?_
    refine xr_get S hw (j := 6) (k_m hi) (cE_m _ _ _ _ _) rfl inX2_standsOn_X2 (by decide) (hts (.fieldLink RX2 22 "UnionOffice$Member" "hasLeft" "Z") (by decide +kernel)) rfl dX2_standsOn_32 ?_
    refine lv_if_ne (tgt := 46) hx hb dX2_standsOn_35 (by decide) (fun c2 => ?_) (fun c2 => ?_)
    · refine lv_iconst (v := 0) hx hb dX2_standsOn_46 (by decide) ?_
      exact xe_z S.1 S.2.1 hr (Or.inl rfl) hlocks hw (⟨rfl, by simp [stI, Stands, c1, c2]⟩) (Nat.le_of_ble_eq_true rfl) (Nat.le_of_ble_eq_true rfl) dX2_standsOn_47
    · refine lv_iload_n hx hb dX2_standsOn_38 rfl (lv_at hl 0 rfl) ?_
      refine lv_if_ne (tgt := 46) hx hb dX2_standsOn_39 (by decide) (fun h => absurd h (by decide)) (fun _ => ?_)
      refine lv_iconst (v := 1) hx hb dX2_standsOn_42 (by decide) ?_
      refine lv_goto (tgt := 47) hx hb dX2_standsOn_43 (by decide) ?_
      exact xe_z S.1 S.2.1 hr (Or.inr rfl) hlocks hw (⟨rfl, by simp [stI, Stands, c1, c2]⟩) (Nat.le_of_ble_eq_true rfl) (Nat.le_of_ble_eq_true rfl) dX2_standsOn_47
  · refine lv_iload_n hx hb dX2_standsOn_9 rfl (lv_at hl 1 rfl) ?_
    refine lv_bipush (v := 30) hx hb dX2_standsOn_10 (by decide) ?_
    refine lv_aload_n hx hb dX2_standsOn_12 rfl (lv_at hl 0 rfl) ?_
    refine xr_get S hw (j := 9) (k_m hi) (cE_m _ _ _ _ _) rfl inX2_standsOn_X2 (by decide) (hts (.fieldLink RX2 32 "UnionOffice$Member" "earliestOwed" "I") (by decide +kernel)) rfl dX2_standsOn_13 ?_
    refine lv_iconst (v := 1) hx hb dX2_standsOn_16 (by decide) ?_
    refine lv_iadd hx hb dX2_standsOn_17 ?_
    refine lv_imul hx hb dX2_standsOn_18 ?_
    refine lv_bipush (v := 60) hx hb dX2_standsOn_19 (by decide) ?_
    refine lv_iadd hx hb dX2_standsOn_21 ?_
    refine lv_icmp_lt (tgt := 29) hx hb dX2_standsOn_22 (by decide) (fun c4 => ?_) (fun c4 => ?_)
    · refine lv_iconst (v := 0) hx hb dX2_standsOn_29 (by decide) ?_
      refine lv_istore_n (lv' := [(2, .int 0), (0, .ref (ad (15 + 3 * i))), (1, .int d)]) hx hb dX2_standsOn_30 rfl hl (by decide) rfl (fun ls hl => ?_)
      refine lv_aload_n hx hb dX2_standsOn_31 rfl (lv_at hl 1 rfl) ?_
      refine xr_get S hw (j := 6) (k_m hi) (cE_m _ _ _ _ _) rfl inX2_standsOn_X2 (by decide) (hts (.fieldLink RX2 22 "UnionOffice$Member" "hasLeft" "Z") (by decide +kernel)) rfl dX2_standsOn_32 ?_
      refine lv_if_ne (tgt := 46) hx hb dX2_standsOn_35 (by decide) (fun c5 => ?_) (fun c5 => ?_)
      · refine lv_iconst (v := 0) hx hb dX2_standsOn_46 (by decide) ?_
        exact xe_z S.1 S.2.1 hr (Or.inl rfl) hlocks hw (⟨rfl, by simp [stI, Stands, c1, c4, c5]⟩) (Nat.le_of_ble_eq_true rfl) (Nat.le_of_ble_eq_true rfl) dX2_standsOn_47
      · refine lv_iload_n hx hb dX2_standsOn_38 rfl (lv_at hl 0 rfl) ?_
        refine lv_if_ne (tgt := 46) hx hb dX2_standsOn_39 (by decide) (fun h => absurd h (by decide)) (fun _ => ?_)
        refine lv_iconst (v := 1) hx hb dX2_standsOn_42 (by decide) ?_
        refine lv_goto (tgt := 47) hx hb dX2_standsOn_43 (by decide) ?_
        exact xe_z S.1 S.2.1 hr (Or.inr rfl) hlocks hw (⟨rfl, by simp [stI, Stands, c1, c4, c5]⟩) (Nat.le_of_ble_eq_true rfl) (Nat.le_of_ble_eq_true rfl) dX2_standsOn_47
    · refine lv_iconst (v := 1) hx hb dX2_standsOn_25 (by decide) ?_
      refine lv_goto (tgt := 30) hx hb dX2_standsOn_26 (by decide) ?_
      refine lv_istore_n (lv' := [(2, .int 1), (0, .ref (ad (15 + 3 * i))), (1, .int d)]) hx hb dX2_standsOn_30 rfl hl (by decide) rfl (fun ls hl => ?_)
      refine lv_aload_n hx hb dX2_standsOn_31 rfl (lv_at hl 1 rfl) ?_
      refine xr_get S hw (j := 6) (k_m hi) (cE_m _ _ _ _ _) rfl inX2_standsOn_X2 (by decide) (hts (.fieldLink RX2 22 "UnionOffice$Member" "hasLeft" "Z") (by decide +kernel)) rfl dX2_standsOn_32 ?_
      refine lv_if_ne (tgt := 46) hx hb dX2_standsOn_35 (by decide) (fun c7 => ?_) (fun c7 => ?_)
      · refine lv_iconst (v := 0) hx hb dX2_standsOn_46 (by decide) ?_
        exact xe_z S.1 S.2.1 hr (Or.inl rfl) hlocks hw (⟨rfl, by simp [stI, Stands, c1, c4, c7]⟩) (Nat.le_of_ble_eq_true rfl) (Nat.le_of_ble_eq_true rfl) dX2_standsOn_47
      · refine lv_iload_n hx hb dX2_standsOn_38 rfl (lv_at hl 0 rfl) ?_
        refine lv_if_ne (tgt := 46) hx hb dX2_standsOn_39 (by decide) (fun _ => ?_) (fun h => absurd h (by decide))
        refine lv_iconst (v := 0) hx hb dX2_standsOn_46 (by decide) ?_
        exact xe_z S.1 S.2.1 hr (Or.inl rfl) hlocks hw (⟨rfl, by simp [stI, Stands, c1, c4, c7]⟩) (Nat.le_of_ble_eq_true rfl) (Nat.le_of_ble_eq_true rfl) dX2_standsOn_47
abbrev rmX2_sumOwed : Room := { frames := 0, cells := 0, slots := 0, locals := 0 }
theorem inX2_sumOwed_X2 : (∀ w ∈ wsX20, w ∈ wsX2_sumOwed) := by decide +kernel
set_option maxHeartbeats 1000000 in
set_option maxRecDepth 100000 in
theorem lp_X2_sumOwed {p : Program} {l : Launch} {e : Env} {R : Room} {s : State} {m : MethodId} {args : Array Value} {below : List Frame} {meth : Method} {c : Code} {cells slots : Nat} {Q : State → Prop} (S : CallFix p m c cX2_sumOwed 3 s args wsX2_sumOwed RX2) {D : va_G} {cy : Nat → ClassId} {ad : Nat → Nat} {n : Nat} {σ : S3} {i : Nat} (hi : i < n) : ∀ (k : Nat) (j : Nat) (acc : Int32) (H : Heap) (locs : List Loc) (ls : Array Slot), 60 - j < k → j ≤ 60 → eo σ i ≤ j → acc = sumN (σ 7 i) (eo σ i) (j - eo σ i) → CW D cy s ad n σ H locs → lv_has ls 3 [(0, .ref (ad (15 + 3 * i))), (1, .int acc), (2, .int (nI j))] → (∀ (r : Int32) (H : Heap) (locs : List Loc) (ls : Array Slot), r = sOwed σ i → CW D cy s ad n σ H locs → lv_has ls 3 [(0, .ref (ad (15 + 3 * i))), (1, .int r)] → W p l e R s m args below meth c H locs cells slots Q (F0 m 28 ls [])) → W p l e R s m args below meth c H locs cells slots Q (F0 m 7 ls []) := by
  have hx := S.1
  have hb := S.2.1
  have hts := S.2.2.2.2
  intro k
  induction k with
  | zero => intro j acc H locs ls hk; exact absurd hk (Nat.not_lt_zero _)
  | succ k ih =>
    intro j acc H locs ls hk hj hej hacc hw hl kk
    refine lv_iload_n hx hb dX2_sumOwed_7 rfl (lv_at hl 2 rfl) ?_
    refine lv_bipush (v := 60) hx hb dX2_sumOwed_8 (by decide) ?_
    refine lv_icmp_ge (tgt := 28) hx hb dX2_sumOwed_10 (by decide) (fun c1 => ?_) (fun c1 => ?_)
    · have hj6 : j = 60 := by
        rcases Nat.lt_or_ge j 60 with q | q
        · exact absurd c1 ((lt60 (by omega)).mpr q)
        · omega
      exact kk acc H locs ls (by rw [hacc, hj6]; rfl) hw (lv_sub hl [0, 1] rfl)
    · have hj6 : j < 60 := (lt60 (by omega)).mp c1
      refine lv_iload_n hx hb dX2_sumOwed_13 rfl (lv_at hl 1 rfl) ?_
      refine lv_aload_n hx hb dX2_sumOwed_14 rfl (lv_at hl 0 rfl) ?_
      refine xr_get S hw (j := 1) (k_m hi) (cE_m _ _ _ _ _) rfl inX2_sumOwed_X2 (by decide) (hts (.fieldLink RX2 9 "UnionOffice$Member" "owedFor" "[I") (by decide +kernel)) rfl dX2_sumOwed_15 ?_
      refine lv_iload_n hx hb dX2_sumOwed_18 rfl (lv_at hl 2 rfl) ?_
      refine xn_iald S hw (t0 := 0) (k_ow hi) (cE_ow _ _ _ _ _) rfl hj6 (by decide) dX2_sumOwed_19 ?_
      refine lv_iadd hx hb dX2_sumOwed_20 ?_
      refine lv_istore_n (lv' := [(1, .int (acc + (σ 7 i j))), (0, .ref (ad (15 + 3 * i))), (2, .int (nI j))]) hx hb dX2_sumOwed_21 rfl hl (by decide) rfl (fun ls hl => ?_)
      refine lv_iinc (v := nI (j + 1)) (lv' := [(2, .int (nI (j + 1))), (1, .int (acc + (σ 7 i j))), (0, .ref (ad (15 + 3 * i)))]) hx hb dX2_sumOwed_22 hl (k := 2) rfl (nI_1 j) (by decide) rfl (fun ls hl => ?_)
      refine lv_goto (tgt := 7) hx hb dX2_sumOwed_25 (by decide) ?_
      exact ih (j + 1) (acc + σ 7 i j) H locs ls (by omega) (by omega) (by omega) (by rw [hacc, show j + 1 - eo σ i = (j - eo σ i) + 1 by omega]; show _ = sumN _ _ _ + σ 7 i (eo σ i + (j - eo σ i)); rw [show eo σ i + (j - eo σ i) = j by omega]) hw (lv_sub hl [2, 1, 0] rfl) kk
set_option maxHeartbeats 1000000 in
set_option maxRecDepth 100000 in
/-- sumOwed() -/
theorem c_X2_sumOwed (l : Launch) (D : va_G) (cy : Nat → ClassId) (ad : Nat → Nat) (n : Nat) (σ : S3) (i : Nat) (hi : i < n) : CM l yX2_sumOwed wsX2_sumOwed rmX2_sumOwed D cy ad n [.ref (ad (15 + 3 * i))] σ (xPi fun r u => u = σ ∧ r = sOwed σ i) := by
  refine xs_M (cc := cX2_sumOwed) (maxL := 3) (ret := (some .int)) (by decide +kernel) rfl (Nat.le_of_ble_eq_true rfl) ?_
  intro p e s m below meth c ls S hr hlocks hnm hw hX hl
  have S : CallFix p m c cX2_sumOwed 3 s [.ref (ad (15 + 3 * i))].toArray wsX2_sumOwed RX2 := S
  have hx := S.1
  have hb := S.2.1
  have hts := S.2.2.2.2
  have hl : lv_has ls 3 [(0, .ref (ad (15 + 3 * i)))] := hl
  refine lv_iconst (v := 0) hx hb dX2_sumOwed_0 (by decide) ?_
  refine lv_istore_n (lv' := [(1, .int 0), (0, .ref (ad (15 + 3 * i)))]) hx hb dX2_sumOwed_1 rfl hl (by decide) rfl (fun ls hl => ?_)
  refine lv_aload_n hx hb dX2_sumOwed_2 rfl (lv_at hl 1 rfl) ?_
  refine xr_get S hw (j := 9) (k_m hi) (cE_m _ _ _ _ _) rfl inX2_sumOwed_X2 (by decide) (hts (.fieldLink RX2 32 "UnionOffice$Member" "earliestOwed" "I") (by decide +kernel)) rfl dX2_sumOwed_3 ?_
  refine lv_istore_n (lv' := [(2, .int (nI (eo σ i))), (1, .int 0), (0, .ref (ad (15 + 3 * i)))]) hx hb dX2_sumOwed_6 rfl hl (by decide) rfl (fun ls hl => ?_)
  refine lp_X2_sumOwed S hi 61 (eo σ i) 0 _ _ ls (by omega) (eo_le σ i) (Nat.le_refl _) (by rw [Nat.sub_self]; rfl) hw (lv_sub hl [2, 1, 0] rfl) (fun r H locs ls hr9 hw hl => ?_)
  refine lv_iload_n hx hb dX2_sumOwed_28 rfl (lv_at hl 1 rfl) ?_
  exact xe_i S.1 S.2.1 hr hlocks hw (⟨rfl, hr9⟩) (Nat.le_of_ble_eq_true rfl) (Nat.le_of_ble_eq_true rfl) dX2_sumOwed_29
abbrev rmX2_skipSettled : Room := { frames := 0, cells := 0, slots := 0, locals := 0 }
theorem inX2_skipSettled_X2 : (∀ w ∈ wsX20, w ∈ wsX2_skipSettled) := by decide +kernel
set_option maxHeartbeats 1000000 in
set_option maxRecDepth 100000 in
theorem lp_X2_skipSettled {p : Program} {l : Launch} {e : Env} {R : Room} {s : State} {m : MethodId} {args : Array Value} {below : List Frame} {meth : Method} {c : Code} {cells slots : Nat} {Q : State → Prop} (S : CallFix p m c cX2_skipSettled 1 s args wsX2_skipSettled RX2) {D : va_G} {cy : Nat → ClassId} {ad : Nat → Nat} {n : Nat} {i : Nat} (hi : i < n) : ∀ (k : Nat) (σ : S3) (H : Heap) (locs : List Loc) (ls : Array Slot), 60 - eo σ i < k → CW D cy s ad n σ H locs → lv_has ls 1 [(0, .ref (ad (15 + 3 * i)))] → (∀ (H : Heap) (locs : List Loc) (ls : Array Slot), CW D cy s ad n (skipL i (60 - eo σ i) σ) H locs → lv_has ls 1 [(0, .ref (ad (15 + 3 * i)))] → W p l e R s m args below meth c H locs cells slots Q (F0 m 34 ls [])) → W p l e R s m args below meth c H locs cells slots Q (F0 m 0 ls []) := by
  have hx := S.1
  have hb := S.2.1
  have hts := S.2.2.2.2
  intro k
  induction k with
  | zero => intro σ H locs ls hk; exact absurd hk (Nat.not_lt_zero _)
  | succ k ih =>
    intro σ H locs ls hk  hw hl kk
    refine lv_aload_n hx hb dX2_skipSettled_0 rfl (lv_at hl 0 rfl) ?_
    refine xr_get S hw (j := 9) (k_m hi) (cE_m _ _ _ _ _) rfl inX2_skipSettled_X2 (by decide) (hts (.fieldLink RX2 32 "UnionOffice$Member" "earliestOwed" "I") (by decide +kernel)) rfl dX2_skipSettled_1 ?_
    refine lv_bipush (v := 60) hx hb dX2_skipSettled_4 (by decide) ?_
    refine lv_icmp_ge (tgt := 34) hx hb dX2_skipSettled_6 (by decide) (fun c1 => ?_) (fun c1 => ?_)
    · have hj6 : eo σ i = 60 := by
        have := eo_le σ i
        rcases Nat.lt_or_ge (eo σ i) 60 with q | q
        · exact absurd c1 ((lt60 (by omega)).mpr q)
        · omega
      exact kk H locs ls (by rw [hj6]; exact hw) (lv_sub hl [0] rfl)
    · have hj6 : eo σ i < 60 := (lt60 (by have := eo_le σ i; omega)).mp c1
      refine lv_aload_n hx hb dX2_skipSettled_9 rfl (lv_at hl 0 rfl) ?_
      refine xr_get S hw (j := 1) (k_m hi) (cE_m _ _ _ _ _) rfl inX2_skipSettled_X2 (by decide) (hts (.fieldLink RX2 9 "UnionOffice$Member" "owedFor" "[I") (by decide +kernel)) rfl dX2_skipSettled_10 ?_
      refine lv_aload_n hx hb dX2_skipSettled_13 rfl (lv_at hl 0 rfl) ?_
      refine xr_get S hw (j := 9) (k_m hi) (cE_m _ _ _ _ _) rfl inX2_skipSettled_X2 (by decide) (hts (.fieldLink RX2 32 "UnionOffice$Member" "earliestOwed" "I") (by decide +kernel)) rfl dX2_skipSettled_14 ?_
      refine xn_iald S hw (t0 := 0) (k_ow hi) (cE_ow _ _ _ _ _) rfl hj6 (by decide) dX2_skipSettled_17 ?_
      refine lv_if_ne (tgt := 34) hx hb dX2_skipSettled_18 (by decide) (fun c2 => ?_) (fun c2 => ?_)
      · exact kk H locs ls (by rw [show 60 - eo σ i = (59 - eo σ i) + 1 by omega, show skipL i ((59 - eo σ i) + 1) σ = σ from if_neg c2]; exact hw) (lv_sub hl [0] rfl)
      · refine lv_aload_n hx hb dX2_skipSettled_21 rfl (lv_at hl 0 rfl) ?_
        refine lv_dup hx hb dX2_skipSettled_22 rfl ?_
        refine xr_get S hw (j := 9) (k_m hi) (cE_m _ _ _ _ _) rfl inX2_skipSettled_X2 (by decide) (hts (.fieldLink RX2 32 "UnionOffice$Member" "earliestOwed" "I") (by decide +kernel)) rfl dX2_skipSettled_23 ?_
        refine lv_iconst (v := 1) hx hb dX2_skipSettled_26 (by decide) ?_
        refine lv_iadd hx hb dX2_skipSettled_27 ?_
        rw [show nI (eo σ i) + 1 = nI (eo σ i + 1) from nI_1 _]
        obtain ⟨σ1, hσ1⟩ : ∃ y : S3, y = su σ 22 i 0 (nI (eo σ i + 1)) := ⟨_, rfl⟩
        refine xr_put S hw tyX2 tyX2_ok nmX2 (j := 9) (k_m hi) (cE_m _ _ _ _ _) rfl inX2_skipSettled_X2 (by decide) (hts (.fieldLink RX2 32 "UnionOffice$Member" "earliestOwed" "I") (by decide +kernel)) rfl (tyX2_ok 9 (by decide)) rfl rfl (Nat.le_of_ble_eq_true rfl) dX2_skipSettled_28 (cE cy ad n σ1) (by rw [hσ1]; exact up_eo _ _ _ _ i (show eo σ i + 1 ≤ 60 by omega)) (fun H locs hw => ?_)
        refine lv_goto (tgt := 0) hx hb dX2_skipSettled_31 (by decide) ?_
        have he1 : eo σ1 i = eo σ i + 1 := by rw [hσ1]; exact eo_su22 (by omega)
        have he2 : skipL i (60 - eo σ i) σ = skipL i (60 - eo σ1 i) σ1 := by
          rw [he1, show 60 - eo σ i = (60 - (eo σ i + 1)) + 1 by omega, hσ1]
          exact if_pos c2
        exact ih σ1 H locs ls (by omega) hw (lv_sub hl [0] rfl) (fun H locs ls hw hl => kk H locs ls (by rw [he2]; exact hw) hl)
set_option maxHeartbeats 1000000 in
set_option maxRecDepth 100000 in
/-- skipSettled() -/
theorem c_X2_skipSettled (l : Launch) (D : va_G) (cy : Nat → ClassId) (ad : Nat → Nat) (n : Nat) (σ : S3) (i : Nat) (hi : i < n) : CM l yX2_skipSettled wsX2_skipSettled rmX2_skipSettled D cy ad n [.ref (ad (15 + 3 * i))] σ (xPv fun u => u = skipL i (60 - eo σ i) σ) := by
  refine xs_M (cc := cX2_skipSettled) (maxL := 1) (ret := none) (by decide +kernel) rfl (Nat.le_of_ble_eq_true rfl) ?_
  intro p e s m below meth c ls S hr hlocks hnm hw hX hl
  have S : CallFix p m c cX2_skipSettled 1 s [.ref (ad (15 + 3 * i))].toArray wsX2_skipSettled RX2 := S
  have hx := S.1
  have hb := S.2.1
  have hts := S.2.2.2.2
  have hl : lv_has ls 1 [(0, .ref (ad (15 + 3 * i)))] := hl
  refine lp_X2_skipSettled S hi 61 σ _ _ ls (by omega) hw hl (fun H locs ls hw hl => ?_)
  exact xe_v S.1 S.2.1 hr hlocks hw (rfl) (Nat.le_of_ble_eq_true rfl) (Nat.le_of_ble_eq_true rfl) dX2_skipSettled_34
abbrev rmX2_layLeftOver : Room := { frames := 1, cells := 0, slots := 0, locals := 20 }
theorem inX2_layLeftOver_X1 : (∀ w ∈ wsX10, w ∈ wsX2_layLeftOver) := by decide +kernel
theorem inX2_layLeftOver_X2 : (∀ w ∈ wsX20, w ∈ wsX2_layLeftOver) := by decide +kernel
set_option maxHeartbeats 1000000 in
set_option maxRecDepth 100000 in
theorem lp_X2_layLeftOver {p : Program} {l : Launch} {e : Env} {R : Room} {s : State} {m : MethodId} {args : Array Value} {below : List Frame} {meth : Method} {c : Code} {cells slots : Nat} {Q : State → Prop} (S : CallFix p m c cX2_layLeftOver 4 s args wsX2_layLeftOver RX2) {D : va_G} {cy : Nat → ClassId} {ad : Nat → Nat} {n : Nat} {i : Nat} (hi : i < n) (hX : cX ad (15 + 3 * n) s.heap.size s) (hR1 : 1 ≤ R.frames) (hR2 : 20 ≤ R.locals) (hR3 : cells ≤ R.cells) (hR4 : slots ≤ R.slots) : ∀ (k : Nat) (j : Nat) (σ : S3) (sh : Int32) (H : Heap) (locs : List Loc) (ls : Array Slot), 60 - j < k → j ≤ 60 → CW D cy s ad n σ H locs → lv_has ls 4 [(0, .ref (ad (15 + 3 * i))), (1, .int sh), (2, .int (nI j))] → (∀ (H : Heap) (locs : List Loc) (ls : Array Slot), CW D cy s ad n ((layL i (60 - j) j σ sh).1) H locs → lv_has ls 4 [(0, .ref (ad (15 + 3 * i))), (1, .int ((layL i (60 - j) j σ sh).2))] → W p l e R s m args below meth c H locs cells slots Q (F0 m 89 ls [])) → W p l e R s m args below meth c H locs cells slots Q (F0 m 7 ls []) := by
  have hx := S.1
  have hb := S.2.1
  have hts := S.2.2.2.2
  intro k
  induction k with
  | zero => intro j σ sh H locs ls hk; exact absurd hk (Nat.not_lt_zero _)
  | succ k ih =>
    intro j σ sh H locs ls hk hj hw hl kk
    refine lv_iload_n hx hb dX2_layLeftOver_7 rfl (lv_at hl 2 rfl) ?_
    refine lv_bipush (v := 60) hx hb dX2_layLeftOver_8 (by decide) ?_
    refine lv_icmp_ge (tgt := 89) hx hb dX2_layLeftOver_10 (by decide) (fun c1 => ?_) (fun c1 => ?_)
    · have hj6 : j = 60 := by
        rcases Nat.lt_or_ge j 60 with q | q
        · exact absurd c1 ((lt60 (by omega)).mpr q)
        · omega
      subst hj6
      exact kk H locs ls hw (lv_sub hl [0, 1] rfl)
    · have hj6 : j < 60 := (lt60 (by omega)).mp c1
      refine lv_aload_n hx hb dX2_layLeftOver_13 rfl (lv_at hl 0 rfl) ?_
      refine xr_get S hw (j := 7) (k_m hi) (cE_m _ _ _ _ _) rfl inX2_layLeftOver_X2 (by decide) (hts (.fieldLink RX2 25 "UnionOffice$Member" "leftOver" "I") (by decide +kernel)) rfl dX2_layLeftOver_14 ?_
      refine lv_if_le (tgt := 89) hx hb dX2_layLeftOver_17 (by decide) (fun c2 => ?_) (fun c2 => ?_)
      · have he2 : layL i (60 - j) j σ sh = (σ, sh) := by
          rw [show 60 - j = (59 - j) + 1 by omega]
          exact if_neg (Int32.not_lt.mpr c2)
        rw [he2] at kk
        exact kk H locs ls hw (lv_sub hl [0, 1] rfl)
      · refine lv_aload_n hx hb dX2_layLeftOver_20 rfl (lv_at hl 0 rfl) ?_
        refine xr_get S hw (j := 7) (k_m hi) (cE_m _ _ _ _ _) rfl inX2_layLeftOver_X2 (by decide) (hts (.fieldLink RX2 25 "UnionOffice$Member" "leftOver" "I") (by decide +kernel)) rfl dX2_layLeftOver_21 ?_
        refine lv_aload_n hx hb dX2_layLeftOver_24 rfl (lv_at hl 0 rfl) ?_
        refine xr_get S hw (j := 1) (k_m hi) (cE_m _ _ _ _ _) rfl inX2_layLeftOver_X2 (by decide) (hts (.fieldLink RX2 9 "UnionOffice$Member" "owedFor" "[I") (by decide +kernel)) rfl dX2_layLeftOver_25 ?_
        refine lv_iload_n hx hb dX2_layLeftOver_28 rfl (lv_at hl 2 rfl) ?_
        refine xn_iald S hw (t0 := 0) (k_ow hi) (cE_ow _ _ _ _ _) rfl hj6 (by decide) dX2_layLeftOver_29 ?_
        refine va_mmin hx hb (S.2.2.1.trans hl.1.symm) S.2.2.2.1 (hts (.methodLink RX2 51 Lib.Math.min.name) (by decide +kernel)) (hts (.static Lib.Math.min.name) (by decide +kernel)) (hts (.initialized "java/lang/Math") (by decide +kernel)) (hts (.code Lib.Math.min.name Lib.Math.min.code 2 (some .int)) (by decide +kernel)) hR1 (Nat.le_trans (Nat.le_of_ble_eq_true rfl) hR2) hR3 hR4 dX2_layLeftOver_30 ?_
        refine lv_istore_n (lv' := [(3, .int (if (σ 7 i j) < (σ 5 i 0) then σ 7 i j else σ 5 i 0)), (0, .ref (ad (15 + 3 * i))), (1, .int sh), (2, .int (nI j))]) hx hb dX2_layLeftOver_33 rfl hl (by decide) rfl (fun ls hl => ?_)
        refine lv_aload_n hx hb dX2_layLeftOver_34 rfl (lv_at hl 1 rfl) ?_
        refine lv_dup hx hb dX2_layLeftOver_35 rfl ?_
        refine xr_get S hw (j := 7) (k_m hi) (cE_m _ _ _ _ _) rfl inX2_layLeftOver_X2 (by decide) (hts (.fieldLink RX2 25 "UnionOffice$Member" "leftOver" "I") (by decide +kernel)) rfl dX2_layLeftOver_36 ?_
        refine lv_iload_n hx hb dX2_layLeftOver_39 rfl (lv_at hl 0 rfl) ?_
        refine lv_isub hx hb dX2_layLeftOver_40 ?_
        obtain ⟨σ1, hσ1⟩ : ∃ y : S3, y = su σ 5 i 0 ((σ 5 i 0) - (if (σ 7 i j) < (σ 5 i 0) then σ 7 i j else σ 5 i 0)) := ⟨_, rfl⟩
        refine xr_put S hw tyX2 tyX2_ok nmX2 (j := 7) (k_m hi) (cE_m _ _ _ _ _) rfl inX2_layLeftOver_X2 (by decide) (hts (.fieldLink RX2 25 "UnionOffice$Member" "leftOver" "I") (by decide +kernel)) rfl (tyX2_ok 7 (by decide)) rfl rfl (Nat.le_of_ble_eq_true rfl) dX2_layLeftOver_41 (cE cy ad n σ1) (by rw [hσ1]; exact up_lo _ _ _ _ i _) (fun H locs hw => ?_)
        refine lv_aload_n hx hb dX2_layLeftOver_44 rfl (lv_at hl 1 rfl) ?_
        refine xr_get S hw (j := 1) (k_m hi) (cE_m _ _ _ _ _) rfl inX2_layLeftOver_X2 (by decide) (hts (.fieldLink RX2 9 "UnionOffice$Member" "owedFor" "[I") (by decide +kernel)) rfl dX2_layLeftOver_45 ?_
        refine lv_iload_n hx hb dX2_layLeftOver_48 rfl (lv_at hl 3 rfl) ?_
        refine lv_dup2_11 hx hb dX2_layLeftOver_49 rfl rfl ?_
        refine xn_iald S hw (t0 := 0) (k_ow hi) (cE_ow _ _ _ _ _) rfl hj6 (by decide) dX2_layLeftOver_50 ?_
        refine lv_iload_n hx hb dX2_layLeftOver_51 rfl (lv_at hl 0 rfl) ?_
        refine lv_isub hx hb dX2_layLeftOver_52 ?_
        obtain ⟨σ2, hσ2⟩ : ∃ y : S3, y = su σ1 7 i j ((σ1 7 i j) - (if (σ 7 i j) < (σ 5 i 0) then σ 7 i j else σ 5 i 0)) := ⟨_, rfl⟩
        refine xn_iast S hw (t0 := 0) (k_ow hi) (cE_ow _ _ _ _ _) rfl hj6 (by decide) dX2_layLeftOver_53 (cE cy ad n σ2) (by rw [hσ2]; exact up_ow _ _ _ _ i _ _) (fun H locs hw => ?_)
        refine lv_aload_n hx hb dX2_layLeftOver_54 rfl (lv_at hl 1 rfl) ?_
        refine xr_get S hw (j := 2) (k_m hi) (cE_m _ _ _ _ _) rfl inX2_layLeftOver_X2 (by decide) (hts (.fieldLink RX2 15 "UnionOffice$Member" "laidOn" "[I") (by decide +kernel)) rfl dX2_layLeftOver_55 ?_
        refine lv_iload_n hx hb dX2_layLeftOver_58 rfl (lv_at hl 3 rfl) ?_
        refine lv_dup2_11 hx hb dX2_layLeftOver_59 rfl rfl ?_
        refine xn_iald S hw (t0 := 0) (k_ml hi) (cE_ml _ _ _ _ _) rfl hj6 (by decide) dX2_layLeftOver_60 ?_
        refine lv_iload_n hx hb dX2_layLeftOver_61 rfl (lv_at hl 0 rfl) ?_
        refine lv_iadd hx hb dX2_layLeftOver_62 ?_
        obtain ⟨σ3, hσ3⟩ : ∃ y : S3, y = su σ2 8 i j ((σ2 8 i j) + (if (σ 7 i j) < (σ 5 i 0) then σ 7 i j else σ 5 i 0)) := ⟨_, rfl⟩
        refine xn_iast S hw (t0 := 0) (k_ml hi) (cE_ml _ _ _ _ _) rfl hj6 (by decide) dX2_layLeftOver_63 (cE cy ad n σ3) (by rw [hσ3]; exact up_ml _ _ _ _ i _ _) (fun H locs hw => ?_)
        refine lv_aload_n hx hb dX2_layLeftOver_64 rfl (lv_at hl 1 rfl) ?_
        refine xr_get S hw (j := 3) (k_m hi) (cE_m _ _ _ _ _) rfl inX2_layLeftOver_X2 (by decide) (hts (.fieldLink RX2 38 "UnionOffice$Member" "branch" "LUnionOffice$Branch;") (by decide +kernel)) rfl dX2_layLeftOver_65 ?_
        refine xr_getN S hw (j := 0) (k_br n (br_lt σ3 i)) (cE_br _ _ _ _ (br_lt σ3 i)) rfl inX2_layLeftOver_X1 (by decide) (hX.1.w (w := .fieldLinkNest RX2 61 "UnionOffice$Branch" "laidOn" "[I" "UnionOffice") (by decide +kernel)) rfl dX2_layLeftOver_68 ?_
        refine lv_iload_n hx hb dX2_layLeftOver_71 rfl (lv_at hl 3 rfl) ?_
        refine lv_dup2_11 hx hb dX2_layLeftOver_72 rfl rfl ?_
        refine xn_iald S hw (t0 := 0) (k_la n (br_lt σ3 i)) (cE_la _ _ _ _ (br_lt σ3 i)) rfl hj6 (by decide) dX2_layLeftOver_73 ?_
        refine lv_iload_n hx hb dX2_layLeftOver_74 rfl (lv_at hl 0 rfl) ?_
        refine lv_iadd hx hb dX2_layLeftOver_75 ?_
        obtain ⟨σ4, hσ4⟩ : ∃ y : S3, y = su σ3 9 (br σ3 i) j ((σ3 9 (br σ3 i) j) + (if (σ 7 i j) < (σ 5 i 0) then σ 7 i j else σ 5 i 0)) := ⟨_, rfl⟩
        refine xn_iast S hw (t0 := 0) (k_la n (br_lt σ3 i)) (cE_la _ _ _ _ (br_lt σ3 i)) rfl hj6 (by decide) dX2_layLeftOver_76 (cE cy ad n σ4) (by rw [hσ4]; exact up_la _ _ _ _ (br_lt σ3 i) _ _) (fun H locs hw => ?_)
        refine lv_iload_n hx hb dX2_layLeftOver_77 rfl (lv_at hl 2 rfl) ?_
        refine lv_iload_n hx hb dX2_layLeftOver_78 rfl (lv_at hl 0 rfl) ?_
        refine lv_iconst (v := 5) hx hb dX2_layLeftOver_79 (by decide) ?_
        refine lv_idiv hx hb dX2_layLeftOver_80 (by decide) ?_
        refine lv_iadd hx hb dX2_layLeftOver_81 ?_
        refine lv_istore_n (lv' := [(1, .int (sh + ((if (σ 7 i j) < (σ 5 i 0) then σ 7 i j else σ 5 i 0) / 5))), (3, .int (if (σ 7 i j) < (σ 5 i 0) then σ 7 i j else σ 5 i 0)), (0, .ref (ad (15 + 3 * i))), (2, .int (nI j))]) hx hb dX2_layLeftOver_82 rfl hl (by decide) rfl (fun ls hl => ?_)
        refine lv_iinc (v := nI (j + 1)) (lv' := [(2, .int (nI (j + 1))), (1, .int (sh + ((if (σ 7 i j) < (σ 5 i 0) then σ 7 i j else σ 5 i 0) / 5))), (3, .int (if (σ 7 i j) < (σ 5 i 0) then σ 7 i j else σ 5 i 0)), (0, .ref (ad (15 + 3 * i)))]) hx hb dX2_layLeftOver_83 hl (k := 3) rfl (nI_1 j) (by decide) rfl (fun ls hl => ?_)
        refine lv_goto (tgt := 7) hx hb dX2_layLeftOver_86 (by decide) ?_
        have he1 : σ4 = layS σ i j := by
          rw [hσ4, hσ3, hσ2, hσ1]
          simp [layS, imin, su, br]
        rw [he1] at hw
        have he2 : layL i (60 - j) j σ sh = layL i (60 - (j + 1)) (j + 1) (layS σ i j) (sh + imin (σ 5 i 0) (σ 7 i j) / 5) := by
          rw [show 60 - j = (60 - (j + 1)) + 1 by omega]
          exact if_pos (Int32.not_le.mp c2)
        rw [he2] at kk
        exact ih (j + 1) (layS σ i j) (sh + imin (σ 5 i 0) (σ 7 i j) / 5) H locs ls (by omega) (by omega) hw (lv_sub hl [3, 1, 0] rfl) kk
set_option maxHeartbeats 1000000 in
set_option maxRecDepth 100000 in
/-- layLeftOver() -/
theorem c_X2_layLeftOver (l : Launch) (D : va_G) (cy : Nat → ClassId) (ad : Nat → Nat) (n : Nat) (σ : S3) (i : Nat) (hi : i < n) : CM l yX2_layLeftOver wsX2_layLeftOver rmX2_layLeftOver D cy ad n [.ref (ad (15 + 3 * i))] σ (xPi fun r u => u = (layA σ i).1 ∧ r = (layA σ i).2) := by
  refine xs_M (cc := cX2_layLeftOver) (maxL := 4) (ret := (some .int)) (by decide +kernel) rfl (Nat.le_of_ble_eq_true rfl) ?_
  intro p e s m below meth c ls S hr hlocks hnm hw hX hl
  have S : CallFix p m c cX2_layLeftOver 4 s [.ref (ad (15 + 3 * i))].toArray wsX2_layLeftOver RX2 := S
  have hx := S.1
  have hb := S.2.1
  have hts := S.2.2.2.2
  have hl : lv_has ls 4 [(0, .ref (ad (15 + 3 * i)))] := hl
  refine lv_iconst (v := 0) hx hb dX2_layLeftOver_0 (by decide) ?_
  refine lv_istore_n (lv' := [(1, .int 0), (0, .ref (ad (15 + 3 * i)))]) hx hb dX2_layLeftOver_1 rfl hl (by decide) rfl (fun ls hl => ?_)
  refine lv_aload_n hx hb dX2_layLeftOver_2 rfl (lv_at hl 1 rfl) ?_
  refine xr_get S hw (j := 9) (k_m hi) (cE_m _ _ _ _ _) rfl inX2_layLeftOver_X2 (by decide) (hts (.fieldLink RX2 32 "UnionOffice$Member" "earliestOwed" "I") (by decide +kernel)) rfl dX2_layLeftOver_3 ?_
  refine lv_istore_n (lv' := [(2, .int (nI (eo σ i))), (1, .int 0), (0, .ref (ad (15 + 3 * i)))]) hx hb dX2_layLeftOver_6 rfl hl (by decide) rfl (fun ls hl => ?_)
  refine lp_X2_layLeftOver S hi hX (Nat.le_of_ble_eq_true rfl) (Nat.le_of_ble_eq_true rfl) (Nat.le_of_ble_eq_true rfl) (Nat.le_of_ble_eq_true rfl) 61 (eo σ i) σ 0 _ _ ls (by omega) (eo_le σ i) hw (lv_sub hl [2, 1, 0] rfl) (fun H locs ls hw hl => ?_)
  refine lv_aload_n hx hb dX2_layLeftOver_89 rfl (lv_at hl 0 rfl) ?_
  refine xc_Mv hw (va_runV (As := []) (rest := []) S (c_X2_skipSettled l D cy ad n ((layQ σ i).1) i hi _) (cwV 0 S.2.2.2.2 gX2_layLeftOver_X2_skipSettled rfl rfl rfl (by decide +kernel) ⟨Nat.le_of_ble_eq_true rfl, Nat.le_of_ble_eq_true rfl⟩) (xc_preV (cX_ok _ _) hX hw (k_m hi) (cE_m _ _ _ _ _) rfl rfl) rfl rfl hl.1 rfl (lv_room (Nat.le_of_ble_eq_true rfl)) dX2_layLeftOver_90 ⟨Nat.le_of_ble_eq_true rfl, Nat.le_of_ble_eq_true rfl⟩) (fun u H locs hp hw => ?_)
  obtain rfl := hp
  refine lv_iload_n hx hb dX2_layLeftOver_93 rfl (lv_at hl 1 rfl) ?_
  exact xe_i S.1 S.2.1 hr hlocks hw (⟨rfl, rfl⟩) (Nat.le_of_ble_eq_true rfl) (Nat.le_of_ble_eq_true rfl) dX2_layLeftOver_94
abbrev rmX2_takeIn : Room := { frames := 2, cells := 0, slots := 0, locals := 43 }
theorem inX2_takeIn_X2 : (∀ w ∈ wsX20, w ∈ wsX2_takeIn) := by decide +kernel
set_option maxHeartbeats 1000000 in
set_option maxRecDepth 100000 in
/-- takeIn(amount) -/
theorem c_X2_takeIn (l : Launch) (D : va_G) (cy : Nat → ClassId) (ad : Nat → Nat) (n : Nat) (σ : S3) (i : Nat) (hi : i < n) (x0 : Int32) : CM l yX2_takeIn wsX2_takeIn rmX2_takeIn D cy ad n [.ref (ad (15 + 3 * i)), .int x0] σ (xPi fun r u => u = (takeF σ i x0).1 ∧ r = (takeF σ i x0).2) := by
  refine xs_M (cc := cX2_takeIn) (maxL := 2) (ret := (some .int)) (by decide +kernel) rfl (Nat.le_of_ble_eq_true rfl) ?_
  intro p e s m below meth c ls S hr hlocks hnm hw hX hl
  have S : CallFix p m c cX2_takeIn 2 s [.ref (ad (15 + 3 * i)), .int x0].toArray wsX2_takeIn RX2 := S
  have hx := S.1
  have hb := S.2.1
  have hts := S.2.2.2.2
  have hl : lv_has ls 2 [(0, .ref (ad (15 + 3 * i))), (1, .int x0)] := hl
  refine lv_aload_n hx hb dX2_takeIn_0 rfl (lv_at hl 0 rfl) ?_
  refine lv_dup hx hb dX2_takeIn_1 rfl ?_
  refine xr_get S hw (j := 7) (k_m hi) (cE_m _ _ _ _ _) rfl inX2_takeIn_X2 (by decide) (hts (.fieldLink RX2 25 "UnionOffice$Member" "leftOver" "I") (by decide +kernel)) rfl dX2_takeIn_2 ?_
  refine lv_iload_n hx hb dX2_takeIn_5 rfl (lv_at hl 1 rfl) ?_
  refine lv_iadd hx hb dX2_takeIn_6 ?_
  obtain ⟨σ1, hσ1⟩ : ∃ y : S3, y = su σ 5 i 0 ((σ 5 i 0) + x0) := ⟨_, rfl⟩
  refine xr_put S hw tyX2 tyX2_ok nmX2 (j := 7) (k_m hi) (cE_m _ _ _ _ _) rfl inX2_takeIn_X2 (by decide) (hts (.fieldLink RX2 25 "UnionOffice$Member" "leftOver" "I") (by decide +kernel)) rfl (tyX2_ok 7 (by decide)) rfl rfl (Nat.le_of_ble_eq_true rfl) dX2_takeIn_7 (cE cy ad n σ1) (by rw [hσ1]; exact up_lo _ _ _ _ i _) (fun H locs hw => ?_)
  refine lv_aload_n hx hb dX2_takeIn_10 rfl (lv_at hl 0 rfl) ?_
  refine xc_Mi hw (va_runV (As := []) (rest := []) S (c_X2_layLeftOver l D cy ad n σ1 i hi _) (cwV 0 S.2.2.2.2 gX2_takeIn_X2_layLeftOver rfl rfl rfl (by decide +kernel) ⟨Nat.le_of_ble_eq_true rfl, Nat.le_of_ble_eq_true rfl⟩) (xc_preV (cX_ok _ _) hX hw (k_m hi) (cE_m _ _ _ _ _) rfl rfl) rfl rfl hl.1 rfl (lv_room (Nat.le_of_ble_eq_true rfl)) dX2_takeIn_11 ⟨Nat.le_of_ble_eq_true rfl, Nat.le_of_ble_eq_true rfl⟩) (fun r9 u H locs hp hw => ?_)
  obtain ⟨rfl, rfl⟩ := hp
  exact xe_i S.1 S.2.1 hr hlocks hw (⟨by rw [hσ1]; rfl, by rw [hσ1]; rfl⟩) (Nat.le_of_ble_eq_true rfl) (Nat.le_of_ble_eq_true rfl) dX2_takeIn_14
abbrev rmX2_charge : Room := { frames := 2, cells := 0, slots := 0, locals := 43 }
theorem inX2_charge_X0 : (∀ w ∈ wsX00, w ∈ wsX2_charge) := by decide +kernel
theorem inX2_charge_X2 : (∀ w ∈ wsX20, w ∈ wsX2_charge) := by decide +kernel
set_option maxHeartbeats 1000000 in
set_option maxRecDepth 100000 in
/-- charge(month) -/
theorem c_X2_charge (l : Launch) (D : va_G) (cy : Nat → ClassId) (ad : Nat → Nat) (n : Nat) (σ : S3) (i : Nat) (hi : i < n) (x0 : Int32) : CM l yX2_charge wsX2_charge rmX2_charge D cy ad n [.ref (ad (15 + 3 * i)), .int x0] σ (xPi fun r u => u = (chgF σ i x0).1 ∧ r = (chgF σ i x0).2) := by
  refine xs_M (cc := cX2_charge) (maxL := 2) (ret := (some .int)) (by decide +kernel) rfl (Nat.le_of_ble_eq_true rfl) ?_
  intro p e s m below meth c ls S hr hlocks hnm hw hX hl
  have S : CallFix p m c cX2_charge 2 s [.ref (ad (15 + 3 * i)), .int x0].toArray wsX2_charge RX2 := S
  have hx := S.1
  have hb := S.2.1
  have hts := S.2.2.2.2
  have hl : lv_has ls 2 [(0, .ref (ad (15 + 3 * i))), (1, .int x0)] := hl
  refine lv_iload_n hx hb dX2_charge_0 rfl (lv_at hl 1 rfl) ?_
  refine lv_if_lt (tgt := 20) hx hb dX2_charge_1 (by decide) (fun c1 => ?_) (fun c1 => ?_)
  · refine lv_iconst (v := 0) hx hb dX2_charge_20 (by decide) ?_
    exact xe_i S.1 S.2.1 hr hlocks hw (by
            have h9 : chgF σ i x0 = (σ, 0) := if_pos (by first | exact Or.inl c1 | exact Or.inr (Or.inl c2) | exact Or.inr (Or.inr c3))
            rw [h9]; exact ⟨rfl, rfl⟩) (Nat.le_of_ble_eq_true rfl) (Nat.le_of_ble_eq_true rfl) dX2_charge_21
  · refine lv_iload_n hx hb dX2_charge_4 rfl (lv_at hl 1 rfl) ?_
    refine lv_bipush (v := 60) hx hb dX2_charge_5 (by decide) ?_
    refine lv_icmp_ge (tgt := 20) hx hb dX2_charge_7 (by decide) (fun c2 => ?_) (fun c2 => ?_)
    · refine lv_iconst (v := 0) hx hb dX2_charge_20 (by decide) ?_
      exact xe_i S.1 S.2.1 hr hlocks hw (by
              have h9 : chgF σ i x0 = (σ, 0) := if_pos (by first | exact Or.inl c1 | exact Or.inr (Or.inl c2) | exact Or.inr (Or.inr c3))
              rw [h9]; exact ⟨rfl, rfl⟩) (Nat.le_of_ble_eq_true rfl) (Nat.le_of_ble_eq_true rfl) dX2_charge_21
    · obtain ⟨mm, hmm, rfl⟩ := i32_ix c1 c2
      refine lv_aload_n hx hb dX2_charge_10 rfl (lv_at hl 0 rfl) ?_
      refine xr_get S hw (j := 4) (k_m hi) (cE_m _ _ _ _ _) rfl inX2_charge_X2 (by decide) (hts (.fieldLink RX2 42 "UnionOffice$Member" "band" "LUnionOffice$Band;") (by decide +kernel)) rfl dX2_charge_11 ?_
      refine xr_getN S hw (j := 0) (k_band n (bd_lt σ i)) (cE_band _ _ _ _ (bd_lt σ i)) rfl inX2_charge_X0 (by decide) (hX.1.w (w := .fieldLinkNest RX2 46 "UnionOffice$Band" "monthlyDues" "I" "UnionOffice") (by decide +kernel)) rfl dX2_charge_14 ?_
      refine lv_if_ne (tgt := 22) hx hb dX2_charge_17 (by decide) (fun c3 => ?_) (fun c3 => ?_)
      · refine lv_aload_n hx hb dX2_charge_22 rfl (lv_at hl 0 rfl) ?_
        refine xr_get S hw (j := 1) (k_m hi) (cE_m _ _ _ _ _) rfl inX2_charge_X2 (by decide) (hts (.fieldLink RX2 9 "UnionOffice$Member" "owedFor" "[I") (by decide +kernel)) rfl dX2_charge_23 ?_
        refine lv_iload_n hx hb dX2_charge_26 rfl (lv_at hl 1 rfl) ?_
        refine lv_aload_n hx hb dX2_charge_27 rfl (lv_at hl 0 rfl) ?_
        refine xr_get S hw (j := 4) (k_m hi) (cE_m _ _ _ _ _) rfl inX2_charge_X2 (by decide) (hts (.fieldLink RX2 42 "UnionOffice$Member" "band" "LUnionOffice$Band;") (by decide +kernel)) rfl dX2_charge_28 ?_
        refine xr_getN S hw (j := 0) (k_band n (bd_lt σ i)) (cE_band _ _ _ _ (bd_lt σ i)) rfl inX2_charge_X0 (by decide) (hX.1.w (w := .fieldLinkNest RX2 46 "UnionOffice$Band" "monthlyDues" "I" "UnionOffice") (by decide +kernel)) rfl dX2_charge_31 ?_
        obtain ⟨σ1, hσ1⟩ : ∃ y : S3, y = su σ 7 i mm (σ 0 (bd σ i) 0) := ⟨_, rfl⟩
        refine xn_iast S hw (t0 := 0) (k_ow hi) (cE_ow _ _ _ _ _) rfl hmm (by decide) dX2_charge_34 (cE cy ad n σ1) (by rw [hσ1]; exact up_ow _ _ _ _ i _ _) (fun H locs hw => ?_)
        refine lv_aload_n hx hb dX2_charge_35 rfl (lv_at hl 0 rfl) ?_
        refine lv_aload_n hx hb dX2_charge_36 rfl (lv_at hl 0 rfl) ?_
        refine xr_get S hw (j := 9) (k_m hi) (cE_m _ _ _ _ _) rfl inX2_charge_X2 (by decide) (hts (.fieldLink RX2 32 "UnionOffice$Member" "earliestOwed" "I") (by decide +kernel)) rfl dX2_charge_37 ?_
        refine lv_iload_n hx hb dX2_charge_40 rfl (lv_at hl 1 rfl) ?_
        refine va_mmin hx hb (S.2.2.1.trans hl.1.symm) S.2.2.2.1 (hts (.methodLink RX2 51 Lib.Math.min.name) (by decide +kernel)) (hts (.static Lib.Math.min.name) (by decide +kernel)) (hts (.initialized "java/lang/Math") (by decide +kernel)) (hts (.code Lib.Math.min.name Lib.Math.min.code 2 (some .int)) (by decide +kernel)) (Nat.le_of_ble_eq_true rfl) (Nat.le_of_ble_eq_true rfl) (Nat.le_of_ble_eq_true rfl) (Nat.le_of_ble_eq_true rfl) dX2_charge_41 ?_
        have heo : chgE σ1 i mm ≤ 60 := by
          have := eo_le σ1 i
          unfold chgE
          split <;> omega
        rw [show (if (nI mm) < (nI (eo σ1 i)) then nI mm else nI (eo σ1 i)) = nI (chgE σ1 i mm) from imin_nI (by have := eo_le σ1 i; omega) (by omega)]
        obtain ⟨σ2, hσ2⟩ : ∃ y : S3, y = su σ1 22 i 0 (nI (chgE σ1 i mm)) := ⟨_, rfl⟩
        refine xr_put S hw tyX2 tyX2_ok nmX2 (j := 9) (k_m hi) (cE_m _ _ _ _ _) rfl inX2_charge_X2 (by decide) (hts (.fieldLink RX2 32 "UnionOffice$Member" "earliestOwed" "I") (by decide +kernel)) rfl (tyX2_ok 9 (by decide)) rfl rfl (Nat.le_of_ble_eq_true rfl) dX2_charge_44 (cE cy ad n σ2) (by rw [hσ2]; exact up_eo _ _ _ _ i heo) (fun H locs hw => ?_)
        refine lv_aload_n hx hb dX2_charge_47 rfl (lv_at hl 0 rfl) ?_
        refine xc_Mi hw (va_runV (As := []) (rest := []) S (c_X2_layLeftOver l D cy ad n σ2 i hi _) (cwV 0 S.2.2.2.2 gX2_charge_X2_layLeftOver rfl rfl rfl (by decide +kernel) ⟨Nat.le_of_ble_eq_true rfl, Nat.le_of_ble_eq_true rfl⟩) (xc_preV (cX_ok _ _) hX hw (k_m hi) (cE_m _ _ _ _ _) rfl rfl) rfl rfl hl.1 rfl (lv_room (Nat.le_of_ble_eq_true rfl)) dX2_charge_48 ⟨Nat.le_of_ble_eq_true rfl, Nat.le_of_ble_eq_true rfl⟩) (fun r9 u H locs hp hw => ?_)
        obtain ⟨rfl, rfl⟩ := hp
        exact xe_i S.1 S.2.1 hr hlocks hw (by
                have h9 : chgF σ i (nI mm) = layA σ2 i := by
                  unfold chgF
                  rw [if_neg (fun q => q.elim c1 (fun q => q.elim c2 c3)), cl_nI (by omega), hσ2, hσ1]
                  rfl
                rw [h9]; exact ⟨rfl, rfl⟩) (Nat.le_of_ble_eq_true rfl) (Nat.le_of_ble_eq_true rfl) dX2_charge_51
      · refine lv_iconst (v := 0) hx hb dX2_charge_20 (by decide) ?_
        exact xe_i S.1 S.2.1 hr hlocks hw (by
                have h9 : chgF σ i (nI mm) = (σ, 0) := if_pos (by first | exact Or.inl c1 | exact Or.inr (Or.inl c2) | exact Or.inr (Or.inr c3))
                rw [h9]; exact ⟨rfl, rfl⟩) (Nat.le_of_ble_eq_true rfl) (Nat.le_of_ble_eq_true rfl) dX2_charge_21
