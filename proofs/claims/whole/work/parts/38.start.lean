/-! ===== what the tables give at the start ===== -/
theorem tb_mem {l T : List Cond} (is : List Nat) (h : is.filterMap (fun i => T[i]?) = l) : ∀ w ∈ l, w ∈ T := by
  intro w hw
  subst h
  obtain ⟨i, -, hi⟩ := List.mem_filterMap.mp hw
  exact List.mem_of_getElem? hi
theorem tb_in {w : Cond} (i : Nat) (h : tables_1[i]? = some w) : w ∈ lw_tbl := List.mem_append_right _ (List.mem_of_getElem? h)
theorem pm_tbl : ∀ w ∈ pm_ws, w ∈ tables_1 := tb_mem [30, 31, 43, 44, 46, 50, 52, 54, 252, 254, 256, 258, 260, 262, 264, 25, 38, 245, 318, 330, 353, 361, 372, 376, 381, 385, 403, 415, 440, 121, 194, 230, 127, 125, 123] (by decide +kernel)
theorem pm_str : ∀ w ∈ pm_st.map (fun q => Cond.stringRef "UnionOffice" q.1 q.2), w ∈ tables_1 := tb_mem [160, 201, 227, 237, 298, 303, 352, 380, 402, 419, 427, 459, 489, 490] (by decide +kernel)
theorem pm_start {s : State} {A : Array Value} {cur : ClassId} (hts : ∀ w ∈ lw_tbl, w.before A s = true) (hc : s.vm.findClass "UnionOffice" = some cur) : PM s := by
  refine ⟨fun w hw => va_Nw.of (pm_tab (pm_ok_all w hw)) (hts w (List.mem_append_right _ (pm_tbl w hw))), fun q hq => ?_⟩
  have h1 : (Cond.stringRef "UnionOffice" q.1 q.2).before #[] s = true := by
    have h9 := hts _ (List.mem_append_right _ (pm_str _ (List.mem_map.mpr ⟨q, hq, rfl⟩)))
    first
      | exact h9
      | (simp only [Cond.before, Cond.holds, Cond.value, State.names, State.poolOf?, State.resolvedAt?] at h9 ⊢; exact h9)
  obtain ⟨k, cf, i, a, -, -, -, -, -, hev⟩ := Cond.stringRef_spec hc h1
  exact ⟨a, h1, hev⟩
set_option maxRecDepth 100000 in
theorem gx_start {s : State} {b : Nat} {cur : ClassId} (hts : ∀ w ∈ lw_tbl, w.before #[Value.ref b] s = true) (hgv : (Jvm.Cond.and given_1 narrow_1).before #[Value.ref b] s = true) (hc : s.vm.findClass "UnionOffice" = some cur) : GX s := by
  have hs := flat_of_before _ hgv
  refine ⟨pm_start hts hc, ⟨?_, ?_⟩, ?_, ?_, ?_⟩
  · exact vx_Zqof (hts (.laysStatic "java/lang/Throwable" "UNASSIGNED_STACK" "[Ljava/lang/StackTraceElement;") (tb_in 146 (by decide +kernel))) (hts (.initialized "java/lang/Throwable") (tb_in 5 (by decide +kernel))) (hs (.isRef (.static "java/lang/Throwable" "UNASSIGNED_STACK" "[Ljava/lang/StackTraceElement;")) (by decide +kernel)) (fun a h => Nat.not_le.mpr h)
  · exact vx_Zqof (hts (.laysStatic "java/lang/Throwable" "SUPPRESSED_SENTINEL" "Ljava/util/List;") (tb_in 148 (by decide +kernel))) (hts (.initialized "java/lang/Throwable") (tb_in 5 (by decide +kernel))) (hs (.isRef (.static "java/lang/Throwable" "SUPPRESSED_SENTINEL" "Ljava/util/List;")) (by decide +kernel)) (fun a h => Nat.not_le.mpr h)
  · exact va_Nc.of (hs (.not (.castable "java/lang/IllegalArgumentException" "java/lang/IndexOutOfBoundsException")) (by decide +kernel))
  · exact va_Nc.of (hs (.not (.castable "java/lang/IllegalStateException" "java/lang/IndexOutOfBoundsException")) (by decide +kernel))
  · exact va_Nc.of (hs (.not (.castable "java/lang/IllegalStateException" "java/lang/IllegalArgumentException")) (by decide +kernel))
theorem ar_int {s : State} {A : Array Value} (h : (Cond.arrayClass .int).before A s = true) : ∃ cA, ArrOfT s cA .int ∧ va_RA s cA .int := by
  obtain ⟨c, k, comp, h1, h2, h3⟩ := Cond.arrayClass_spec h
  exact ⟨c, fun n z => ⟨fun k h => (by cases h), k, h2, comp, h3⟩, h1⟩
theorem ar_boolean {s : State} {A : Array Value} (h : (Cond.arrayClass .boolean).before A s = true) : ∃ cA, ArrOfT s cA .boolean ∧ va_RA s cA .boolean := by
  obtain ⟨c, k, comp, h1, h2, h3⟩ := Cond.arrayClass_spec h
  exact ⟨c, fun n z => ⟨fun k h => (by cases h), k, h2, comp, h3⟩, h1⟩
theorem ar_long {s : State} {A : Array Value} (h : (Cond.arrayClass .long).before A s = true) : ∃ cA, ArrOfT s cA .long ∧ va_RA s cA .long := by
  obtain ⟨c, k, comp, h1, h2, h3⟩ := Cond.arrayClass_spec h
  exact ⟨c, fun n z => ⟨fun k h => (by cases h), k, h2, comp, h3⟩, h1⟩
theorem ar_obj {s : State} {A : Array Value} {C : String} (h : (Cond.arrayOver (.object C)).before A s = true) : ∃ cA, ArrOfT s cA (.object C) ∧ va_RA s cA (.object C) := by
  obtain ⟨comp, c, k, h1, h2, h3, h4, h5⟩ := Cond.arrayOver_spec h
  exact ⟨c, fun n z => ⟨fun k h => (by cases h), k, h3, comp, h4⟩, k, comp, h3, h4, h1, h5⟩
theorem ra_long {s : State} {cA cB : ClassId} (h1 : va_RA s cA .long) (h2 : va_RA s cB .long) : cA = cB := Option.some.inj ((va_nm_long h1).symm.trans (va_nm_long h2))
theorem wk_start {s : State} {A : Array Value} (hts0 : ∀ w ∈ lw_tbl, w.before A s = true) : ∃ (D : va_G) (cy : Nat → ClassId), va_K D vwCl (tyL cy) s := by
  have hts : ∀ w ∈ wsL_law, w.before A s = true := fun w h => hts0 w (wsL_law_in w h)
  obtain ⟨c0, i0, hK0⟩ := u_known (C := RX0) (T := TX0) (N := 1) (n := 1) hts inlX0 (hts0 (.instantiable RX0 1) (tb_in 24 (by decide +kernel)))
  obtain ⟨c1, i1, hK1⟩ := u_known (C := RX1) (T := TX1) (N := 7) (n := 7) hts inlX1 (hts0 (.instantiable RX1 7) (tb_in 37 (by decide +kernel)))
  obtain ⟨c2, i2, hK2⟩ := u_known (C := RX2) (T := TX2) (N := 10) (n := 10) hts inlX2 (hts0 (.instantiable RX2 10) (tb_in 244 (by decide +kernel)))
  obtain ⟨c3, i3, hK3⟩ := u_known (C := RX3) (T := TX3) (N := 8) (n := 8) hts inlX3 (hts0 (.instantiable RX3 8) (tb_in 15 (by decide +kernel)))
  obtain ⟨c4, i4, hK4⟩ := u_known (C := RX4) (T := TX4) (N := 23) (n := 23) hts inlX4 (hts0 (.instantiable RX4 23) (tb_in 527 (by decide +kernel)))
  obtain ⟨a0, a0a, a0b⟩ := ar_int (hts0 (.arrayClass .int) (tb_in 70 (by decide +kernel)))
  obtain ⟨a1, a1a, a1b⟩ := ar_boolean (hts0 (.arrayClass .boolean) (tb_in 602 (by decide +kernel)))
  obtain ⟨a5, a5a, a5b⟩ := ar_long (hts0 (.arrayClass .long) (tb_in 746 (by decide +kernel)))
  obtain ⟨a2, a2a, a2b⟩ := ar_obj (C := RX0) (hts0 (.arrayOver (.object RX0)) (tb_in 23 (by decide +kernel)))
  obtain ⟨a3, a3a, a3b⟩ := ar_obj (C := RX1) (hts0 (.arrayOver (.object RX1)) (tb_in 36 (by decide +kernel)))
  obtain ⟨a4, a4a, a4b⟩ := ar_obj (C := RX2) (hts0 (.arrayOver (.object RX2)) (tb_in 72 (by decide +kernel)))
  refine ⟨(fun k => if k = 0 then c0 else if k = 1 then c1 else if k = 2 then c2 else if k = 3 then c3 else c4, fun k => if k = 0 then i0 else if k = 1 then i1 else if k = 2 then i2 else if k = 3 then i3 else i4), fun k => if k = 0 then a0 else if k = 1 then a1 else if k = 2 then a2 else if k = 3 then a3 else if k = 4 then a4 else a5, fun k q hq => ?_, fun k q hq => ?_⟩
  · match k, hq with
    | 0, hq => cases hq; exact hK0
    | 1, hq => cases hq; exact hK1
    | 2, hq => cases hq; exact hK2
    | 3, hq => cases hq; exact hK3
    | 4, hq => cases hq; exact hK4
    | k + 5, hq => simp [vwCl] at hq
  · match k, hq with
    | 0, hq => cases hq; exact ⟨a0a, a0b⟩
    | 1, hq => cases hq; exact ⟨a1a, a1b⟩
    | 2, hq => cases hq; exact ⟨a2a, a2b⟩
    | 3, hq => cases hq; exact ⟨a3a, a3b⟩
    | 4, hq => cases hq; exact ⟨a4a, a4b⟩
    | 5, hq => cases hq; exact ⟨a5a, a5b⟩
    | k + 6, hq => simp [tyL] at hq
set_option maxHeartbeats 4000000 in
set_option maxRecDepth 100000 in
/-- the law, from its entry -/
theorem whole_start {p : Program} {e : Env} {s : State} {m : MethodId} {below : List Frame} {meth : Method} {c : Code} (l : Launch) (hflags : l.flags = flags0) {b L : Nat} {xs : Nat → Int32} (hL : L ≤ 2048) (C0 : lw_At p s m meth c b L xs) : W p l e room_1 s m #[Value.ref b] below meth c s.heap [] 0 0 (lw_Z below #[Value.ref b] s) (entryFrame m ([Value.ref b] : List Value).toArray 7) := by
  have hl9 : l.stackTraces = false := by
    show (!l.flags.contains noTraceFlag) = false
    rw [hflags]
    decide +kernel
  obtain ⟨hx, hb, hr, hml, hown, hts0, hX, hbl, hlocks, hgv⟩ := id C0
  have hb : c.code = cL_law := hb
  have hts : ∀ w ∈ wsL_law, w.before #[Value.ref b] s = true := fun w h => hts0 w (wsL_law_in w h)
  have S : CallFix p m c cL_law 7 s #[Value.ref b] wsL_law RL := ⟨hx, hb, hml, hown, hts⟩
  obtain ⟨D, cy, hK⟩ := wk_start hts0
  have hg : GX s := gx_start hts0 hgv (hK.1 3 _ rfl).2.1
  have hO0 : va_AO RX0 s := hts0 (.arrayOver (.object RX0)) (tb_in 23 (by decide +kernel))
  have hO1 : va_AO RX1 s := hts0 (.arrayOver (.object RX1)) (tb_in 36 (by decide +kernel))
  have hO2 : va_AO RX2 s := hts0 (.arrayOver (.object RX2)) (tb_in 72 (by decide +kernel))
  have hA : ∀ q : Nat, s.heap.size ≤ q → lA9 s q := fun _ h => h
  have hS : va_S (lA9 s) s.heap s.heap [] := va_S.rf
  have hP : va_P D vwCl [] s.heap := fun k q h => by simp at h
  have hD : va_D (lA9 s) [] := ⟨fun i j p q h => by simp at h, fun k q h => by simp at h⟩
  have hl := lv_entry ([.ref b]) (n := 7) (Nat.le_of_ble_eq_true rfl)
  rw [lg_entry_eq]
  generalize (lg_sl ([.ref b]) ++ List.replicate (7 - (lg_sl ([.ref b])).length) Slot.unset).toArray = ls at hl ⊢
  have hl : lv_has ls 7 [(0, .ref b)] := hl
  refine va_new (D := D) (cl := vwCl) (ci := 3) (fs := [.null, .null, .null, .int 0, .int 0, .int 0, .int 0, .int 0]) (C := RX3) (T := TX3) (N := 8) hx hb hts inlX3 tyX3 tyX3_ok hown (hts (.classLink RL 8 RX3) (by decide +kernel)) (hts (.instantiable RX3 8) (by decide +kernel)) (hts (.initialized RX3) (by decide +kernel)) hK hP hD hS hA rfl (fun j hj => by rcases (show j = 0 ∨ j = 1 ∨ j = 2 ∨ j = 3 ∨ j = 4 ∨ j = 5 ∨ j = 6 ∨ j = 7 by omega) with rfl | rfl | rfl | rfl | rfl | rfl | rfl | rfl <;> rfl) (Nat.le_of_ble_eq_true rfl) (Nat.le_of_ble_eq_true rfl) dL_law_0 (fun q3 H hP hD hS => ?_)
  have hP : va_P D vwCl [(q3, (.inr (3, [.null, .null, .null, .int 0, .int 0, .int 0, .int 0, .int 0]) : va_E))] H := hP
  have hD : va_D (lA9 s) [(q3, (.inr (3, [.null, .null, .null, .int 0, .int 0, .int 0, .int 0, .int 0]) : va_E))] := hD
  refine lv_dup hx hb dL_law_3 rfl ?_
  have hF := wd_F hD hS hA
  refine va_callv (va_runI (As := []) (rest := [.ref q3]) S (c_X3_init l D cy q3 H.size) (cwI 0 hts gL_law_X3_init rfl rfl rfl (hts (.initialized RX3) (by decide +kernel)) (hts (.methodLink RL 85 yX3_init) (by decide +kernel)) (hts (.instanceMethod yX3_init) (by decide +kernel)) rfl (by decide +kernel) ⟨Nat.le_of_ble_eq_true rfl, Nat.le_of_ble_eq_true rfl⟩) ⟨fun a U g mk q => by obtain ⟨q0, q1, qP, qK, qD, qM, qA, qB, qC⟩ := q; exact ⟨q0, q1, qP, va_K.moved (u := U) (U := U.calling g mk a) (Vm.Alike.refl U.vm) qK, qD, PM.same (u := U) (U := U.calling g mk a) rfl qM, va_AO.moved (u := U) (U := U.calling g mk a) (Vm.Alike.refl U.vm) qA, va_AO.moved (u := U) (U := U.calling g mk a) (Vm.Alike.refl U.vm) qB, va_AO.moved (u := U) (U := U.calling g mk a) (Vm.Alike.refl U.vm) qC⟩, fun U hU hW => ⟨rfl, by rw [hU], by rw [hU]; exact hP, va_K.moved hW.alike hK, hD.weaken (fun _ _ _ _ => trivial), hg.1.warm hW, hO0.moved hW.alike, hO1.moved hW.alike, hO2.moved hW.alike⟩⟩ rfl rfl hl.1 rfl (lv_room (Nat.le_of_ble_eq_true rfl)) dL_law_4 ⟨Nat.le_of_ble_eq_true rfl, Nat.le_of_ble_eq_true rfl⟩) hS (fun q _ h => hF q h) hF (fun a3 t H1 locs ht hvm hw9 hB hz1 hk1 hS => ?_)
  obtain ⟨hP1, hD1⟩ := hB
  rw [ht] at hP1
  have hj := wd_join (w1 := [(q3, (.inr (3, [.null, .null, .null, .int 0, .int 0, .int 0, .int 0, .int 0]) : va_E))]) (w2 := []) (by rw [List.append_nil]; exact hP) (by rw [List.append_nil]; exact hD) hk1 hF hP1 hD1
  rw [List.nil_append] at hj
  clear hP hD hF hP1 hD1 hk1
  obtain ⟨hP, hD⟩ := hj
  refine lv_astore_n (lv' := [(1, .ref q3), (0, .ref b)]) hx hb dL_law_7 rfl hl (by decide) rfl (fun ls hl => ?_)
  refine va_new (D := D) (cl := vwCl) (ci := 4) (fs := [.null, .int 0, .int 0, .int 0, .int 0, .int 0, .null, .null, .null, .null, .null, .null, .null, .null, .null, .null, .null, .null, .null, .null, .null, .null, .int 0]) (C := RX4) (T := TX4) (N := 23) hx hb hts inlX4 tyX4 tyX4_ok hown (hts (.classLink RL 86 RX4) (by decide +kernel)) (hts (.instantiable RX4 23) (by decide +kernel)) (hts (.initialized RX4) (by decide +kernel)) hK hP hD hS hA rfl (fun j hj => by rcases (show j = 0 ∨ j = 1 ∨ j = 2 ∨ j = 3 ∨ j = 4 ∨ j = 5 ∨ j = 6 ∨ j = 7 ∨ j = 8 ∨ j = 9 ∨ j = 10 ∨ j = 11 ∨ j = 12 ∨ j = 13 ∨ j = 14 ∨ j = 15 ∨ j = 16 ∨ j = 17 ∨ j = 18 ∨ j = 19 ∨ j = 20 ∨ j = 21 ∨ j = 22 by omega) with rfl | rfl | rfl | rfl | rfl | rfl | rfl | rfl | rfl | rfl | rfl | rfl | rfl | rfl | rfl | rfl | rfl | rfl | rfl | rfl | rfl | rfl | rfl <;> rfl) (Nat.le_of_ble_eq_true rfl) (Nat.le_of_ble_eq_true rfl) dL_law_8 (fun q4 H hP hD hS => ?_)
  refine lv_dup hx hb dL_law_11 rfl ?_
  have hP := wd_rotP hP
  have hD := wd_rotD hD
  have hP4 : va_P D vwCl [(q4, (.inr (4, [.null, .int 0, .int 0, .int 0, .int 0, .int 0, .null, .null, .null, .null, .null, .null, .null, .null, .null, .null, .null, .null, .null, .null, .null, .null, .int 0]) : va_E))] H := wd_Pl hP
  have hD4 : va_D (lA9 s) [(q4, (.inr (4, [.null, .int 0, .int 0, .int 0, .int 0, .int 0, .null, .null, .null, .null, .null, .null, .null, .null, .null, .null, .null, .null, .null, .null, .null, .null, .int 0]) : va_E))] := wd_Dl hD
  have hF := wd_F hD4 hS hA
  refine va_callv (va_runI (As := []) (rest := [.ref q4]) S (c_X4_init l D cy q4 H.size) (cwI 0 hts gL_law_X4_init rfl rfl rfl (hts (.initialized RX4) (by decide +kernel)) (hts (.methodLink RL 88 yX4_init) (by decide +kernel)) (hts (.instanceMethod yX4_init) (by decide +kernel)) rfl (by decide +kernel) ⟨Nat.le_of_ble_eq_true rfl, Nat.le_of_ble_eq_true rfl⟩) ⟨fun a U g mk q => by obtain ⟨q0, q1, qP, qK, qD⟩ := q; exact ⟨q0, q1, qP, va_K.moved (u := U) (U := U.calling g mk a) (Vm.Alike.refl U.vm) qK, qD⟩, fun U hU hW => ⟨rfl, by rw [hU], by rw [hU]; exact hP4, va_K.moved hW.alike hK, hD4.weaken (fun _ _ _ _ => trivial)⟩⟩ rfl rfl hl.1 rfl (lv_room (Nat.le_of_ble_eq_true rfl)) dL_law_12 ⟨Nat.le_of_ble_eq_true rfl, Nat.le_of_ble_eq_true rfl⟩) hS (fun q _ h => hF q h) hF (fun am t H1 locs ht hvm hw8 hB hz1 hk1 hS => ?_)
  obtain ⟨hP1, hD1⟩ := hB
  rw [ht] at hP1
  have hj := wd_join hP hD hk1 hF hP1 hD1
  clear hP hD hF hP1 hD1 hk1 hP4 hD4
  obtain ⟨hP, hD⟩ := hj
  refine lv_astore_n (lv' := [(2, .ref q4), (1, .ref q3), (0, .ref b)]) hx hb dL_law_15 rfl hl (by decide) rfl (fun ls hl => ?_)
  refine lv_iconst (v := 1) hx hb dL_law_16 (by decide) ?_
  refine va_newa (D := D) (cl := vwCl) (atype := .long) (ty := .long) (N' := 1) (a0 := (1, .inr (.inl (fun _ => 0)))) hx hb (hts (.arrayClass .long) (by decide +kernel)) rfl hK hP hD hS hA (fun _ => rfl) (by decide +kernel) (by decide +kernel) (by decide +kernel) (Nat.le_of_ble_eq_true rfl) (Nat.le_of_ble_eq_true rfl) dL_law_17 (fun o cA H hK9 hP hD hS => ?_)
  obtain rfl : cA = cy 5 := ra_long (hK9.2 6 _ rfl).2 (hK.2 5 _ rfl).2
  clear hK9
  refine lv_astore_n (lv' := [(3, .ref o), (2, .ref q4), (1, .ref q3), (0, .ref b)]) hx hb dL_law_19 rfl hl (by decide) rfl (fun ls hl => ?_)
  refine lv_iconst (v := 0) hx hb dL_law_20 (by decide) ?_
  refine lv_istore (lv' := [(4, .int (nI (4 * 0))), (3, .ref o), (2, .ref q4), (1, .ref q3), (0, .ref b)]) hx hb dL_law_21 hl (by decide) rfl (fun ls hl => ?_)
  have hP := wd_rotP hP
  have hD := wd_rotD hD
  rw [← List.append_assoc] at hP hD
  have hw : GW D cy s o am ((fun _ => 0 : Nat → Int64), a3, 0, si0) mu0 H locs := ⟨hK, hP, hD, hS⟩
  subst hw9
  subst hw8
  refine W.widen (k := 100 + 8 * 0) (n := 10000 + 160 * 0) (Nat.le_of_ble_eq_true rfl) (Nat.le_of_ble_eq_true rfl) ?_
  exact law_loop (C := 100) (S9 := 10000) hl9 hL C0 hg (by decide) (by decide) 513 0 (by decide) (by decide) _ mu0 H locs ls (a3 0) ⟨inv_start, rfl⟩ hw (lv_sub hl [4, 3, 2, 1, 0] rfl)
