/-! ===== join ===== -/
def jP (ad : Nat → Nat) (n : Nat) (σ : S3) (x0 x1 : Int32) : Option Value → ((Nat → Nat) × S3) → Prop := fun v q => v = some (.int (nI n)) ∧ (inI x0 4 ∧ inI x1 3) ∧ n < 16 ∧ (∀ k, k < 15 + 3 * n → q.1 k = ad k) ∧ q.2 = su (su σ 1 n 0 (nI x0.toNatClampNeg)) 2 n 0 (nI x1.toNatClampNeg)
def jB (D : va_G) (cy : Nat → ClassId) (ad : Nat → Nat) (n sz : Nat) : ((Nat → Nat) × S3) → State → Prop := fun q t => va_P D vwCl (st_L q.1 (15 + 3 * (n + 1)) (cE cy q.1 (n + 1) q.2)) t.heap ∧ va_D (xA ad (15 + 3 * n) sz) (st_L q.1 (15 + 3 * (n + 1)) (cE cy q.1 (n + 1) q.2))
theorem jn_mm {cy : Nat → ClassId} {ad ad1 : Nat → Nat} {n : Nat} (hn : n < 16) (hag : ∀ k, k < 15 + 3 * n → ad1 k = ad k) : (.inl (cy 4, 16, .inr (.inr (.inr (.inr (va_up (fun j => if j < n then some (ad (15 + 3 * j)) else none) (nI n).toNatClampNeg (some (ad1 (15 + 3 * n)))))))) : va_E) = eMms cy ad1 (n + 1) := by
  have h : va_up (fun j => if j < n then some (ad (15 + 3 * j)) else none) (nI n).toNatClampNeg (some (ad1 (15 + 3 * n))) = fun j => if j < n + 1 then some (ad1 (15 + 3 * j)) else none := by
    rw [nI_clamp (by omega)]
    funext j
    by_cases h1 : j = n
    · rw [h1, va_up_self, if_pos (by omega)]
    · rw [va_up_ne _ _ h1]
      by_cases h2 : j < n
      · rw [if_pos h2, if_pos (by omega), hag _ (by omega)]
      · rw [if_neg h2, if_neg (by omega)]
  rw [h]
theorem jn_end {cy : Nat → ClassId} {ad ad1 : Nat → Nat} {n b b1 : Nat} {σ : S3} {g : Nat → va_E} (hf : frM σ n) (hb : b < 4) (hb1 : b1 < 3) (hag : ∀ k, k < 15 + 3 * n → ad1 k = ad k) (hg : ∀ k, k < 15 + 3 * n → g k = cE cy ad n σ k)
    (h0 : g (15 + 3 * n) = .inr (2, [.int (nI n), .ref (ad1 (16 + 3 * n)), .ref (ad1 (17 + 3 * n)), .ref (ad (7 + b)), .ref (ad (4 + b1)), .int 0, .int 0, .int 0, .int 0, .int 60])) (h1 : g (16 + 3 * n) = .inl (cy 0, 60, .inl (fun _ => 0))) (h2 : g (17 + 3 * n) = .inl (cy 0, 60, .inl (fun _ => 0))) :
    st_L ad1 (15 + 3 * n + 3) (va_up (va_up g 3 (eMms cy ad1 (n + 1))) 0 (eOff ad1 (n + 1) σ)) = st_L ad1 (15 + 3 * (n + 1)) (cE cy ad1 (n + 1) (su (su σ 1 n 0 (nI b)) 2 n 0 (nI b1))) := by
  rw [show 15 + 3 * n + 3 = 15 + 3 * (n + 1) by omega]
  refine st_congr (fun k hk => ?_)
  by_cases k0 : k = 0
  · subst k0
    rw [va_up_self]
    rfl
  · rw [va_up_ne _ _ k0]
    by_cases k3 : k = 3
    · subst k3
      rw [va_up_self]
      rfl
    · rw [va_up_ne _ _ k3]
      by_cases hk2 : k < 15 + 3 * n
      · rw [hg k hk2]
        by_cases h4 : 4 ≤ k
        · exact (cE_old hag hk2 h4).symm
        · rcases (show k = 1 ∨ k = 2 by omega) with rfl | rfl
          · have h : (fun j => if j < 3 then some (ad (4 + j)) else none) = fun j => if j < 3 then some (ad1 (4 + j)) else none := by
              funext j
              by_cases h : j < 3
              · rw [if_pos h, if_pos h, hag _ (by omega)]
              · rw [if_neg h, if_neg h]
            exact congrArg (fun f => (Sum.inl (cy 2, 3, Sum.inr (Sum.inr (Sum.inr (Sum.inr f)))) : va_E)) h
          · have h : (fun j => if j < 4 then some (ad (7 + j)) else none) = fun j => if j < 4 then some (ad1 (7 + j)) else none := by
              funext j
              by_cases h : j < 4
              · rw [if_pos h, if_pos h, hag _ (by omega)]
              · rw [if_neg h, if_neg h]
            exact congrArg (fun f => (Sum.inl (cy 3, 4, Sum.inr (Sum.inr (Sum.inr (Sum.inr f)))) : va_E)) h
      · obtain ⟨e1, e2, e3⟩ := cE_new (cy := cy) (ad := ad1) (n := n) hf hb hb1
        rcases (show k = 15 + 3 * n ∨ k = 16 + 3 * n ∨ k = 17 + 3 * n by omega) with rfl | rfl | rfl
        · rw [e1, h0, hag (7 + b) (by omega), hag (4 + b1) (by omega)]
        · rw [e2, h1]
        · rw [e3, h2]
abbrev rmX3_join : Room := { frames := 7, cells := 5, slots := 150, locals := 105 }
theorem inX3_join_X2 : (∀ w ∈ wsX20, w ∈ wsX3_join) := by decide +kernel
theorem inX3_join_X3 : (∀ w ∈ wsX30, w ∈ wsX3_join) := by decide +kernel
theorem inX3_join_xIS : (∀ w ∈ (vx_atS RX3 67 xIS nm2).filter goodWord, w ∈ wsX3_join) := by
  intro w h
  first | exact List.mem_cons_of_mem _ (List.mem_append_right _ h) | exact List.mem_cons_of_mem _ (List.mem_append_left _ (List.mem_append_right _ h)) | exact List.mem_cons_of_mem _ (List.mem_append_left _ (List.mem_append_left _ (List.mem_append_right _ h)))
theorem inX3_join_xIS1 : Cond.classLink RX3 63 xIS ∈ wsX3_join ∧ Cond.initialized xIS ∈ wsX3_join := ⟨by decide +kernel, by decide +kernel⟩
set_option maxHeartbeats 1000000 in
set_option maxRecDepth 100000 in
theorem c_X3_join (l : Launch) (hl9 : l.stackTraces = false) (D : va_G) (cy : Nat → ClassId) (ad : Nat → Nat) (n : Nat) (hn : n ≤ 16) (σ : S3) (hf : frM σ n) (x0 x1 : Int32) : ∀ sz : Nat, vx_Met l yX3_join wsX3_join rmX3_join (xPre D (tyL cy) ad (15 + 3 * n) (cE cy ad n σ) (cX ad (15 + 3 * n) sz) sz [.ref (ad 0), .int x0, .int x1]) (xQ (jP ad n σ x0 x1) (jB D cy ad n sz) (xA ad (15 + 3 * n) sz)) (xX D ad (15 + 3 * n) sz (cE cy ad n) σ (e2 xIO xIS (inI x0 4 ∧ inI x1 3) (n < 16))) rmX3_join.cells rmX3_join.slots (xA ad (15 + 3 * n) sz) := by
  refine xs_TG (QQ := fun sz => xQ (jP ad n σ x0 x1) (jB D cy ad n sz) (xA ad (15 + 3 * n) sz)) (cc := cX3_join) (maxL := 6) (ret := (some .int)) (by decide +kernel) rfl (Nat.le_of_ble_eq_true rfl) ?_
  intro p e s m below meth c ls S hr hlocks htb hw hX hl
  have S : CallFix p m c cX3_join 6 s [.ref (ad 0), .int x0, .int x1].toArray wsX3_join RX3 := S
  have hx := S.1
  have hb := S.2.1
  have hts := S.2.2.2.2
  have htr := hl9
  have hl : lv_has ls 6 [(0, .ref (ad 0)), (1, .int x0), (2, .int x1)] := hl
  refine lv_aload_n hx hb dX3_join_0 rfl (lv_at hl 0 rfl) ?_
  refine lv_iload_n hx hb dX3_join_1 rfl (lv_at hl 1 rfl) ?_
  refine xc_TG htb hlocks hw (vx_runV (As := [.int x0]) (rest := []) S (c_X3_branchAt l htr D cy ad n σ x0 _) (cwV 1 S.2.2.2.2 gX3_join_X3_branchAt rfl rfl rfl (by decide +kernel) ⟨Nat.le_of_ble_eq_true rfl, Nat.le_of_ble_eq_true rfl⟩) (xc_preV (cX_ok _ _) hX hw (k_0 n) (cE_0 _ _ _ _) rfl rfl) rfl rfl hl.1 rfl (lv_room (Nat.le_of_ble_eq_true rfl)) dX3_join_2 ⟨Nat.le_of_ble_eq_true rfl, Nat.le_of_ble_eq_true rfl⟩) (fun _ he => Or.inl ⟨he.1, fun h => he.2 h.1⟩) (Nat.le_of_ble_eq_true rfl) (Nat.le_of_ble_eq_true rfl) (fun v9 u H locs hp hw => ?_)
  obtain ⟨_, rfl, hu9, hin1, rfl⟩ := hp
  rw [hu9] at hw
  clear hu9
  refine lv_astore_n (lv' := [(3, .ref (ad (7 + x0.toNatClampNeg))), (0, .ref (ad 0)), (1, .int x0), (2, .int x1)]) hx hb dX3_join_5 rfl hl (by decide) rfl (fun ls hl => ?_)
  refine lv_aload_n hx hb dX3_join_6 rfl (lv_at hl 1 rfl) ?_
  refine lv_iload_n hx hb dX3_join_7 rfl (lv_at hl 3 rfl) ?_
  refine xc_TG htb hlocks hw (vx_runV (As := [.int x1]) (rest := []) S (c_X3_bandAt l htr D cy ad n σ x1 _) (cwV 1 S.2.2.2.2 gX3_join_X3_bandAt rfl rfl rfl (by decide +kernel) ⟨Nat.le_of_ble_eq_true rfl, Nat.le_of_ble_eq_true rfl⟩) (xc_preV (cX_ok _ _) hX hw (k_0 n) (cE_0 _ _ _ _) rfl rfl) rfl rfl hl.1 rfl (lv_room (Nat.le_of_ble_eq_true rfl)) dX3_join_8 ⟨Nat.le_of_ble_eq_true rfl, Nat.le_of_ble_eq_true rfl⟩) (fun _ he => Or.inl ⟨he.1, fun h => he.2 h.2⟩) (Nat.le_of_ble_eq_true rfl) (Nat.le_of_ble_eq_true rfl) (fun v9 u H locs hp hw => ?_)
  obtain ⟨_, rfl, hu9, hin2, rfl⟩ := hp
  rw [hu9] at hw
  clear hu9
  refine lv_astore (lv' := [(4, .ref (ad (4 + x1.toNatClampNeg))), (3, .ref (ad (7 + x0.toNatClampNeg))), (0, .ref (ad 0)), (1, .int x0), (2, .int x1)]) hx hb dX3_join_11 hl (by decide) rfl (fun ls hl => ?_)
  refine lv_aload_n hx hb dX3_join_13 rfl (lv_at hl 2 rfl) ?_
  refine xr_get S hw (j := 3) (k_0 n) (cE_0 _ _ _ _) rfl inX3_join_X3 (by decide) (hts (.fieldLink RX3 31 "UnionOffice" "joined" "I") (by decide +kernel)) rfl dX3_join_14 ?_
  refine lv_aload_n hx hb dX3_join_17 rfl (lv_at hl 2 rfl) ?_
  refine xr_get S hw (j := 2) (k_0 n) (cE_0 _ _ _ _) rfl inX3_join_X3 (by decide) (hts (.fieldLink RX3 27 "UnionOffice" "members" "[LUnionOffice$Member;") (by decide +kernel)) rfl dX3_join_18 ?_
  refine xr_alen S hw (t0 := 4) (k_3 n) (cE_3 _ _ _ _) rfl (v := 16) rfl dX3_join_21 ?_
  refine lv_icmp_lt (tgt := 35) hx hb dX3_join_22 (by decide) (fun c1 => ?_) (fun c1 => ?_)
  · refine lv_aload_n hx hb dX3_join_35 rfl (lv_at hl 2 rfl) ?_
    refine xr_get S hw (j := 3) (k_0 n) (cE_0 _ _ _ _) rfl inX3_join_X3 (by decide) (hts (.fieldLink RX3 31 "UnionOffice" "joined" "I") (by decide +kernel)) rfl dX3_join_36 ?_
    refine lv_istore (lv' := [(5, .int (nI n)), (4, .ref (ad (4 + x1.toNatClampNeg))), (3, .ref (ad (7 + x0.toNatClampNeg))), (0, .ref (ad 0)), (1, .int x0), (2, .int x1)]) hx hb dX3_join_39 hl (by decide) rfl (fun ls hl => ?_)
    refine lv_aload_n hx hb dX3_join_41 rfl (lv_at hl 3 rfl) ?_
    refine xr_get S hw (j := 2) (k_0 n) (cE_0 _ _ _ _) rfl inX3_join_X3 (by decide) (hts (.fieldLink RX3 27 "UnionOffice" "members" "[LUnionOffice$Member;") (by decide +kernel)) rfl dX3_join_42 ?_
    refine lv_iload hx hb dX3_join_45 (lv_at hl 0 rfl) ?_
    refine va_new (D := D) (cl := vwCl) (ci := 2) (fs := [.int 0, .null, .null, .null, .null, .int 0, .int 0, .int 0, .int 0, .int 0]) (C := RX2) (T := TX2) (N := 10) hx hb hts inX3_join_X2 tyX2 tyX2_ok S.2.2.2.1 (hts (.classLink RX3 25 RX2) (by decide +kernel)) (hts (.instantiable RX2 10) (by decide +kernel)) (hts (.initialized RX2) (by decide +kernel)) hw.1 hw.2.1 hw.2.2.1 hw.2.2.2.1 hw.2.2.2.2 rfl (fun j hj => by rcases (show j = 0 ∨ j = 1 ∨ j = 2 ∨ j = 3 ∨ j = 4 ∨ j = 5 ∨ j = 6 ∨ j = 7 ∨ j = 8 ∨ j = 9 by omega) with rfl | rfl | rfl | rfl | rfl | rfl | rfl | rfl | rfl | rfl <;> rfl) (Nat.le_of_ble_eq_true rfl) (Nat.le_of_ble_eq_true rfl) dX3_join_47 (fun q H hP hD hS => ?_)
    refine lv_dup hx hb dX3_join_50 rfl ?_
    refine lv_iload hx hb dX3_join_51 (lv_at hl 0 rfl) ?_
    refine lv_aload_n hx hb dX3_join_53 rfl (lv_at hl 2 rfl) ?_
    refine lv_aload hx hb dX3_join_54 (lv_at hl 1 rfl) ?_
    have hlt : n < 16 := (nI_ltI (by omega) (by decide)).mp c1
    have hPc := st_one hP
    have hDc := st_oneD hD
    have hFc : ∀ x, va_A [(q, (.inr (2, [.int 0, .null, .null, .null, .null, .int 0, .int 0, .int 0, .int 0, .int 0]) : va_E))] H.size x → xA ad (15 + 3 * n) s.heap.size x := fun x h => by
      rcases h with ⟨k, e9, h9⟩ | h9
      · exact hDc.2 k (x, e9) h9
      · exact hw.2.2.2.2 x (Nat.le_trans hS.1 h9)
    refine va_callv (va_runIN (As := [.int (nI n), .ref (ad (7 + x0.toNatClampNeg)), .ref (ad (4 + x1.toNatClampNeg))]) (rest := [.ref q, .int (nI n), .ref (ad 3)]) S (c_X2_init l D cy q H.size (nI n) (ad (7 + x0.toNatClampNeg)) (ad (4 + x1.toNatClampNeg))) ⟨va_cnB 3 S.2.2.2.2 gX3_join_X2_init_n70 rfl rfl rfl (hX.1.w (w := .methodLinkNest RX3 70 yX2_init "UnionOffice") (by decide +kernel)) (hts (.initialized RX2) (by decide +kernel)) (by decide +kernel) ⟨Nat.le_of_ble_eq_true rfl, Nat.le_of_ble_eq_true rfl⟩, rfl, hts (.instanceMethod yX2_init) (by decide +kernel)⟩ ⟨fun a U g mk q => by obtain ⟨q0, q1, qP, qK, qD⟩ := q; exact ⟨q0, q1, qP, va_K.moved (u := U) (U := U.calling g mk a) (Vm.Alike.refl U.vm) qK, qD⟩, fun U hU hW => ⟨rfl, by rw [hU], by rw [hU]; exact hPc, va_K.moved hW.alike hw.1, hDc.weaken (fun _ _ _ _ => trivial)⟩⟩ rfl rfl hl.1 rfl (lv_room (Nat.le_of_ble_eq_true rfl)) dX3_join_56 ⟨Nat.le_of_ble_eq_true rfl, Nat.le_of_ble_eq_true rfl⟩) hS (fun q _ h => hFc q h) hFc (fun u t H1 locs ht hvm hw9 hB hz1 hk1 hS => ?_)
    obtain ⟨q2, q3⟩ := u
    obtain ⟨hP1, hD1⟩ := hB
    rw [ht] at hP1
    have hP1 : va_P D vwCl [(q, .inr (2, [.int (nI n), .ref q2, .ref q3, .ref (ad (7 + x0.toNatClampNeg)), .ref (ad (4 + x1.toNatClampNeg)), .int 0, .int 0, .int 0, .int 0, .int 60])), (q2, .inl (cy 0, 60, .inl (fun _ => 0))), (q3, .inl (cy 0, 60, .inl (fun _ => 0)))] H1 := hP1
    have hD1 : va_D (va_A [(q, .inr (2, [.int 0, .null, .null, .null, .null, .int 0, .int 0, .int 0, .int 0, .int 0]))] H.size) [(q, .inr (2, [.int (nI n), .ref q2, .ref q3, .ref (ad (7 + x0.toNatClampNeg)), .ref (ad (4 + x1.toNatClampNeg)), .int 0, .int 0, .int 0, .int 0, .int 60])), (q2, .inl (cy 0, 60, .inl (fun _ => 0))), (q3, .inl (cy 0, 60, .inl (fun _ => 0)))] := hD1
    obtain ⟨hP2, hD2⟩ := st_join (A0 := xA ad (15 + 3 * n) s.heap.size) hP hD hk1 hFc hP1 hD1
    obtain ⟨ad1, had⟩ : ∃ z, z = va_up (va_up (va_up ad (15 + 3 * n) q) (15 + 3 * n + 1) q2) (15 + 3 * n + 2) q3 := ⟨_, rfl⟩
    obtain ⟨g1, hgd⟩ : ∃ z, z = va_up (va_up (va_up (cE cy ad n σ) (15 + 3 * n) (.inr (2, [.int (nI n), .ref q2, .ref q3, .ref (ad (7 + x0.toNatClampNeg)), .ref (ad (4 + x1.toNatClampNeg)), .int 0, .int 0, .int 0, .int 0, .int 60]))) (15 + 3 * n + 1) (.inl (cy 0, 60, .inl (fun _ => 0)))) (15 + 3 * n + 2) (.inl (cy 0, 60, .inl (fun _ => 0))) := ⟨_, rfl⟩
    rw [← had, ← hgd] at hP2 hD2
    have hq0 : ad1 (15 + 3 * n) = q := by rw [had, va_up_ne _ _ (by omega), va_up_ne _ _ (by omega), va_up_self]
    have hq2 : ad1 (16 + 3 * n) = q2 := by rw [show 16 + 3 * n = 15 + 3 * n + 1 by omega, had, va_up_ne _ _ (by omega), va_up_self]
    have hq3 : ad1 (17 + 3 * n) = q3 := by rw [show 17 + 3 * n = 15 + 3 * n + 2 by omega, had, va_up_self]
    have hag : ∀ k, k < 15 + 3 * n → ad1 k = ad k := fun k hk => by rw [had, va_up_ne _ _ (by omega), va_up_ne _ _ (by omega), va_up_ne _ _ (by omega)]
    have hge : ∀ k, k < 15 + 3 * n → g1 k = cE cy ad n σ k := fun k hk => by rw [hgd, va_up_ne _ _ (by omega), va_up_ne _ _ (by omega), va_up_ne _ _ (by omega)]
    have hgN : g1 (15 + 3 * n) = .inr (2, [.int (nI n), .ref (ad1 (16 + 3 * n)), .ref (ad1 (17 + 3 * n)), .ref (ad (7 + x0.toNatClampNeg)), .ref (ad (4 + x1.toNatClampNeg)), .int 0, .int 0, .int 0, .int 0, .int 60]) := by rw [hq2, hq3, hgd, va_up_ne _ _ (by omega), va_up_ne _ _ (by omega), va_up_self]
    have hgN1 : g1 (16 + 3 * n) = .inl (cy 0, 60, .inl (fun _ => 0)) := by rw [show 16 + 3 * n = 15 + 3 * n + 1 by omega, hgd, va_up_ne _ _ (by omega), va_up_self]
    have hgN2 : g1 (17 + 3 * n) = .inl (cy 0, 60, .inl (fun _ => 0)) := by rw [show 17 + 3 * n = 15 + 3 * n + 2 by omega, hgd, va_up_self]
    clear hP hD hPc hDc hFc hP1 hD1 had hgd hk1
    have hwn : XW D (tyL cy) (xA ad (15 + 3 * n) s.heap.size) s ad1 (15 + 3 * n + 3) g1 H1 locs := ⟨hw.1, hP2, hD2, hS, hw.2.2.2.2⟩
    refine W.eq (g2 := F0 m 59 ls [.ref (ad1 (15 + 3 * n)), .int (nI n), .ref (ad1 3)]) (by rw [hq0, hag 3 (by omega)]) ?_
    refine xr_aast S hwn (k := 3) (kv := 15 + 3 * n) (t0 := 4) (ci := 2) (n := 16) (by omega) (hge 3 (by omega)) rfl (by omega) hgN rfl (vp_in_nI hlt (by decide)) dX3_join_59 (va_up g1 3 (eMms cy ad1 (n + 1))) (congrArg (va_up g1 3) (jn_mm hlt hag)) (fun H locs hwn => ?_)
    have hg0 : va_up g1 3 (eMms cy ad1 (n + 1)) 0 = eOff ad1 n σ := by
      rw [va_up_ne _ _ (by decide), hge 0 (by omega)]
      show eOff ad n σ = eOff ad1 n σ
      unfold eOff
      rw [hag 1 (by omega), hag 2 (by omega), hag 3 (by omega)]
    refine lv_aload_n hx hb dX3_join_60 rfl (lv_at hl 3 rfl) ?_
    refine lv_dup hx hb dX3_join_61 rfl ?_
    refine W.eq (g2 := F0 m 62 ls [.ref (ad1 0), .ref (ad1 0)]) (by rw [hag 0 (by omega)]) ?_
    refine xr_get S hwn (k := 0) (j := 3) (by omega) hg0 rfl inX3_join_X3 (by decide) (hts (.fieldLink RX3 31 "UnionOffice" "joined" "I") (by decide +kernel)) rfl dX3_join_62 ?_
    refine lv_iconst (v := 1) hx hb dX3_join_65 (by decide) ?_
    refine lv_iadd hx hb dX3_join_66 ?_
    rw [nI_1 n]
    refine xr_put S hwn tyX3 tyX3_ok nmX3 (k := 0) (j := 3) (by omega) hg0 rfl inX3_join_X3 (by decide) (hts (.fieldLink RX3 31 "UnionOffice" "joined" "I") (by decide +kernel)) rfl (tyX3_ok 3 (by decide)) rfl rfl (Nat.le_of_ble_eq_true rfl) dX3_join_67 (va_up (va_up g1 3 (eMms cy ad1 (n + 1))) 0 (eOff ad1 (n + 1) σ)) rfl (fun H locs hwn => ?_)
    refine lv_iload hx hb dX3_join_70 (lv_at hl 0 rfl) ?_
    have hse := jn_end (cy := cy) (ad := ad) (ad1 := ad1) (n := n) (b := x0.toNatClampNeg) (b1 := x1.toNatClampNeg) (σ := σ) (g := g1) hf hin1.2 hin2.2 hag hge hgN hgN1 hgN2
    refine vx_ret (W.widen (show _ ≤ rmX3_join.cells from Nat.le_of_ble_eq_true rfl) (show _ ≤ rmX3_join.slots from Nat.le_of_ble_eq_true rfl) ?_)
    have hwp := hwn.2.1
    have hwd := hwn.2.2.1
    rw [hse] at hwp hwd
    exact W.iret hx hb hr (fun t ht hW => ⟨⟨_, (ad1, su (su σ 1 n 0 (nI x0.toNatClampNeg)) 2 n 0 (nI x1.toNatClampNeg)), rfl, ⟨rfl, ⟨hin1, hin2⟩, hlt, hag, rfl⟩, by rw [ht]; exact hwp, hwd⟩, hwn.2.2.2.1.F ht⟩) hwn.2.2.2.1.2.2 dX3_join_72 hlocks
  · exact xt_throwG (text := "the union has all its members") S htr hlocks htb hw hX hl.1 (by decide +kernel) inX3_join_xIS1.1 inX3_join_xIS1.2 inX3_join_xIS tg_IS (by decide +kernel) dX3_join_25 dX3_join_28 dX3_join_29 dX3_join_31 dX3_join_34 (Nat.le_of_ble_eq_true rfl) (Nat.le_of_ble_eq_true rfl) (Nat.le_of_ble_eq_true rfl) (Nat.le_of_ble_eq_true rfl) (Or.inr ⟨rfl, ⟨hin1, hin2⟩, fun h => c1 ((nI_ltI (by omega) (by decide)).mpr h)⟩)
