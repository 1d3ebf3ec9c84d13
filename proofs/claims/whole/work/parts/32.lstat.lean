/-! ===== the law's static methods ===== -/
abbrev rmL_setDues : Room := { frames := 8, cells := 2, slots := 12, locals := 131 }
set_option maxHeartbeats 1000000 in
set_option maxRecDepth 100000 in
theorem c_L_setDues (l : Launch) (hl9 : l.stackTraces = false) (D : va_G) (cy : Nat → ClassId) (o : Nat) (f : Nat → Int64) (ad : Nat → Nat) (n : Nat) (σ : S3) (x0 x1 : Int32) : LM l yL_setDues wsL_setDues rmL_setDues D cy o (f, ad, n, σ) [.ref (ad 0), .int x0, .int x1, .ref o] (lP2 f ad n σ xIO xIA (e2 xIO xIA (inI x0 3) (rgI x1 0 100000)) Int32.toInt64 (fun r u => inI x0 3 ∧ rgI x1 0 100000 ∧ r = σ 0 x0.toNatClampNeg 0 ∧ u = su σ 0 x0.toNatClampNeg 0 x1)) := by
  refine ls_T (cc := cL_setDues) (maxL := 5) (hh := [(0, 10, 13, 13), (0, 10, 17, 15)]) (by decide +kernel) rfl (Nat.le_of_ble_eq_true rfl) ?_
  intro p e s m below meth c ls S hr hlocks htb hw hM hZ hN hl
  have S : CallFix p m c cL_setDues 5 s [.ref (ad 0), .int x0, .int x1, .ref o].toArray wsL_setDues RL := S
  have hx := S.1
  have hb := S.2.1
  have hts := S.2.2.2.2
  have hl : lv_has ls 5 [(0, .ref (ad 0)), (1, .int x0), (2, .int x1), (3, .ref o)] := hl
  have htb : c.exceptionTable.toList = [⟨0, 10, 13, 13⟩, ⟨0, 10, 17, 15⟩] := htb
  refine lv_aload_n hx hb dL_setDues_0 rfl (lv_at hl 3 rfl) ?_
  refine lv_iconst (v := 0) hx hb dL_setDues_1 (by decide) ?_
  refine lv_aload_n hx hb dL_setDues_2 rfl (lv_at hl 0 rfl) ?_
  refine lv_iload_n hx hb dL_setDues_3 rfl (lv_at hl 1 rfl) ?_
  refine lv_iload_n hx hb dL_setDues_4 rfl (lv_at hl 2 rfl) ?_
  refine lc_T (fun u : S3 => ((f, ad, n, u) : LSt)) hw (vx_runV (As := [.int x0, .int x1]) (rest := [.int 0, .ref o]) S (c_X3_setDues l hl9 D cy ad n σ x0 x1 _) (cwV 2 S.2.2.2.2 gL_setDues_X3_setDues rfl rfl rfl (by decide +kernel) ⟨Nat.le_of_ble_eq_true rfl, Nat.le_of_ble_eq_true rfl⟩) (xc_preV (cX_ok _ _) (lw_cX hM hZ) (lw_X hw) (k_0 n) (cE_0 _ _ _ _) rfl rfl) rfl rfl hl.1 rfl (lv_room (Nat.le_of_ble_eq_true rfl)) dL_setDues_5 ⟨Nat.le_of_ble_eq_true rfl, Nat.le_of_ble_eq_true rfl⟩) (fun _ => rfl) (fun E9 ce9 q9 H locs he hw hce9 hcv hcl => ?_) (fun v u H locs hp hw => ?_)
  · rcases he with ⟨rfl, hq⟩ | ⟨rfl, hq⟩
    · refine lx_catch S.2.2.2.1 [] ⟨0, 10, 13, 13⟩ [⟨0, 10, 17, 15⟩] htb (fun z hz => absurd hz List.not_mem_nil) rfl (by decide) (hts (.classLink RL 13 xIO) (by decide +kernel)) hce9 hcv hcl ?_
      refine lv_astore (lv' := [(4, .ref q9), (0, .ref (ad 0)), (1, .int x0), (2, .int x1), (3, .ref o)]) hx hb dL_setDues_13 hl (by decide) rfl (fun ls hl => ?_)
      refine lv_iconst (v := 1) hx hb dL_setDues_15 (by decide) ?_
      exact l_ret S.1 S.2.1 hr hlocks hw (Or.inr (Or.inl ⟨rfl, Or.inl ⟨rfl, hq⟩, rfl⟩)) (Nat.le_of_ble_eq_true rfl) (Nat.le_of_ble_eq_true rfl) dL_setDues_16
    · refine lx_catch S.2.2.2.1 [⟨0, 10, 13, 13⟩] ⟨0, 10, 17, 15⟩ [] htb (fun z hz => by rw [List.mem_singleton.mp hz]; exact Or.inr ⟨by decide, xIO, hts (.classLink RL 13 xIO) (by decide +kernel), hN.1⟩) rfl (by decide) (hts (.classLink RL 15 xIA) (by decide +kernel)) hce9 hcv hcl ?_
      refine lv_astore (lv' := [(4, .ref q9), (0, .ref (ad 0)), (1, .int x0), (2, .int x1), (3, .ref o)]) hx hb dL_setDues_17 hl (by decide) rfl (fun ls hl => ?_)
      refine lv_iconst (v := 2) hx hb dL_setDues_19 (by decide) ?_
      exact l_ret S.1 S.2.1 hr hlocks hw (Or.inr (Or.inr ⟨rfl, Or.inr ⟨rfl, hq⟩, rfl⟩)) (Nat.le_of_ble_eq_true rfl) (Nat.le_of_ble_eq_true rfl) dL_setDues_20
  · obtain ⟨r, rfl, hp⟩ := hp
    refine W.eq (g2 := F0 m 8 ls [.int (r), .int 0, .ref o]) rfl ?_
    refine lv_i2l (v := (r).toInt64) hx hb dL_setDues_8 rfl ?_
    refine l_out hx hb hw dL_setDues_9 (fun H locs hw => ?_)
    refine lv_goto (tgt := 21) hx hb dL_setDues_10 (by decide) ?_
    refine lv_iconst (v := 0) hx hb dL_setDues_21 (by decide) ?_
    exact l_ret S.1 S.2.1 hr hlocks hw (Or.inl ⟨rfl, r, u, hp, rfl⟩) (Nat.le_of_ble_eq_true rfl) (Nat.le_of_ble_eq_true rfl) dL_setDues_22
abbrev rmL_setStrikePay : Room := { frames := 8, cells := 1, slots := 6, locals := 129 }
set_option maxHeartbeats 1000000 in
set_option maxRecDepth 100000 in
theorem c_L_setStrikePay (l : Launch) (hl9 : l.stackTraces = false) (D : va_G) (cy : Nat → ClassId) (o : Nat) (f : Nat → Int64) (ad : Nat → Nat) (n : Nat) (σ : S3) (x0 : Int32) : LM l yL_setStrikePay wsL_setStrikePay rmL_setStrikePay D cy o (f, ad, n, σ) [.ref (ad 0), .int x0, .ref o] (lP1 f ad n σ xIA (e1 xIA (rgI x0 0 100000)) Int32.toInt64 (fun r u => rgI x0 0 100000 ∧ r = σ 17 0 0 ∧ u = su σ 17 0 0 x0)) := by
  refine ls_T (cc := cL_setStrikePay) (maxL := 4) (hh := [(0, 9, 12, 15)]) (by decide +kernel) rfl (Nat.le_of_ble_eq_true rfl) ?_
  intro p e s m below meth c ls S hr hlocks htb hw hM hZ hN hl
  have S : CallFix p m c cL_setStrikePay 4 s [.ref (ad 0), .int x0, .ref o].toArray wsL_setStrikePay RL := S
  have hx := S.1
  have hb := S.2.1
  have hts := S.2.2.2.2
  have hl : lv_has ls 4 [(0, .ref (ad 0)), (1, .int x0), (2, .ref o)] := hl
  have htb : c.exceptionTable.toList = [⟨0, 9, 12, 15⟩] := htb
  refine lv_aload_n hx hb dL_setStrikePay_0 rfl (lv_at hl 2 rfl) ?_
  refine lv_iconst (v := 0) hx hb dL_setStrikePay_1 (by decide) ?_
  refine lv_aload_n hx hb dL_setStrikePay_2 rfl (lv_at hl 0 rfl) ?_
  refine lv_iload_n hx hb dL_setStrikePay_3 rfl (lv_at hl 1 rfl) ?_
  refine lc_T (fun u : S3 => ((f, ad, n, u) : LSt)) hw (vx_runV (As := [.int x0]) (rest := [.int 0, .ref o]) S (c_X3_setStrikePay l hl9 D cy ad n σ x0 _) (cwV 1 S.2.2.2.2 gL_setStrikePay_X3_setStrikePay rfl rfl rfl (by decide +kernel) ⟨Nat.le_of_ble_eq_true rfl, Nat.le_of_ble_eq_true rfl⟩) (xc_preV (cX_ok _ _) (lw_cX hM hZ) (lw_X hw) (k_0 n) (cE_0 _ _ _ _) rfl rfl) rfl rfl hl.1 rfl (lv_room (Nat.le_of_ble_eq_true rfl)) dL_setStrikePay_4 ⟨Nat.le_of_ble_eq_true rfl, Nat.le_of_ble_eq_true rfl⟩) (fun _ => rfl) (fun E9 ce9 q9 H locs he hw hce9 hcv hcl => ?_) (fun v u H locs hp hw => ?_)
  · obtain ⟨rfl, hq⟩ := he
    refine lx_catch S.2.2.2.1 [] ⟨0, 9, 12, 15⟩ [] htb (fun z hz => absurd hz List.not_mem_nil) rfl (by decide) (hts (.classLink RL 15 xIA) (by decide +kernel)) hce9 hcv hcl ?_
    refine lv_astore_n (lv' := [(3, .ref q9), (0, .ref (ad 0)), (1, .int x0), (2, .ref o)]) hx hb dL_setStrikePay_12 rfl hl (by decide) rfl (fun ls hl => ?_)
    refine lv_iconst (v := 1) hx hb dL_setStrikePay_13 (by decide) ?_
    exact l_ret S.1 S.2.1 hr hlocks hw (Or.inr ⟨rfl, ⟨rfl, hq⟩, rfl⟩) (Nat.le_of_ble_eq_true rfl) (Nat.le_of_ble_eq_true rfl) dL_setStrikePay_14
  · obtain ⟨r, rfl, hp⟩ := hp
    refine W.eq (g2 := F0 m 7 ls [.int (r), .int 0, .ref o]) rfl ?_
    refine lv_i2l (v := (r).toInt64) hx hb dL_setStrikePay_7 rfl ?_
    refine l_out hx hb hw dL_setStrikePay_8 (fun H locs hw => ?_)
    refine lv_goto (tgt := 15) hx hb dL_setStrikePay_9 (by decide) ?_
    refine lv_iconst (v := 0) hx hb dL_setStrikePay_15 (by decide) ?_
    exact l_ret S.1 S.2.1 hr hlocks hw (Or.inl ⟨rfl, r, u, hp, rfl⟩) (Nat.le_of_ble_eq_true rfl) (Nat.le_of_ble_eq_true rfl) dL_setStrikePay_16
abbrev rmL_join : Room := { frames := 8, cells := 5, slots := 150, locals := 130 }
set_option maxHeartbeats 1000000 in
set_option maxRecDepth 100000 in
theorem c_L_join (l : Launch) (hl9 : l.stackTraces = false) (D : va_G) (cy : Nat → ClassId) (o : Nat) (f : Nat → Int64) (ad : Nat → Nat) (n : Nat) (σ : S3) (hn : n ≤ 16) (hf : frM σ n) (x0 x1 : Int32) : LM l yL_join wsL_join rmL_join D cy o (f, ad, n, σ) [.ref (ad 0), .int x0, .int x1, .ref o] (lJ2 f ad n σ (e2 xIO xIS (inI x0 4 ∧ inI x1 3) (n < 16)) (jP ad n σ x0 x1)) := by
  refine ls_T (cc := cL_join) (maxL := 5) (hh := [(0, 10, 13, 13), (0, 10, 17, 24)]) (by decide +kernel) rfl (Nat.le_of_ble_eq_true rfl) ?_
  intro p e s m below meth c ls S hr hlocks htb hw hM hZ hN hl
  have S : CallFix p m c cL_join 5 s [.ref (ad 0), .int x0, .int x1, .ref o].toArray wsL_join RL := S
  have hx := S.1
  have hb := S.2.1
  have hts := S.2.2.2.2
  have hl : lv_has ls 5 [(0, .ref (ad 0)), (1, .int x0), (2, .int x1), (3, .ref o)] := hl
  have htb : c.exceptionTable.toList = [⟨0, 10, 13, 13⟩, ⟨0, 10, 17, 24⟩] := htb
  refine lv_aload_n hx hb dL_join_0 rfl (lv_at hl 3 rfl) ?_
  refine lv_iconst (v := 0) hx hb dL_join_1 (by decide) ?_
  refine lv_aload_n hx hb dL_join_2 rfl (lv_at hl 0 rfl) ?_
  refine lv_iload_n hx hb dL_join_3 rfl (lv_at hl 1 rfl) ?_
  refine lv_iload_n hx hb dL_join_4 rfl (lv_at hl 2 rfl) ?_
  refine lc_T (fun q : (Nat → Nat) × S3 => ((f, q.1, n + 1, q.2) : LSt)) hw (vx_runV (As := [.int x0, .int x1]) (rest := [.int 0, .ref o]) S (c_X3_join l hl9 D cy ad n hn σ hf x0 x1 _) (cwV 2 S.2.2.2.2 gL_join_X3_join rfl rfl rfl (by decide +kernel) ⟨Nat.le_of_ble_eq_true rfl, Nat.le_of_ble_eq_true rfl⟩) (xc_preV (cX_ok _ _) (lw_cX hM hZ) (lw_X hw) (k_0 n) (cE_0 _ _ _ _) rfl rfl) rfl rfl hl.1 rfl (lv_room (Nat.le_of_ble_eq_true rfl)) dL_join_5 ⟨Nat.le_of_ble_eq_true rfl, Nat.le_of_ble_eq_true rfl⟩) (fun _ => rfl) (fun E9 ce9 q9 H locs he hw hce9 hcv hcl => ?_) (fun v u H locs hp hw => ?_)
  · rcases he with ⟨rfl, hq⟩ | ⟨rfl, hq⟩
    · refine lx_catch S.2.2.2.1 [] ⟨0, 10, 13, 13⟩ [⟨0, 10, 17, 24⟩] htb (fun z hz => absurd hz List.not_mem_nil) rfl (by decide) (hts (.classLink RL 13 xIO) (by decide +kernel)) hce9 hcv hcl ?_
      refine lv_astore (lv' := [(4, .ref q9), (0, .ref (ad 0)), (1, .int x0), (2, .int x1), (3, .ref o)]) hx hb dL_join_13 hl (by decide) rfl (fun ls hl => ?_)
      refine lv_iconst (v := 1) hx hb dL_join_15 (by decide) ?_
      exact l_ret S.1 S.2.1 hr hlocks hw (Or.inr (Or.inl ⟨rfl, Or.inl ⟨rfl, hq⟩, rfl⟩)) (Nat.le_of_ble_eq_true rfl) (Nat.le_of_ble_eq_true rfl) dL_join_16
    · refine lx_catch S.2.2.2.1 [⟨0, 10, 13, 13⟩] ⟨0, 10, 17, 24⟩ [] htb (fun z hz => by rw [List.mem_singleton.mp hz]; exact Or.inr ⟨by decide, xIO, hts (.classLink RL 13 xIO) (by decide +kernel), hN.2.1⟩) rfl (by decide) (hts (.classLink RL 24 xIS) (by decide +kernel)) hce9 hcv hcl ?_
      refine lv_astore (lv' := [(4, .ref q9), (0, .ref (ad 0)), (1, .int x0), (2, .int x1), (3, .ref o)]) hx hb dL_join_17 hl (by decide) rfl (fun ls hl => ?_)
      refine lv_iconst (v := 2) hx hb dL_join_19 (by decide) ?_
      exact l_ret S.1 S.2.1 hr hlocks hw (Or.inr (Or.inr ⟨rfl, Or.inr ⟨rfl, hq⟩, rfl⟩)) (Nat.le_of_ble_eq_true rfl) (Nat.le_of_ble_eq_true rfl) dL_join_20
  · obtain ⟨rfl, hp⟩ := (show v = some (.int (nI n)) ∧ jP ad n σ x0 x1 (some (.int (nI n))) u from ⟨hp.1, rfl, hp.2⟩)
    refine W.eq (g2 := F0 m 8 ls [.int (nI n), .int 0, .ref o]) rfl ?_
    refine lv_i2l (v := (nI n).toInt64) hx hb dL_join_8 rfl ?_
    refine l_out hx hb hw dL_join_9 (fun H locs hw => ?_)
    refine lv_goto (tgt := 21) hx hb dL_join_10 (by decide) ?_
    refine lv_iconst (v := 0) hx hb dL_join_21 (by decide) ?_
    exact l_ret S.1 S.2.1 hr hlocks hw (Or.inl ⟨rfl, nI n, u, hp, rfl⟩) (Nat.le_of_ble_eq_true rfl) (Nat.le_of_ble_eq_true rfl) dL_join_22
abbrev rmL_move : Room := { frames := 8, cells := 4, slots := 24, locals := 131 }
set_option maxHeartbeats 1000000 in
set_option maxRecDepth 100000 in
theorem c_L_move (l : Launch) (hl9 : l.stackTraces = false) (D : va_G) (cy : Nat → ClassId) (o : Nat) (f : Nat → Int64) (ad : Nat → Nat) (n : Nat) (σ : S3) (hn : n ≤ 16) (x0 x1 x2 : Int32) : LM l yL_move wsL_move rmL_move D cy o (f, ad, n, σ) [.ref (ad 0), .int x0, .int x1, .int x2] (lV2 f ad n σ xIO xIS (e2 xIO xIS (inI x0 n ∧ inI x1 4 ∧ inI x2 3) (σ 3 x0.toNatClampNeg 0 = 0)) (fun u => (inI x0 n ∧ inI x1 4 ∧ inI x2 3) ∧ σ 3 x0.toNatClampNeg 0 = 0 ∧ u = su (su σ 1 x0.toNatClampNeg 0 (nI x1.toNatClampNeg)) 2 x0.toNatClampNeg 0 (nI x2.toNatClampNeg))) := by
  refine ls_T (cc := cL_move) (maxL := 5) (hh := [(0, 7, 10, 13), (0, 7, 14, 24)]) (by decide +kernel) rfl (Nat.le_of_ble_eq_true rfl) ?_
  intro p e s m below meth c ls S hr hlocks htb hw hM hZ hN hl
  have S : CallFix p m c cL_move 5 s [.ref (ad 0), .int x0, .int x1, .int x2].toArray wsL_move RL := S
  have hx := S.1
  have hb := S.2.1
  have hts := S.2.2.2.2
  have hl : lv_has ls 5 [(0, .ref (ad 0)), (1, .int x0), (2, .int x1), (3, .int x2)] := hl
  have htb : c.exceptionTable.toList = [⟨0, 7, 10, 13⟩, ⟨0, 7, 14, 24⟩] := htb
  refine lv_aload_n hx hb dL_move_0 rfl (lv_at hl 0 rfl) ?_
  refine lv_iload_n hx hb dL_move_1 rfl (lv_at hl 1 rfl) ?_
  refine lv_iload_n hx hb dL_move_2 rfl (lv_at hl 2 rfl) ?_
  refine lv_iload_n hx hb dL_move_3 rfl (lv_at hl 3 rfl) ?_
  refine lc_T (fun u : S3 => ((f, ad, n, u) : LSt)) hw (vx_runV (As := [.int x0, .int x1, .int x2]) (rest := []) S (c_X3_move l hl9 D cy ad n σ hn x0 x1 x2 _) (cwV 3 S.2.2.2.2 gL_move_X3_move rfl rfl rfl (by decide +kernel) ⟨Nat.le_of_ble_eq_true rfl, Nat.le_of_ble_eq_true rfl⟩) (xc_preV (cX_ok _ _) (lw_cX hM hZ) (lw_X hw) (k_0 n) (cE_0 _ _ _ _) rfl rfl) rfl rfl hl.1 rfl (lv_room (Nat.le_of_ble_eq_true rfl)) dL_move_4 ⟨Nat.le_of_ble_eq_true rfl, Nat.le_of_ble_eq_true rfl⟩) (fun _ => rfl) (fun E9 ce9 q9 H locs he hw hce9 hcv hcl => ?_) (fun v u H locs hp hw => ?_)
  · rcases he with ⟨rfl, hq⟩ | ⟨rfl, hq⟩
    · refine lx_catch S.2.2.2.1 [] ⟨0, 7, 10, 13⟩ [⟨0, 7, 14, 24⟩] htb (fun z hz => absurd hz List.not_mem_nil) rfl (by decide) (hts (.classLink RL 13 xIO) (by decide +kernel)) hce9 hcv hcl ?_
      refine lv_astore (lv' := [(4, .ref q9), (0, .ref (ad 0)), (1, .int x0), (2, .int x1), (3, .int x2)]) hx hb dL_move_10 hl (by decide) rfl (fun ls hl => ?_)
      refine lv_iconst (v := 1) hx hb dL_move_12 (by decide) ?_
      exact l_ret S.1 S.2.1 hr hlocks hw (Or.inr (Or.inl ⟨rfl, Or.inl ⟨rfl, hq⟩, rfl⟩)) (Nat.le_of_ble_eq_true rfl) (Nat.le_of_ble_eq_true rfl) dL_move_13
    · refine lx_catch S.2.2.2.1 [⟨0, 7, 10, 13⟩] ⟨0, 7, 14, 24⟩ [] htb (fun z hz => by rw [List.mem_singleton.mp hz]; exact Or.inr ⟨by decide, xIO, hts (.classLink RL 13 xIO) (by decide +kernel), hN.2.1⟩) rfl (by decide) (hts (.classLink RL 24 xIS) (by decide +kernel)) hce9 hcv hcl ?_
      refine lv_astore (lv' := [(4, .ref q9), (0, .ref (ad 0)), (1, .int x0), (2, .int x1), (3, .int x2)]) hx hb dL_move_14 hl (by decide) rfl (fun ls hl => ?_)
      refine lv_iconst (v := 2) hx hb dL_move_16 (by decide) ?_
      exact l_ret S.1 S.2.1 hr hlocks hw (Or.inr (Or.inr ⟨rfl, Or.inr ⟨rfl, hq⟩, rfl⟩)) (Nat.le_of_ble_eq_true rfl) (Nat.le_of_ble_eq_true rfl) dL_move_17
  · obtain ⟨rfl, hp⟩ := hp
    refine W.eq (g2 := F0 m 7 ls []) rfl ?_
    refine lv_goto (tgt := 18) hx hb dL_move_7 (by decide) ?_
    refine lv_iconst (v := 0) hx hb dL_move_18 (by decide) ?_
    exact l_ret S.1 S.2.1 hr hlocks hw (Or.inl ⟨rfl, u, hp, rfl⟩) (Nat.le_of_ble_eq_true rfl) (Nat.le_of_ble_eq_true rfl) dL_move_19
abbrev rmL_leave : Room := { frames := 8, cells := 2, slots := 12, locals := 129 }
set_option maxHeartbeats 1000000 in
set_option maxRecDepth 100000 in
theorem c_L_leave (l : Launch) (hl9 : l.stackTraces = false) (D : va_G) (cy : Nat → ClassId) (o : Nat) (f : Nat → Int64) (ad : Nat → Nat) (n : Nat) (σ : S3) (hn : n ≤ 16) (h4 : ∀ i, i < n → σ 4 i 0 = 0 ∨ σ 4 i 0 = 1) (x0 x1 : Int32) (hz1 : x1 = 0 ∨ x1 = 1) : LM l yL_leave wsL_leave rmL_leave D cy o (f, ad, n, σ) [.ref (ad 0), .int x0, .int x1, .ref o] (lP2 f ad n σ xIO xIS (e2 xIO xIS (inI x0 n) (σ 3 x0.toNatClampNeg 0 = 0)) z64 (fun r u => inI x0 n ∧ σ 3 x0.toNatClampNeg 0 = 0 ∧ r = σ 4 x0.toNatClampNeg 0 ∧ u = su σ 4 x0.toNatClampNeg 0 x1)) := by
  refine ls_T (cc := cL_leave) (maxL := 5) (hh := [(0, 17, 20, 13), (0, 17, 24, 24)]) (by decide +kernel) rfl (Nat.le_of_ble_eq_true rfl) ?_
  intro p e s m below meth c ls S hr hlocks htb hw hM hZ hN hl
  have S : CallFix p m c cL_leave 5 s [.ref (ad 0), .int x0, .int x1, .ref o].toArray wsL_leave RL := S
  have hx := S.1
  have hb := S.2.1
  have hts := S.2.2.2.2
  have hl : lv_has ls 5 [(0, .ref (ad 0)), (1, .int x0), (2, .int x1), (3, .ref o)] := hl
  have htb : c.exceptionTable.toList = [⟨0, 17, 20, 13⟩, ⟨0, 17, 24, 24⟩] := htb
  refine lv_aload_n hx hb dL_leave_0 rfl (lv_at hl 3 rfl) ?_
  refine lv_iconst (v := 0) hx hb dL_leave_1 (by decide) ?_
  refine lv_aload_n hx hb dL_leave_2 rfl (lv_at hl 0 rfl) ?_
  refine lv_iload_n hx hb dL_leave_3 rfl (lv_at hl 1 rfl) ?_
  refine lv_iload_n hx hb dL_leave_4 rfl (lv_at hl 2 rfl) ?_
  refine lc_T (fun u : S3 => ((f, ad, n, u) : LSt)) hw (vx_runV (As := [.int x0, .int x1]) (rest := [.int 0, .ref o]) S (c_X3_leave l hl9 D cy ad n σ hn h4 x0 x1 hz1 _) (cwV 2 S.2.2.2.2 gL_leave_X3_leave rfl rfl rfl (by decide +kernel) ⟨Nat.le_of_ble_eq_true rfl, Nat.le_of_ble_eq_true rfl⟩) (xc_preV (cX_ok _ _) (lw_cX hM hZ) (lw_X hw) (k_0 n) (cE_0 _ _ _ _) rfl rfl) rfl rfl hl.1 rfl (lv_room (Nat.le_of_ble_eq_true rfl)) dL_leave_5 ⟨Nat.le_of_ble_eq_true rfl, Nat.le_of_ble_eq_true rfl⟩) (fun _ => rfl) (fun E9 ce9 q9 H locs he hw hce9 hcv hcl => ?_) (fun v u H locs hp hw => ?_)
  · rcases he with ⟨rfl, hq⟩ | ⟨rfl, hq⟩
    · refine lx_catch S.2.2.2.1 [] ⟨0, 17, 20, 13⟩ [⟨0, 17, 24, 24⟩] htb (fun z hz => absurd hz List.not_mem_nil) rfl (by decide) (hts (.classLink RL 13 xIO) (by decide +kernel)) hce9 hcv hcl ?_
      refine lv_astore (lv' := [(4, .ref q9), (0, .ref (ad 0)), (1, .int x0), (2, .int x1), (3, .ref o)]) hx hb dL_leave_20 hl (by decide) rfl (fun ls hl => ?_)
      refine lv_iconst (v := 1) hx hb dL_leave_22 (by decide) ?_
      exact l_ret S.1 S.2.1 hr hlocks hw (Or.inr (Or.inl ⟨rfl, Or.inl ⟨rfl, hq⟩, rfl⟩)) (Nat.le_of_ble_eq_true rfl) (Nat.le_of_ble_eq_true rfl) dL_leave_23
    · refine lx_catch S.2.2.2.1 [⟨0, 17, 20, 13⟩] ⟨0, 17, 24, 24⟩ [] htb (fun z hz => by rw [List.mem_singleton.mp hz]; exact Or.inr ⟨by decide, xIO, hts (.classLink RL 13 xIO) (by decide +kernel), hN.2.1⟩) rfl (by decide) (hts (.classLink RL 24 xIS) (by decide +kernel)) hce9 hcv hcl ?_
      refine lv_astore (lv' := [(4, .ref q9), (0, .ref (ad 0)), (1, .int x0), (2, .int x1), (3, .ref o)]) hx hb dL_leave_24 hl (by decide) rfl (fun ls hl => ?_)
      refine lv_iconst (v := 2) hx hb dL_leave_26 (by decide) ?_
      exact l_ret S.1 S.2.1 hr hlocks hw (Or.inr (Or.inr ⟨rfl, Or.inr ⟨rfl, hq⟩, rfl⟩)) (Nat.le_of_ble_eq_true rfl) (Nat.le_of_ble_eq_true rfl) dL_leave_27
  · obtain ⟨r, rfl, hp⟩ := hp
    refine W.eq (g2 := F0 m 8 ls [.int (r), .int 0, .ref o]) rfl ?_
    refine lv_if_eq (tgt := 15) hx hb dL_leave_8 (by decide) (fun c1 => ?_) (fun c1 => ?_)
    · refine lv_lconst (v := 0) hx hb dL_leave_15 (by decide) ?_
      refine l_out hx hb hw dL_leave_16 (fun H locs hw => ?_)
      refine lv_goto (tgt := 28) hx hb dL_leave_17 (by decide) ?_
      refine lv_iconst (v := 0) hx hb dL_leave_28 (by decide) ?_
      exact l_ret S.1 S.2.1 hr hlocks hw (Or.inl ⟨rfl, r, u, hp, by rw [show z64 r = 0 from if_pos c1]⟩) (Nat.le_of_ble_eq_true rfl) (Nat.le_of_ble_eq_true rfl) dL_leave_29
    · refine lv_lconst (v := 1) hx hb dL_leave_11 (by decide) ?_
      refine lv_goto (tgt := 16) hx hb dL_leave_12 (by decide) ?_
      refine l_out hx hb hw dL_leave_16 (fun H locs hw => ?_)
      refine lv_goto (tgt := 28) hx hb dL_leave_17 (by decide) ?_
      refine lv_iconst (v := 0) hx hb dL_leave_28 (by decide) ?_
      exact l_ret S.1 S.2.1 hr hlocks hw (Or.inl ⟨rfl, r, u, hp, by rw [show z64 r = 1 from if_neg c1]⟩) (Nat.le_of_ble_eq_true rfl) (Nat.le_of_ble_eq_true rfl) dL_leave_29
abbrev rmL_quit : Room := { frames := 8, cells := 2, slots := 12, locals := 127 }
set_option maxHeartbeats 1000000 in
set_option maxRecDepth 100000 in
theorem c_L_quit (l : Launch) (hl9 : l.stackTraces = false) (D : va_G) (cy : Nat → ClassId) (o : Nat) (f : Nat → Int64) (ad : Nat → Nat) (n : Nat) (σ : S3) (hn : n ≤ 16) (x0 : Int32) : LM l yL_quit wsL_quit rmL_quit D cy o (f, ad, n, σ) [.ref (ad 0), .int x0, .ref o] (lP2 f ad n σ xIO xIS (e2 xIO xIS (inI x0 n) (σ 3 x0.toNatClampNeg 0 = 0)) Int32.toInt64 (fun r u => inI x0 n ∧ σ 3 x0.toNatClampNeg 0 = 0 ∧ r = sOwed (su σ 3 x0.toNatClampNeg 0 1) x0.toNatClampNeg ∧ u = su σ 3 x0.toNatClampNeg 0 1)) := by
  refine ls_T (cc := cL_quit) (maxL := 4) (hh := [(0, 9, 12, 13), (0, 9, 15, 24)]) (by decide +kernel) rfl (Nat.le_of_ble_eq_true rfl) ?_
  intro p e s m below meth c ls S hr hlocks htb hw hM hZ hN hl
  have S : CallFix p m c cL_quit 4 s [.ref (ad 0), .int x0, .ref o].toArray wsL_quit RL := S
  have hx := S.1
  have hb := S.2.1
  have hts := S.2.2.2.2
  have hl : lv_has ls 4 [(0, .ref (ad 0)), (1, .int x0), (2, .ref o)] := hl
  have htb : c.exceptionTable.toList = [⟨0, 9, 12, 13⟩, ⟨0, 9, 15, 24⟩] := htb
  refine lv_aload_n hx hb dL_quit_0 rfl (lv_at hl 2 rfl) ?_
  refine lv_iconst (v := 0) hx hb dL_quit_1 (by decide) ?_
  refine lv_aload_n hx hb dL_quit_2 rfl (lv_at hl 0 rfl) ?_
  refine lv_iload_n hx hb dL_quit_3 rfl (lv_at hl 1 rfl) ?_
  refine lc_T (fun u : S3 => ((f, ad, n, u) : LSt)) hw (vx_runV (As := [.int x0]) (rest := [.int 0, .ref o]) S (c_X3_quit l hl9 D cy ad n σ hn x0 _) (cwV 1 S.2.2.2.2 gL_quit_X3_quit rfl rfl rfl (by decide +kernel) ⟨Nat.le_of_ble_eq_true rfl, Nat.le_of_ble_eq_true rfl⟩) (xc_preV (cX_ok _ _) (lw_cX hM hZ) (lw_X hw) (k_0 n) (cE_0 _ _ _ _) rfl rfl) rfl rfl hl.1 rfl (lv_room (Nat.le_of_ble_eq_true rfl)) dL_quit_4 ⟨Nat.le_of_ble_eq_true rfl, Nat.le_of_ble_eq_true rfl⟩) (fun _ => rfl) (fun E9 ce9 q9 H locs he hw hce9 hcv hcl => ?_) (fun v u H locs hp hw => ?_)
  · rcases he with ⟨rfl, hq⟩ | ⟨rfl, hq⟩
    · refine lx_catch S.2.2.2.1 [] ⟨0, 9, 12, 13⟩ [⟨0, 9, 15, 24⟩] htb (fun z hz => absurd hz List.not_mem_nil) rfl (by decide) (hts (.classLink RL 13 xIO) (by decide +kernel)) hce9 hcv hcl ?_
      refine lv_astore_n (lv' := [(3, .ref q9), (0, .ref (ad 0)), (1, .int x0), (2, .ref o)]) hx hb dL_quit_12 rfl hl (by decide) rfl (fun ls hl => ?_)
      refine lv_iconst (v := 1) hx hb dL_quit_13 (by decide) ?_
      exact l_ret S.1 S.2.1 hr hlocks hw (Or.inr (Or.inl ⟨rfl, Or.inl ⟨rfl, hq⟩, rfl⟩)) (Nat.le_of_ble_eq_true rfl) (Nat.le_of_ble_eq_true rfl) dL_quit_14
    · refine lx_catch S.2.2.2.1 [⟨0, 9, 12, 13⟩] ⟨0, 9, 15, 24⟩ [] htb (fun z hz => by rw [List.mem_singleton.mp hz]; exact Or.inr ⟨by decide, xIO, hts (.classLink RL 13 xIO) (by decide +kernel), hN.2.1⟩) rfl (by decide) (hts (.classLink RL 24 xIS) (by decide +kernel)) hce9 hcv hcl ?_
      refine lv_astore_n (lv' := [(3, .ref q9), (0, .ref (ad 0)), (1, .int x0), (2, .ref o)]) hx hb dL_quit_15 rfl hl (by decide) rfl (fun ls hl => ?_)
      refine lv_iconst (v := 2) hx hb dL_quit_16 (by decide) ?_
      exact l_ret S.1 S.2.1 hr hlocks hw (Or.inr (Or.inr ⟨rfl, Or.inr ⟨rfl, hq⟩, rfl⟩)) (Nat.le_of_ble_eq_true rfl) (Nat.le_of_ble_eq_true rfl) dL_quit_17
  · obtain ⟨r, rfl, hp⟩ := hp
    refine W.eq (g2 := F0 m 7 ls [.int (r), .int 0, .ref o]) rfl ?_
    refine lv_i2l (v := (r).toInt64) hx hb dL_quit_7 rfl ?_
    refine l_out hx hb hw dL_quit_8 (fun H locs hw => ?_)
    refine lv_goto (tgt := 18) hx hb dL_quit_9 (by decide) ?_
    refine lv_iconst (v := 0) hx hb dL_quit_18 (by decide) ?_
    exact l_ret S.1 S.2.1 hr hlocks hw (Or.inl ⟨rfl, r, u, hp, rfl⟩) (Nat.le_of_ble_eq_true rfl) (Nat.le_of_ble_eq_true rfl) dL_quit_19
abbrev rmL_pay : Room := { frames := 8, cells := 2, slots := 12, locals := 130 }
set_option maxHeartbeats 1000000 in
set_option maxRecDepth 100000 in
theorem c_L_pay (l : Launch) (hl9 : l.stackTraces = false) (D : va_G) (cy : Nat → ClassId) (o : Nat) (f : Nat → Int64) (ad : Nat → Nat) (n : Nat) (σ : S3) (hn : n ≤ 16) (x0 x1 : Int32) : LM l yL_pay wsL_pay rmL_pay D cy o (f, ad, n, σ) [.ref (ad 0), .int x0, .int x1, .ref o] (lP2 f ad n σ xIO xIA (e2 xIO xIA (inI x0 n) (rgI x1 1 1000000)) Int32.toInt64 (fun r u => inI x0 n ∧ rgI x1 1 1000000 ∧ r = sOwed (payF σ x0.toNatClampNeg x1) x0.toNatClampNeg ∧ u = payF σ x0.toNatClampNeg x1)) := by
  refine ls_T (cc := cL_pay) (maxL := 5) (hh := [(0, 10, 13, 13), (0, 10, 17, 15)]) (by decide +kernel) rfl (Nat.le_of_ble_eq_true rfl) ?_
  intro p e s m below meth c ls S hr hlocks htb hw hM hZ hN hl
  have S : CallFix p m c cL_pay 5 s [.ref (ad 0), .int x0, .int x1, .ref o].toArray wsL_pay RL := S
  have hx := S.1
  have hb := S.2.1
  have hts := S.2.2.2.2
  have hl : lv_has ls 5 [(0, .ref (ad 0)), (1, .int x0), (2, .int x1), (3, .ref o)] := hl
  have htb : c.exceptionTable.toList = [⟨0, 10, 13, 13⟩, ⟨0, 10, 17, 15⟩] := htb
  refine lv_aload_n hx hb dL_pay_0 rfl (lv_at hl 3 rfl) ?_
  refine lv_iconst (v := 0) hx hb dL_pay_1 (by decide) ?_
  refine lv_aload_n hx hb dL_pay_2 rfl (lv_at hl 0 rfl) ?_
  refine lv_iload_n hx hb dL_pay_3 rfl (lv_at hl 1 rfl) ?_
  refine lv_iload_n hx hb dL_pay_4 rfl (lv_at hl 2 rfl) ?_
  refine lc_T (fun u : S3 => ((f, ad, n, u) : LSt)) hw (vx_runV (As := [.int x0, .int x1]) (rest := [.int 0, .ref o]) S (c_X3_pay l hl9 D cy ad n σ hn x0 x1 _) (cwV 2 S.2.2.2.2 gL_pay_X3_pay rfl rfl rfl (by decide +kernel) ⟨Nat.le_of_ble_eq_true rfl, Nat.le_of_ble_eq_true rfl⟩) (xc_preV (cX_ok _ _) (lw_cX hM hZ) (lw_X hw) (k_0 n) (cE_0 _ _ _ _) rfl rfl) rfl rfl hl.1 rfl (lv_room (Nat.le_of_ble_eq_true rfl)) dL_pay_5 ⟨Nat.le_of_ble_eq_true rfl, Nat.le_of_ble_eq_true rfl⟩) (fun _ => rfl) (fun E9 ce9 q9 H locs he hw hce9 hcv hcl => ?_) (fun v u H locs hp hw => ?_)
  · rcases he with ⟨rfl, hq⟩ | ⟨rfl, hq⟩
    · refine lx_catch S.2.2.2.1 [] ⟨0, 10, 13, 13⟩ [⟨0, 10, 17, 15⟩] htb (fun z hz => absurd hz List.not_mem_nil) rfl (by decide) (hts (.classLink RL 13 xIO) (by decide +kernel)) hce9 hcv hcl ?_
      refine lv_astore (lv' := [(4, .ref q9), (0, .ref (ad 0)), (1, .int x0), (2, .int x1), (3, .ref o)]) hx hb dL_pay_13 hl (by decide) rfl (fun ls hl => ?_)
      refine lv_iconst (v := 1) hx hb dL_pay_15 (by decide) ?_
      exact l_ret S.1 S.2.1 hr hlocks hw (Or.inr (Or.inl ⟨rfl, Or.inl ⟨rfl, hq⟩, rfl⟩)) (Nat.le_of_ble_eq_true rfl) (Nat.le_of_ble_eq_true rfl) dL_pay_16
    · refine lx_catch S.2.2.2.1 [⟨0, 10, 13, 13⟩] ⟨0, 10, 17, 15⟩ [] htb (fun z hz => by rw [List.mem_singleton.mp hz]; exact Or.inr ⟨by decide, xIO, hts (.classLink RL 13 xIO) (by decide +kernel), hN.1⟩) rfl (by decide) (hts (.classLink RL 15 xIA) (by decide +kernel)) hce9 hcv hcl ?_
      refine lv_astore (lv' := [(4, .ref q9), (0, .ref (ad 0)), (1, .int x0), (2, .int x1), (3, .ref o)]) hx hb dL_pay_17 hl (by decide) rfl (fun ls hl => ?_)
      refine lv_iconst (v := 2) hx hb dL_pay_19 (by decide) ?_
      exact l_ret S.1 S.2.1 hr hlocks hw (Or.inr (Or.inr ⟨rfl, Or.inr ⟨rfl, hq⟩, rfl⟩)) (Nat.le_of_ble_eq_true rfl) (Nat.le_of_ble_eq_true rfl) dL_pay_20
  · obtain ⟨r, rfl, hp⟩ := hp
    refine W.eq (g2 := F0 m 8 ls [.int (r), .int 0, .ref o]) rfl ?_
    refine lv_i2l (v := (r).toInt64) hx hb dL_pay_8 rfl ?_
    refine l_out hx hb hw dL_pay_9 (fun H locs hw => ?_)
    refine lv_goto (tgt := 21) hx hb dL_pay_10 (by decide) ?_
    refine lv_iconst (v := 0) hx hb dL_pay_21 (by decide) ?_
    exact l_ret S.1 S.2.1 hr hlocks hw (Or.inl ⟨rfl, r, u, hp, rfl⟩) (Nat.le_of_ble_eq_true rfl) (Nat.le_of_ble_eq_true rfl) dL_pay_22
abbrev rmL_open : Room := { frames := 8, cells := 2, slots := 12, locals := 127 }
set_option maxHeartbeats 1000000 in
set_option maxRecDepth 100000 in
theorem c_L_open (l : Launch) (hl9 : l.stackTraces = false) (D : va_G) (cy : Nat → ClassId) (o : Nat) (f : Nat → Int64) (ad : Nat → Nat) (n : Nat) (σ : S3) (x0 : Int32) : LM l yL_open wsL_open rmL_open D cy o (f, ad, n, σ) [.ref (ad 0), .int x0, .ref o] (lP2 f ad n σ xIO xIS (e2 xIO xIS (inI x0 4) (opP σ x0.toNatClampNeg)) Int32.toInt64 (fun r u => inI x0 4 ∧ opP σ x0.toNatClampNeg ∧ r = cntF (bgF σ x0.toNatClampNeg) n x0.toNatClampNeg ((bgF σ x0.toNatClampNeg) 18 0 0) 16 ∧ u = bgF σ x0.toNatClampNeg)) := by
  refine ls_T (cc := cL_open) (maxL := 4) (hh := [(0, 9, 12, 13), (0, 9, 15, 24)]) (by decide +kernel) rfl (Nat.le_of_ble_eq_true rfl) ?_
  intro p e s m below meth c ls S hr hlocks htb hw hM hZ hN hl
  have S : CallFix p m c cL_open 4 s [.ref (ad 0), .int x0, .ref o].toArray wsL_open RL := S
  have hx := S.1
  have hb := S.2.1
  have hts := S.2.2.2.2
  have hl : lv_has ls 4 [(0, .ref (ad 0)), (1, .int x0), (2, .ref o)] := hl
  have htb : c.exceptionTable.toList = [⟨0, 9, 12, 13⟩, ⟨0, 9, 15, 24⟩] := htb
  refine lv_aload_n hx hb dL_open_0 rfl (lv_at hl 2 rfl) ?_
  refine lv_iconst (v := 0) hx hb dL_open_1 (by decide) ?_
  refine lv_aload_n hx hb dL_open_2 rfl (lv_at hl 0 rfl) ?_
  refine lv_iload_n hx hb dL_open_3 rfl (lv_at hl 1 rfl) ?_
  refine lc_T (fun u : S3 => ((f, ad, n, u) : LSt)) hw (vx_runV (As := [.int x0]) (rest := [.int 0, .ref o]) S (c_X3_open l hl9 D cy ad n σ x0 _) (cwV 1 S.2.2.2.2 gL_open_X3_open rfl rfl rfl (by decide +kernel) ⟨Nat.le_of_ble_eq_true rfl, Nat.le_of_ble_eq_true rfl⟩) (xc_preV (cX_ok _ _) (lw_cX hM hZ) (lw_X hw) (k_0 n) (cE_0 _ _ _ _) rfl rfl) rfl rfl hl.1 rfl (lv_room (Nat.le_of_ble_eq_true rfl)) dL_open_4 ⟨Nat.le_of_ble_eq_true rfl, Nat.le_of_ble_eq_true rfl⟩) (fun _ => rfl) (fun E9 ce9 q9 H locs he hw hce9 hcv hcl => ?_) (fun v u H locs hp hw => ?_)
  · rcases he with ⟨rfl, hq⟩ | ⟨rfl, hq⟩
    · refine lx_catch S.2.2.2.1 [] ⟨0, 9, 12, 13⟩ [⟨0, 9, 15, 24⟩] htb (fun z hz => absurd hz List.not_mem_nil) rfl (by decide) (hts (.classLink RL 13 xIO) (by decide +kernel)) hce9 hcv hcl ?_
      refine lv_astore_n (lv' := [(3, .ref q9), (0, .ref (ad 0)), (1, .int x0), (2, .ref o)]) hx hb dL_open_12 rfl hl (by decide) rfl (fun ls hl => ?_)
      refine lv_iconst (v := 1) hx hb dL_open_13 (by decide) ?_
      exact l_ret S.1 S.2.1 hr hlocks hw (Or.inr (Or.inl ⟨rfl, Or.inl ⟨rfl, hq⟩, rfl⟩)) (Nat.le_of_ble_eq_true rfl) (Nat.le_of_ble_eq_true rfl) dL_open_14
    · refine lx_catch S.2.2.2.1 [⟨0, 9, 12, 13⟩] ⟨0, 9, 15, 24⟩ [] htb (fun z hz => by rw [List.mem_singleton.mp hz]; exact Or.inr ⟨by decide, xIO, hts (.classLink RL 13 xIO) (by decide +kernel), hN.2.1⟩) rfl (by decide) (hts (.classLink RL 24 xIS) (by decide +kernel)) hce9 hcv hcl ?_
      refine lv_astore_n (lv' := [(3, .ref q9), (0, .ref (ad 0)), (1, .int x0), (2, .ref o)]) hx hb dL_open_15 rfl hl (by decide) rfl (fun ls hl => ?_)
      refine lv_iconst (v := 2) hx hb dL_open_16 (by decide) ?_
      exact l_ret S.1 S.2.1 hr hlocks hw (Or.inr (Or.inr ⟨rfl, Or.inr ⟨rfl, hq⟩, rfl⟩)) (Nat.le_of_ble_eq_true rfl) (Nat.le_of_ble_eq_true rfl) dL_open_17
  · obtain ⟨r, rfl, hp⟩ := hp
    refine W.eq (g2 := F0 m 7 ls [.int (r), .int 0, .ref o]) rfl ?_
    refine lv_i2l (v := (r).toInt64) hx hb dL_open_7 rfl ?_
    refine l_out hx hb hw dL_open_8 (fun H locs hw => ?_)
    refine lv_goto (tgt := 18) hx hb dL_open_9 (by decide) ?_
    refine lv_iconst (v := 0) hx hb dL_open_18 (by decide) ?_
    exact l_ret S.1 S.2.1 hr hlocks hw (Or.inl ⟨rfl, r, u, hp, rfl⟩) (Nat.le_of_ble_eq_true rfl) (Nat.le_of_ble_eq_true rfl) dL_open_19
abbrev rmL_vote : Room := { frames := 8, cells := 2, slots := 12, locals := 129 }
set_option maxHeartbeats 1000000 in
set_option maxRecDepth 100000 in
theorem c_L_vote (l : Launch) (hl9 : l.stackTraces = false) (D : va_G) (cy : Nat → ClassId) (o : Nat) (f : Nat → Int64) (ad : Nat → Nat) (n : Nat) (σ : S3) (hn : n ≤ 16) (x0 x1 : Int32) : LM l yL_vote wsL_vote rmL_vote D cy o (f, ad, n, σ) [.ref (ad 0), .int x0, .int x1, .ref o] (lP2 f ad n σ xIO xIS (e2 xIO xIS (inI x0 n) (voP σ x0.toNatClampNeg)) Int32.toInt64 (fun r u => inI x0 n ∧ voP σ x0.toNatClampNeg ∧ r = bcF ((tvF σ (br σ x0.toNatClampNeg) x0.toNatClampNeg x1) 12 (br σ x0.toNatClampNeg) 0) ∧ u = tvF σ (br σ x0.toNatClampNeg) x0.toNatClampNeg x1)) := by
  refine ls_T (cc := cL_vote) (maxL := 5) (hh := [(0, 10, 13, 13), (0, 10, 17, 24)]) (by decide +kernel) rfl (Nat.le_of_ble_eq_true rfl) ?_
  intro p e s m below meth c ls S hr hlocks htb hw hM hZ hN hl
  have S : CallFix p m c cL_vote 5 s [.ref (ad 0), .int x0, .int x1, .ref o].toArray wsL_vote RL := S
  have hx := S.1
  have hb := S.2.1
  have hts := S.2.2.2.2
  have hl : lv_has ls 5 [(0, .ref (ad 0)), (1, .int x0), (2, .int x1), (3, .ref o)] := hl
  have htb : c.exceptionTable.toList = [⟨0, 10, 13, 13⟩, ⟨0, 10, 17, 24⟩] := htb
  refine lv_aload_n hx hb dL_vote_0 rfl (lv_at hl 3 rfl) ?_
  refine lv_iconst (v := 0) hx hb dL_vote_1 (by decide) ?_
  refine lv_aload_n hx hb dL_vote_2 rfl (lv_at hl 0 rfl) ?_
  refine lv_iload_n hx hb dL_vote_3 rfl (lv_at hl 1 rfl) ?_
  refine lv_iload_n hx hb dL_vote_4 rfl (lv_at hl 2 rfl) ?_
  refine lc_T (fun u : S3 => ((f, ad, n, u) : LSt)) hw (vx_runV (As := [.int x0, .int x1]) (rest := [.int 0, .ref o]) S (c_X3_vote l hl9 D cy ad n σ hn x0 x1 _) (cwV 2 S.2.2.2.2 gL_vote_X3_vote rfl rfl rfl (by decide +kernel) ⟨Nat.le_of_ble_eq_true rfl, Nat.le_of_ble_eq_true rfl⟩) (xc_preV (cX_ok _ _) (lw_cX hM hZ) (lw_X hw) (k_0 n) (cE_0 _ _ _ _) rfl rfl) rfl rfl hl.1 rfl (lv_room (Nat.le_of_ble_eq_true rfl)) dL_vote_5 ⟨Nat.le_of_ble_eq_true rfl, Nat.le_of_ble_eq_true rfl⟩) (fun _ => rfl) (fun E9 ce9 q9 H locs he hw hce9 hcv hcl => ?_) (fun v u H locs hp hw => ?_)
  · rcases he with ⟨rfl, hq⟩ | ⟨rfl, hq⟩
    · refine lx_catch S.2.2.2.1 [] ⟨0, 10, 13, 13⟩ [⟨0, 10, 17, 24⟩] htb (fun z hz => absurd hz List.not_mem_nil) rfl (by decide) (hts (.classLink RL 13 xIO) (by decide +kernel)) hce9 hcv hcl ?_
      refine lv_astore (lv' := [(4, .ref q9), (0, .ref (ad 0)), (1, .int x0), (2, .int x1), (3, .ref o)]) hx hb dL_vote_13 hl (by decide) rfl (fun ls hl => ?_)
      refine lv_iconst (v := 1) hx hb dL_vote_15 (by decide) ?_
      exact l_ret S.1 S.2.1 hr hlocks hw (Or.inr (Or.inl ⟨rfl, Or.inl ⟨rfl, hq⟩, rfl⟩)) (Nat.le_of_ble_eq_true rfl) (Nat.le_of_ble_eq_true rfl) dL_vote_16
    · refine lx_catch S.2.2.2.1 [⟨0, 10, 13, 13⟩] ⟨0, 10, 17, 24⟩ [] htb (fun z hz => by rw [List.mem_singleton.mp hz]; exact Or.inr ⟨by decide, xIO, hts (.classLink RL 13 xIO) (by decide +kernel), hN.2.1⟩) rfl (by decide) (hts (.classLink RL 24 xIS) (by decide +kernel)) hce9 hcv hcl ?_
      refine lv_astore (lv' := [(4, .ref q9), (0, .ref (ad 0)), (1, .int x0), (2, .int x1), (3, .ref o)]) hx hb dL_vote_17 hl (by decide) rfl (fun ls hl => ?_)
      refine lv_iconst (v := 2) hx hb dL_vote_19 (by decide) ?_
      exact l_ret S.1 S.2.1 hr hlocks hw (Or.inr (Or.inr ⟨rfl, Or.inr ⟨rfl, hq⟩, rfl⟩)) (Nat.le_of_ble_eq_true rfl) (Nat.le_of_ble_eq_true rfl) dL_vote_20
  · obtain ⟨r, rfl, hp⟩ := hp
    refine W.eq (g2 := F0 m 8 ls [.int (r), .int 0, .ref o]) rfl ?_
    refine lv_i2l (v := (r).toInt64) hx hb dL_vote_8 rfl ?_
    refine l_out hx hb hw dL_vote_9 (fun H locs hw => ?_)
    refine lv_goto (tgt := 21) hx hb dL_vote_10 (by decide) ?_
    refine lv_iconst (v := 0) hx hb dL_vote_21 (by decide) ?_
    exact l_ret S.1 S.2.1 hr hlocks hw (Or.inl ⟨rfl, r, u, hp, rfl⟩) (Nat.le_of_ble_eq_true rfl) (Nat.le_of_ble_eq_true rfl) dL_vote_22
abbrev rmL_close : Room := { frames := 8, cells := 2, slots := 12, locals := 127 }
set_option maxHeartbeats 1000000 in
set_option maxRecDepth 100000 in
theorem c_L_close (l : Launch) (hl9 : l.stackTraces = false) (D : va_G) (cy : Nat → ClassId) (o : Nat) (f : Nat → Int64) (ad : Nat → Nat) (n : Nat) (σ : S3) (x0 : Int32) : LM l yL_close wsL_close rmL_close D cy o (f, ad, n, σ) [.ref (ad 0), .int x0, .ref o] (lP2 f ad n σ xIO xIS (e2 xIO xIS (inI x0 4) (¬ σ 10 x0.toNatClampNeg 0 = 0)) z64 (fun r u => inI x0 4 ∧ ¬ σ 10 x0.toNatClampNeg 0 = 0 ∧ r = wonI σ x0.toNatClampNeg (cntF σ n x0.toNatClampNeg (σ 18 0 0) 16) ∧ u = ebF σ x0.toNatClampNeg (cntF σ n x0.toNatClampNeg (σ 18 0 0) 16))) := by
  refine ls_T (cc := cL_close) (maxL := 4) (hh := [(0, 16, 19, 13), (0, 16, 22, 24)]) (by decide +kernel) rfl (Nat.le_of_ble_eq_true rfl) ?_
  intro p e s m below meth c ls S hr hlocks htb hw hM hZ hN hl
  have S : CallFix p m c cL_close 4 s [.ref (ad 0), .int x0, .ref o].toArray wsL_close RL := S
  have hx := S.1
  have hb := S.2.1
  have hts := S.2.2.2.2
  have hl : lv_has ls 4 [(0, .ref (ad 0)), (1, .int x0), (2, .ref o)] := hl
  have htb : c.exceptionTable.toList = [⟨0, 16, 19, 13⟩, ⟨0, 16, 22, 24⟩] := htb
  refine lv_aload_n hx hb dL_close_0 rfl (lv_at hl 2 rfl) ?_
  refine lv_iconst (v := 0) hx hb dL_close_1 (by decide) ?_
  refine lv_aload_n hx hb dL_close_2 rfl (lv_at hl 0 rfl) ?_
  refine lv_iload_n hx hb dL_close_3 rfl (lv_at hl 1 rfl) ?_
  refine lc_T (fun u : S3 => ((f, ad, n, u) : LSt)) hw (vx_runV (As := [.int x0]) (rest := [.int 0, .ref o]) S (c_X3_close l hl9 D cy ad n σ x0 _) (cwV 1 S.2.2.2.2 gL_close_X3_close rfl rfl rfl (by decide +kernel) ⟨Nat.le_of_ble_eq_true rfl, Nat.le_of_ble_eq_true rfl⟩) (xc_preV (cX_ok _ _) (lw_cX hM hZ) (lw_X hw) (k_0 n) (cE_0 _ _ _ _) rfl rfl) rfl rfl hl.1 rfl (lv_room (Nat.le_of_ble_eq_true rfl)) dL_close_4 ⟨Nat.le_of_ble_eq_true rfl, Nat.le_of_ble_eq_true rfl⟩) (fun _ => rfl) (fun E9 ce9 q9 H locs he hw hce9 hcv hcl => ?_) (fun v u H locs hp hw => ?_)
  · rcases he with ⟨rfl, hq⟩ | ⟨rfl, hq⟩
    · refine lx_catch S.2.2.2.1 [] ⟨0, 16, 19, 13⟩ [⟨0, 16, 22, 24⟩] htb (fun z hz => absurd hz List.not_mem_nil) rfl (by decide) (hts (.classLink RL 13 xIO) (by decide +kernel)) hce9 hcv hcl ?_
      refine lv_astore_n (lv' := [(3, .ref q9), (0, .ref (ad 0)), (1, .int x0), (2, .ref o)]) hx hb dL_close_19 rfl hl (by decide) rfl (fun ls hl => ?_)
      refine lv_iconst (v := 1) hx hb dL_close_20 (by decide) ?_
      exact l_ret S.1 S.2.1 hr hlocks hw (Or.inr (Or.inl ⟨rfl, Or.inl ⟨rfl, hq⟩, rfl⟩)) (Nat.le_of_ble_eq_true rfl) (Nat.le_of_ble_eq_true rfl) dL_close_21
    · refine lx_catch S.2.2.2.1 [⟨0, 16, 19, 13⟩] ⟨0, 16, 22, 24⟩ [] htb (fun z hz => by rw [List.mem_singleton.mp hz]; exact Or.inr ⟨by decide, xIO, hts (.classLink RL 13 xIO) (by decide +kernel), hN.2.1⟩) rfl (by decide) (hts (.classLink RL 24 xIS) (by decide +kernel)) hce9 hcv hcl ?_
      refine lv_astore_n (lv' := [(3, .ref q9), (0, .ref (ad 0)), (1, .int x0), (2, .ref o)]) hx hb dL_close_22 rfl hl (by decide) rfl (fun ls hl => ?_)
      refine lv_iconst (v := 2) hx hb dL_close_23 (by decide) ?_
      exact l_ret S.1 S.2.1 hr hlocks hw (Or.inr (Or.inr ⟨rfl, Or.inr ⟨rfl, hq⟩, rfl⟩)) (Nat.le_of_ble_eq_true rfl) (Nat.le_of_ble_eq_true rfl) dL_close_24
  · obtain ⟨r, rfl, hp⟩ := hp
    refine W.eq (g2 := F0 m 7 ls [.int (r), .int 0, .ref o]) rfl ?_
    refine lv_if_eq (tgt := 14) hx hb dL_close_7 (by decide) (fun c1 => ?_) (fun c1 => ?_)
    · refine lv_lconst (v := 0) hx hb dL_close_14 (by decide) ?_
      refine l_out hx hb hw dL_close_15 (fun H locs hw => ?_)
      refine lv_goto (tgt := 25) hx hb dL_close_16 (by decide) ?_
      refine lv_iconst (v := 0) hx hb dL_close_25 (by decide) ?_
      exact l_ret S.1 S.2.1 hr hlocks hw (Or.inl ⟨rfl, r, u, hp, by rw [show z64 r = 0 from if_pos c1]⟩) (Nat.le_of_ble_eq_true rfl) (Nat.le_of_ble_eq_true rfl) dL_close_26
    · refine lv_lconst (v := 1) hx hb dL_close_10 (by decide) ?_
      refine lv_goto (tgt := 15) hx hb dL_close_11 (by decide) ?_
      refine l_out hx hb hw dL_close_15 (fun H locs hw => ?_)
      refine lv_goto (tgt := 25) hx hb dL_close_16 (by decide) ?_
      refine lv_iconst (v := 0) hx hb dL_close_25 (by decide) ?_
      exact l_ret S.1 S.2.1 hr hlocks hw (Or.inl ⟨rfl, r, u, hp, by rw [show z64 r = 1 from if_neg c1]⟩) (Nat.le_of_ble_eq_true rfl) (Nat.le_of_ble_eq_true rfl) dL_close_26
abbrev rmL_strike : Room := { frames := 8, cells := 2, slots := 12, locals := 128 }
set_option maxHeartbeats 1000000 in
set_option maxRecDepth 100000 in
theorem c_L_strike (l : Launch) (hl9 : l.stackTraces = false) (D : va_G) (cy : Nat → ClassId) (o : Nat) (f : Nat → Int64) (ad : Nat → Nat) (n : Nat) (σ : S3) (x0 x1 : Int32) (hz1 : x1 = 0 ∨ x1 = 1) : LM l yL_strike wsL_strike rmL_strike D cy o (f, ad, n, σ) [.ref (ad 0), .int x0, .int x1] (lV2 f ad n σ xIO xIS (e2 xIO xIS (inI x0 4) (skP σ x0.toNatClampNeg x1)) (fun u => inI x0 4 ∧ skP σ x0.toNatClampNeg x1 ∧ u = su (su σ 14 x0.toNatClampNeg 0 x1) 13 x0.toNatClampNeg 0 0)) := by
  refine ls_T (cc := cL_strike) (maxL := 4) (hh := [(0, 6, 9, 13), (0, 6, 12, 24)]) (by decide +kernel) rfl (Nat.le_of_ble_eq_true rfl) ?_
  intro p e s m below meth c ls S hr hlocks htb hw hM hZ hN hl
  have S : CallFix p m c cL_strike 4 s [.ref (ad 0), .int x0, .int x1].toArray wsL_strike RL := S
  have hx := S.1
  have hb := S.2.1
  have hts := S.2.2.2.2
  have hl : lv_has ls 4 [(0, .ref (ad 0)), (1, .int x0), (2, .int x1)] := hl
  have htb : c.exceptionTable.toList = [⟨0, 6, 9, 13⟩, ⟨0, 6, 12, 24⟩] := htb
  refine lv_aload_n hx hb dL_strike_0 rfl (lv_at hl 0 rfl) ?_
  refine lv_iload_n hx hb dL_strike_1 rfl (lv_at hl 1 rfl) ?_
  refine lv_iload_n hx hb dL_strike_2 rfl (lv_at hl 2 rfl) ?_
  refine lc_T (fun u : S3 => ((f, ad, n, u) : LSt)) hw (vx_runV (As := [.int x0, .int x1]) (rest := []) S (c_X3_strike l hl9 D cy ad n σ x0 x1 hz1 _) (cwV 2 S.2.2.2.2 gL_strike_X3_strike rfl rfl rfl (by decide +kernel) ⟨Nat.le_of_ble_eq_true rfl, Nat.le_of_ble_eq_true rfl⟩) (xc_preV (cX_ok _ _) (lw_cX hM hZ) (lw_X hw) (k_0 n) (cE_0 _ _ _ _) rfl rfl) rfl rfl hl.1 rfl (lv_room (Nat.le_of_ble_eq_true rfl)) dL_strike_3 ⟨Nat.le_of_ble_eq_true rfl, Nat.le_of_ble_eq_true rfl⟩) (fun _ => rfl) (fun E9 ce9 q9 H locs he hw hce9 hcv hcl => ?_) (fun v u H locs hp hw => ?_)
  · rcases he with ⟨rfl, hq⟩ | ⟨rfl, hq⟩
    · refine lx_catch S.2.2.2.1 [] ⟨0, 6, 9, 13⟩ [⟨0, 6, 12, 24⟩] htb (fun z hz => absurd hz List.not_mem_nil) rfl (by decide) (hts (.classLink RL 13 xIO) (by decide +kernel)) hce9 hcv hcl ?_
      refine lv_astore_n (lv' := [(3, .ref q9), (0, .ref (ad 0)), (1, .int x0), (2, .int x1)]) hx hb dL_strike_9 rfl hl (by decide) rfl (fun ls hl => ?_)
      refine lv_iconst (v := 1) hx hb dL_strike_10 (by decide) ?_
      exact l_ret S.1 S.2.1 hr hlocks hw (Or.inr (Or.inl ⟨rfl, Or.inl ⟨rfl, hq⟩, rfl⟩)) (Nat.le_of_ble_eq_true rfl) (Nat.le_of_ble_eq_true rfl) dL_strike_11
    · refine lx_catch S.2.2.2.1 [⟨0, 6, 9, 13⟩] ⟨0, 6, 12, 24⟩ [] htb (fun z hz => by rw [List.mem_singleton.mp hz]; exact Or.inr ⟨by decide, xIO, hts (.classLink RL 13 xIO) (by decide +kernel), hN.2.1⟩) rfl (by decide) (hts (.classLink RL 24 xIS) (by decide +kernel)) hce9 hcv hcl ?_
      refine lv_astore_n (lv' := [(3, .ref q9), (0, .ref (ad 0)), (1, .int x0), (2, .int x1)]) hx hb dL_strike_12 rfl hl (by decide) rfl (fun ls hl => ?_)
      refine lv_iconst (v := 2) hx hb dL_strike_13 (by decide) ?_
      exact l_ret S.1 S.2.1 hr hlocks hw (Or.inr (Or.inr ⟨rfl, Or.inr ⟨rfl, hq⟩, rfl⟩)) (Nat.le_of_ble_eq_true rfl) (Nat.le_of_ble_eq_true rfl) dL_strike_14
  · obtain ⟨rfl, hp⟩ := hp
    refine W.eq (g2 := F0 m 6 ls []) rfl ?_
    refine lv_goto (tgt := 15) hx hb dL_strike_6 (by decide) ?_
    refine lv_iconst (v := 0) hx hb dL_strike_15 (by decide) ?_
    exact l_ret S.1 S.2.1 hr hlocks hw (Or.inl ⟨rfl, u, hp, rfl⟩) (Nat.le_of_ble_eq_true rfl) (Nat.le_of_ble_eq_true rfl) dL_strike_16
abbrev rmL_advance : Room := { frames := 8, cells := 2, slots := 12, locals := 131 }
set_option maxHeartbeats 1000000 in
set_option maxRecDepth 100000 in
theorem c_L_advance (l : Launch) (hl9 : l.stackTraces = false) (D : va_G) (cy : Nat → ClassId) (o : Nat) (f : Nat → Int64) (ad : Nat → Nat) (n : Nat) (σ : S3) (x0 : Int32) : LM l yL_advance wsL_advance rmL_advance D cy o (f, ad, n, σ) [.ref (ad 0), .int x0, .ref o] (lP2 f ad n σ xIA xIS (e2 xIA xIS (rgI x0 1 100) (x0 ≤ 1800 - σ 18 0 0)) Int32.toInt64 (fun r u => rgI x0 1 100 ∧ x0 ≤ 1800 - σ 18 0 0 ∧ r = (edN σ n x0.toNatClampNeg) 18 0 0 ∧ u = edN σ n x0.toNatClampNeg)) := by
  refine ls_T (cc := cL_advance) (maxL := 4) (hh := [(0, 9, 12, 15), (0, 9, 15, 24)]) (by decide +kernel) rfl (Nat.le_of_ble_eq_true rfl) ?_
  intro p e s m below meth c ls S hr hlocks htb hw hM hZ hN hl
  have S : CallFix p m c cL_advance 4 s [.ref (ad 0), .int x0, .ref o].toArray wsL_advance RL := S
  have hx := S.1
  have hb := S.2.1
  have hts := S.2.2.2.2
  have hl : lv_has ls 4 [(0, .ref (ad 0)), (1, .int x0), (2, .ref o)] := hl
  have htb : c.exceptionTable.toList = [⟨0, 9, 12, 15⟩, ⟨0, 9, 15, 24⟩] := htb
  refine lv_aload_n hx hb dL_advance_0 rfl (lv_at hl 2 rfl) ?_
  refine lv_iconst (v := 0) hx hb dL_advance_1 (by decide) ?_
  refine lv_aload_n hx hb dL_advance_2 rfl (lv_at hl 0 rfl) ?_
  refine lv_iload_n hx hb dL_advance_3 rfl (lv_at hl 1 rfl) ?_
  refine lc_T (fun u : S3 => ((f, ad, n, u) : LSt)) hw (vx_runV (As := [.int x0]) (rest := [.int 0, .ref o]) S (c_X3_advance l hl9 D cy ad n σ x0 _) (cwV 1 S.2.2.2.2 gL_advance_X3_advance rfl rfl rfl (by decide +kernel) ⟨Nat.le_of_ble_eq_true rfl, Nat.le_of_ble_eq_true rfl⟩) (xc_preV (cX_ok _ _) (lw_cX hM hZ) (lw_X hw) (k_0 n) (cE_0 _ _ _ _) rfl rfl) rfl rfl hl.1 rfl (lv_room (Nat.le_of_ble_eq_true rfl)) dL_advance_4 ⟨Nat.le_of_ble_eq_true rfl, Nat.le_of_ble_eq_true rfl⟩) (fun _ => rfl) (fun E9 ce9 q9 H locs he hw hce9 hcv hcl => ?_) (fun v u H locs hp hw => ?_)
  · rcases he with ⟨rfl, hq⟩ | ⟨rfl, hq⟩
    · refine lx_catch S.2.2.2.1 [] ⟨0, 9, 12, 15⟩ [⟨0, 9, 15, 24⟩] htb (fun z hz => absurd hz List.not_mem_nil) rfl (by decide) (hts (.classLink RL 15 xIA) (by decide +kernel)) hce9 hcv hcl ?_
      refine lv_astore_n (lv' := [(3, .ref q9), (0, .ref (ad 0)), (1, .int x0), (2, .ref o)]) hx hb dL_advance_12 rfl hl (by decide) rfl (fun ls hl => ?_)
      refine lv_iconst (v := 1) hx hb dL_advance_13 (by decide) ?_
      exact l_ret S.1 S.2.1 hr hlocks hw (Or.inr (Or.inl ⟨rfl, Or.inl ⟨rfl, hq⟩, rfl⟩)) (Nat.le_of_ble_eq_true rfl) (Nat.le_of_ble_eq_true rfl) dL_advance_14
    · refine lx_catch S.2.2.2.1 [⟨0, 9, 12, 15⟩] ⟨0, 9, 15, 24⟩ [] htb (fun z hz => by rw [List.mem_singleton.mp hz]; exact Or.inr ⟨by decide, xIA, hts (.classLink RL 15 xIA) (by decide +kernel), hN.2.2⟩) rfl (by decide) (hts (.classLink RL 24 xIS) (by decide +kernel)) hce9 hcv hcl ?_
      refine lv_astore_n (lv' := [(3, .ref q9), (0, .ref (ad 0)), (1, .int x0), (2, .ref o)]) hx hb dL_advance_15 rfl hl (by decide) rfl (fun ls hl => ?_)
      refine lv_iconst (v := 2) hx hb dL_advance_16 (by decide) ?_
      exact l_ret S.1 S.2.1 hr hlocks hw (Or.inr (Or.inr ⟨rfl, Or.inr ⟨rfl, hq⟩, rfl⟩)) (Nat.le_of_ble_eq_true rfl) (Nat.le_of_ble_eq_true rfl) dL_advance_17
  · obtain ⟨r, rfl, hp⟩ := hp
    refine W.eq (g2 := F0 m 7 ls [.int (r), .int 0, .ref o]) rfl ?_
    refine lv_i2l (v := (r).toInt64) hx hb dL_advance_7 rfl ?_
    refine l_out hx hb hw dL_advance_8 (fun H locs hw => ?_)
    refine lv_goto (tgt := 18) hx hb dL_advance_9 (by decide) ?_
    refine lv_iconst (v := 0) hx hb dL_advance_18 (by decide) ?_
    exact l_ret S.1 S.2.1 hr hlocks hw (Or.inl ⟨rfl, r, u, hp, rfl⟩) (Nat.le_of_ble_eq_true rfl) (Nat.le_of_ble_eq_true rfl) dL_advance_19
abbrev rmL_fold : Room := { frames := 7, cells := 1, slots := 6, locals := 107 }
set_option maxHeartbeats 1000000 in
set_option maxRecDepth 100000 in
theorem c_L_fold (l : Launch) (hl9 : l.stackTraces = false) (D : va_G) (cy : Nat → ClassId) (o : Nat) (f : Nat → Int64) (ad : Nat → Nat) (n : Nat) (σ : S3) (x0 : Int32) : LM l yL_fold wsL_fold rmL_fold D cy o (f, ad, n, σ) [.ref (ad 0), .int x0, .ref o] (lP1 f ad n σ xIA (e1 xIA (endP σ x0 ∧ ¬ x0 < nI (fo σ))) Int32.toInt64 (fun r u => (endP σ x0 ∧ ¬ x0 < nI (fo σ)) ∧ r = flF σ (fo σ) (x0.toNatClampNeg + 1 - fo σ) ∧ u = su σ 20 0 0 (nI (x0.toNatClampNeg + 1)))) := by
  refine ls_T (cc := cL_fold) (maxL := 4) (hh := [(0, 9, 12, 15)]) (by decide +kernel) rfl (Nat.le_of_ble_eq_true rfl) ?_
  intro p e s m below meth c ls S hr hlocks htb hw hM hZ hN hl
  have S : CallFix p m c cL_fold 4 s [.ref (ad 0), .int x0, .ref o].toArray wsL_fold RL := S
  have hx := S.1
  have hb := S.2.1
  have hts := S.2.2.2.2
  have hl : lv_has ls 4 [(0, .ref (ad 0)), (1, .int x0), (2, .ref o)] := hl
  have htb : c.exceptionTable.toList = [⟨0, 9, 12, 15⟩] := htb
  refine lv_aload_n hx hb dL_fold_0 rfl (lv_at hl 2 rfl) ?_
  refine lv_iconst (v := 0) hx hb dL_fold_1 (by decide) ?_
  refine lv_aload_n hx hb dL_fold_2 rfl (lv_at hl 0 rfl) ?_
  refine lv_iload_n hx hb dL_fold_3 rfl (lv_at hl 1 rfl) ?_
  refine lc_T (fun u : S3 => ((f, ad, n, u) : LSt)) hw (vx_runV (As := [.int x0]) (rest := [.int 0, .ref o]) S (c_X3_fold l hl9 D cy ad n σ x0 _) (cwV 1 S.2.2.2.2 gL_fold_X3_fold rfl rfl rfl (by decide +kernel) ⟨Nat.le_of_ble_eq_true rfl, Nat.le_of_ble_eq_true rfl⟩) (xc_preV (cX_ok _ _) (lw_cX hM hZ) (lw_X hw) (k_0 n) (cE_0 _ _ _ _) rfl rfl) rfl rfl hl.1 rfl (lv_room (Nat.le_of_ble_eq_true rfl)) dL_fold_4 ⟨Nat.le_of_ble_eq_true rfl, Nat.le_of_ble_eq_true rfl⟩) (fun _ => rfl) (fun E9 ce9 q9 H locs he hw hce9 hcv hcl => ?_) (fun v u H locs hp hw => ?_)
  · obtain ⟨rfl, hq⟩ := he
    refine lx_catch S.2.2.2.1 [] ⟨0, 9, 12, 15⟩ [] htb (fun z hz => absurd hz List.not_mem_nil) rfl (by decide) (hts (.classLink RL 15 xIA) (by decide +kernel)) hce9 hcv hcl ?_
    refine lv_astore_n (lv' := [(3, .ref q9), (0, .ref (ad 0)), (1, .int x0), (2, .ref o)]) hx hb dL_fold_12 rfl hl (by decide) rfl (fun ls hl => ?_)
    refine lv_iconst (v := 1) hx hb dL_fold_13 (by decide) ?_
    exact l_ret S.1 S.2.1 hr hlocks hw (Or.inr ⟨rfl, ⟨rfl, hq⟩, rfl⟩) (Nat.le_of_ble_eq_true rfl) (Nat.le_of_ble_eq_true rfl) dL_fold_14
  · obtain ⟨r, rfl, hp⟩ := hp
    refine W.eq (g2 := F0 m 7 ls [.int (r), .int 0, .ref o]) rfl ?_
    refine lv_i2l (v := (r).toInt64) hx hb dL_fold_7 rfl ?_
    refine l_out hx hb hw dL_fold_8 (fun H locs hw => ?_)
    refine lv_goto (tgt := 15) hx hb dL_fold_9 (by decide) ?_
    refine lv_iconst (v := 0) hx hb dL_fold_15 (by decide) ?_
    exact l_ret S.1 S.2.1 hr hlocks hw (Or.inl ⟨rfl, r, u, hp, rfl⟩) (Nat.le_of_ble_eq_true rfl) (Nat.le_of_ble_eq_true rfl) dL_fold_16
abbrev rmL_owed : Room := { frames := 8, cells := 1, slots := 6, locals := 126 }
set_option maxHeartbeats 1000000 in
set_option maxRecDepth 100000 in
theorem c_L_owed (l : Launch) (hl9 : l.stackTraces = false) (D : va_G) (cy : Nat → ClassId) (o : Nat) (f : Nat → Int64) (ad : Nat → Nat) (n : Nat) (σ : S3) (hn : n ≤ 16) (x0 : Int32) : LM l yL_owed wsL_owed rmL_owed D cy o (f, ad, n, σ) [.ref (ad 0), .int x0, .ref o] (lP1 f ad n σ xIO (e1 xIO (inI x0 n)) Int32.toInt64 (fun r u => inI x0 n ∧ u = σ ∧ r = sOwed σ x0.toNatClampNeg)) := by
  refine ls_T (cc := cL_owed) (maxL := 4) (hh := [(0, 9, 12, 13)]) (by decide +kernel) rfl (Nat.le_of_ble_eq_true rfl) ?_
  intro p e s m below meth c ls S hr hlocks htb hw hM hZ hN hl
  have S : CallFix p m c cL_owed 4 s [.ref (ad 0), .int x0, .ref o].toArray wsL_owed RL := S
  have hx := S.1
  have hb := S.2.1
  have hts := S.2.2.2.2
  have hl : lv_has ls 4 [(0, .ref (ad 0)), (1, .int x0), (2, .ref o)] := hl
  have htb : c.exceptionTable.toList = [⟨0, 9, 12, 13⟩] := htb
  refine lv_aload_n hx hb dL_owed_0 rfl (lv_at hl 2 rfl) ?_
  refine lv_iconst (v := 0) hx hb dL_owed_1 (by decide) ?_
  refine lv_aload_n hx hb dL_owed_2 rfl (lv_at hl 0 rfl) ?_
  refine lv_iload_n hx hb dL_owed_3 rfl (lv_at hl 1 rfl) ?_
  refine lc_T (fun u : S3 => ((f, ad, n, u) : LSt)) hw (vx_runV (As := [.int x0]) (rest := [.int 0, .ref o]) S (c_X3_owed l hl9 D cy ad n σ hn x0 _) (cwV 1 S.2.2.2.2 gL_owed_X3_owed rfl rfl rfl (by decide +kernel) ⟨Nat.le_of_ble_eq_true rfl, Nat.le_of_ble_eq_true rfl⟩) (xc_preV (cX_ok _ _) (lw_cX hM hZ) (lw_X hw) (k_0 n) (cE_0 _ _ _ _) rfl rfl) rfl rfl hl.1 rfl (lv_room (Nat.le_of_ble_eq_true rfl)) dL_owed_4 ⟨Nat.le_of_ble_eq_true rfl, Nat.le_of_ble_eq_true rfl⟩) (fun _ => rfl) (fun E9 ce9 q9 H locs he hw hce9 hcv hcl => ?_) (fun v u H locs hp hw => ?_)
  · obtain ⟨rfl, hq⟩ := he
    refine lx_catch S.2.2.2.1 [] ⟨0, 9, 12, 13⟩ [] htb (fun z hz => absurd hz List.not_mem_nil) rfl (by decide) (hts (.classLink RL 13 xIO) (by decide +kernel)) hce9 hcv hcl ?_
    refine lv_astore_n (lv' := [(3, .ref q9), (0, .ref (ad 0)), (1, .int x0), (2, .ref o)]) hx hb dL_owed_12 rfl hl (by decide) rfl (fun ls hl => ?_)
    refine lv_iconst (v := 1) hx hb dL_owed_13 (by decide) ?_
    exact l_ret S.1 S.2.1 hr hlocks hw (Or.inr ⟨rfl, ⟨rfl, hq⟩, rfl⟩) (Nat.le_of_ble_eq_true rfl) (Nat.le_of_ble_eq_true rfl) dL_owed_14
  · obtain ⟨r, rfl, hp⟩ := hp
    refine W.eq (g2 := F0 m 7 ls [.int (r), .int 0, .ref o]) rfl ?_
    refine lv_i2l (v := (r).toInt64) hx hb dL_owed_7 rfl ?_
    refine l_out hx hb hw dL_owed_8 (fun H locs hw => ?_)
    refine lv_goto (tgt := 15) hx hb dL_owed_9 (by decide) ?_
    refine lv_iconst (v := 0) hx hb dL_owed_15 (by decide) ?_
    exact l_ret S.1 S.2.1 hr hlocks hw (Or.inl ⟨rfl, r, u, hp, rfl⟩) (Nat.le_of_ble_eq_true rfl) (Nat.le_of_ble_eq_true rfl) dL_owed_16
abbrev rmL_credit : Room := { frames := 8, cells := 1, slots := 6, locals := 126 }
set_option maxHeartbeats 1000000 in
set_option maxRecDepth 100000 in
theorem c_L_credit (l : Launch) (hl9 : l.stackTraces = false) (D : va_G) (cy : Nat → ClassId) (o : Nat) (f : Nat → Int64) (ad : Nat → Nat) (n : Nat) (σ : S3) (hn : n ≤ 16) (x0 : Int32) : LM l yL_credit wsL_credit rmL_credit D cy o (f, ad, n, σ) [.ref (ad 0), .int x0, .ref o] (lP1 f ad n σ xIO (e1 xIO (inI x0 n)) Int32.toInt64 (fun r u => inI x0 n ∧ u = σ ∧ r = σ 5 x0.toNatClampNeg 0)) := by
  refine ls_T (cc := cL_credit) (maxL := 4) (hh := [(0, 9, 12, 13)]) (by decide +kernel) rfl (Nat.le_of_ble_eq_true rfl) ?_
  intro p e s m below meth c ls S hr hlocks htb hw hM hZ hN hl
  have S : CallFix p m c cL_credit 4 s [.ref (ad 0), .int x0, .ref o].toArray wsL_credit RL := S
  have hx := S.1
  have hb := S.2.1
  have hts := S.2.2.2.2
  have hl : lv_has ls 4 [(0, .ref (ad 0)), (1, .int x0), (2, .ref o)] := hl
  have htb : c.exceptionTable.toList = [⟨0, 9, 12, 13⟩] := htb
  refine lv_aload_n hx hb dL_credit_0 rfl (lv_at hl 2 rfl) ?_
  refine lv_iconst (v := 0) hx hb dL_credit_1 (by decide) ?_
  refine lv_aload_n hx hb dL_credit_2 rfl (lv_at hl 0 rfl) ?_
  refine lv_iload_n hx hb dL_credit_3 rfl (lv_at hl 1 rfl) ?_
  refine lc_T (fun u : S3 => ((f, ad, n, u) : LSt)) hw (vx_runV (As := [.int x0]) (rest := [.int 0, .ref o]) S (c_X3_credit l hl9 D cy ad n σ hn x0 _) (cwV 1 S.2.2.2.2 gL_credit_X3_credit rfl rfl rfl (by decide +kernel) ⟨Nat.le_of_ble_eq_true rfl, Nat.le_of_ble_eq_true rfl⟩) (xc_preV (cX_ok _ _) (lw_cX hM hZ) (lw_X hw) (k_0 n) (cE_0 _ _ _ _) rfl rfl) rfl rfl hl.1 rfl (lv_room (Nat.le_of_ble_eq_true rfl)) dL_credit_4 ⟨Nat.le_of_ble_eq_true rfl, Nat.le_of_ble_eq_true rfl⟩) (fun _ => rfl) (fun E9 ce9 q9 H locs he hw hce9 hcv hcl => ?_) (fun v u H locs hp hw => ?_)
  · obtain ⟨rfl, hq⟩ := he
    refine lx_catch S.2.2.2.1 [] ⟨0, 9, 12, 13⟩ [] htb (fun z hz => absurd hz List.not_mem_nil) rfl (by decide) (hts (.classLink RL 13 xIO) (by decide +kernel)) hce9 hcv hcl ?_
    refine lv_astore_n (lv' := [(3, .ref q9), (0, .ref (ad 0)), (1, .int x0), (2, .ref o)]) hx hb dL_credit_12 rfl hl (by decide) rfl (fun ls hl => ?_)
    refine lv_iconst (v := 1) hx hb dL_credit_13 (by decide) ?_
    exact l_ret S.1 S.2.1 hr hlocks hw (Or.inr ⟨rfl, ⟨rfl, hq⟩, rfl⟩) (Nat.le_of_ble_eq_true rfl) (Nat.le_of_ble_eq_true rfl) dL_credit_14
  · obtain ⟨r, rfl, hp⟩ := hp
    refine W.eq (g2 := F0 m 7 ls [.int (r), .int 0, .ref o]) rfl ?_
    refine lv_i2l (v := (r).toInt64) hx hb dL_credit_7 rfl ?_
    refine l_out hx hb hw dL_credit_8 (fun H locs hw => ?_)
    refine lv_goto (tgt := 15) hx hb dL_credit_9 (by decide) ?_
    refine lv_iconst (v := 0) hx hb dL_credit_15 (by decide) ?_
    exact l_ret S.1 S.2.1 hr hlocks hw (Or.inl ⟨rfl, r, u, hp, rfl⟩) (Nat.le_of_ble_eq_true rfl) (Nat.le_of_ble_eq_true rfl) dL_credit_16
abbrev rmL_laid : Room := { frames := 8, cells := 3, slots := 18, locals := 128 }
set_option maxHeartbeats 1000000 in
set_option maxRecDepth 100000 in
theorem c_L_laid (l : Launch) (hl9 : l.stackTraces = false) (D : va_G) (cy : Nat → ClassId) (o : Nat) (f : Nat → Int64) (ad : Nat → Nat) (n : Nat) (σ : S3) (hn : n ≤ 16) (x0 x1 : Int32) : LM l yL_laid wsL_laid rmL_laid D cy o (f, ad, n, σ) [.ref (ad 0), .int x0, .int x1, .ref o] (lP2 f ad n σ xIO xIS (e2 xIO xIS (inI x0 n ∧ endP σ x1) (¬ x1 < nI (fo σ))) Int32.toInt64 (fun r u => (inI x0 n ∧ endP σ x1) ∧ ¬ x1 < nI (fo σ) ∧ u = σ ∧ r = σ 8 x0.toNatClampNeg x1.toNatClampNeg)) := by
  refine ls_T (cc := cL_laid) (maxL := 5) (hh := [(0, 10, 13, 13), (0, 10, 17, 24)]) (by decide +kernel) rfl (Nat.le_of_ble_eq_true rfl) ?_
  intro p e s m below meth c ls S hr hlocks htb hw hM hZ hN hl
  have S : CallFix p m c cL_laid 5 s [.ref (ad 0), .int x0, .int x1, .ref o].toArray wsL_laid RL := S
  have hx := S.1
  have hb := S.2.1
  have hts := S.2.2.2.2
  have hl : lv_has ls 5 [(0, .ref (ad 0)), (1, .int x0), (2, .int x1), (3, .ref o)] := hl
  have htb : c.exceptionTable.toList = [⟨0, 10, 13, 13⟩, ⟨0, 10, 17, 24⟩] := htb
  refine lv_aload_n hx hb dL_laid_0 rfl (lv_at hl 3 rfl) ?_
  refine lv_iconst (v := 0) hx hb dL_laid_1 (by decide) ?_
  refine lv_aload_n hx hb dL_laid_2 rfl (lv_at hl 0 rfl) ?_
  refine lv_iload_n hx hb dL_laid_3 rfl (lv_at hl 1 rfl) ?_
  refine lv_iload_n hx hb dL_laid_4 rfl (lv_at hl 2 rfl) ?_
  refine lc_T (fun u : S3 => ((f, ad, n, u) : LSt)) hw (vx_runV (As := [.int x0, .int x1]) (rest := [.int 0, .ref o]) S (c_X3_laid l hl9 D cy ad n σ hn x0 x1 _) (cwV 2 S.2.2.2.2 gL_laid_X3_laid rfl rfl rfl (by decide +kernel) ⟨Nat.le_of_ble_eq_true rfl, Nat.le_of_ble_eq_true rfl⟩) (xc_preV (cX_ok _ _) (lw_cX hM hZ) (lw_X hw) (k_0 n) (cE_0 _ _ _ _) rfl rfl) rfl rfl hl.1 rfl (lv_room (Nat.le_of_ble_eq_true rfl)) dL_laid_5 ⟨Nat.le_of_ble_eq_true rfl, Nat.le_of_ble_eq_true rfl⟩) (fun _ => rfl) (fun E9 ce9 q9 H locs he hw hce9 hcv hcl => ?_) (fun v u H locs hp hw => ?_)
  · rcases he with ⟨rfl, hq⟩ | ⟨rfl, hq⟩
    · refine lx_catch S.2.2.2.1 [] ⟨0, 10, 13, 13⟩ [⟨0, 10, 17, 24⟩] htb (fun z hz => absurd hz List.not_mem_nil) rfl (by decide) (hts (.classLink RL 13 xIO) (by decide +kernel)) hce9 hcv hcl ?_
      refine lv_astore (lv' := [(4, .ref q9), (0, .ref (ad 0)), (1, .int x0), (2, .int x1), (3, .ref o)]) hx hb dL_laid_13 hl (by decide) rfl (fun ls hl => ?_)
      refine lv_iconst (v := 1) hx hb dL_laid_15 (by decide) ?_
      exact l_ret S.1 S.2.1 hr hlocks hw (Or.inr (Or.inl ⟨rfl, Or.inl ⟨rfl, hq⟩, rfl⟩)) (Nat.le_of_ble_eq_true rfl) (Nat.le_of_ble_eq_true rfl) dL_laid_16
    · refine lx_catch S.2.2.2.1 [⟨0, 10, 13, 13⟩] ⟨0, 10, 17, 24⟩ [] htb (fun z hz => by rw [List.mem_singleton.mp hz]; exact Or.inr ⟨by decide, xIO, hts (.classLink RL 13 xIO) (by decide +kernel), hN.2.1⟩) rfl (by decide) (hts (.classLink RL 24 xIS) (by decide +kernel)) hce9 hcv hcl ?_
      refine lv_astore (lv' := [(4, .ref q9), (0, .ref (ad 0)), (1, .int x0), (2, .int x1), (3, .ref o)]) hx hb dL_laid_17 hl (by decide) rfl (fun ls hl => ?_)
      refine lv_iconst (v := 2) hx hb dL_laid_19 (by decide) ?_
      exact l_ret S.1 S.2.1 hr hlocks hw (Or.inr (Or.inr ⟨rfl, Or.inr ⟨rfl, hq⟩, rfl⟩)) (Nat.le_of_ble_eq_true rfl) (Nat.le_of_ble_eq_true rfl) dL_laid_20
  · obtain ⟨r, rfl, hp⟩ := hp
    refine W.eq (g2 := F0 m 8 ls [.int (r), .int 0, .ref o]) rfl ?_
    refine lv_i2l (v := (r).toInt64) hx hb dL_laid_8 rfl ?_
    refine l_out hx hb hw dL_laid_9 (fun H locs hw => ?_)
    refine lv_goto (tgt := 21) hx hb dL_laid_10 (by decide) ?_
    refine lv_iconst (v := 0) hx hb dL_laid_21 (by decide) ?_
    exact l_ret S.1 S.2.1 hr hlocks hw (Or.inl ⟨rfl, r, u, hp, rfl⟩) (Nat.le_of_ble_eq_true rfl) (Nat.le_of_ble_eq_true rfl) dL_laid_22
abbrev rmL_laidFor : Room := { frames := 8, cells := 2, slots := 12, locals := 128 }
set_option maxHeartbeats 1000000 in
set_option maxRecDepth 100000 in
theorem c_L_laidFor (l : Launch) (hl9 : l.stackTraces = false) (D : va_G) (cy : Nat → ClassId) (o : Nat) (f : Nat → Int64) (ad : Nat → Nat) (n : Nat) (σ : S3) (x0 x1 : Int32) : LM l yL_laidFor wsL_laidFor rmL_laidFor D cy o (f, ad, n, σ) [.ref (ad 0), .int x0, .int x1, .ref o] (lP1 f ad n σ xIO (e1 xIO (inI x0 4 ∧ endP σ x1)) Int32.toInt64 (fun r u => (inI x0 4 ∧ endP σ x1) ∧ u = σ ∧ r = σ 9 x0.toNatClampNeg x1.toNatClampNeg)) := by
  refine ls_T (cc := cL_laidFor) (maxL := 5) (hh := [(0, 10, 13, 13)]) (by decide +kernel) rfl (Nat.le_of_ble_eq_true rfl) ?_
  intro p e s m below meth c ls S hr hlocks htb hw hM hZ hN hl
  have S : CallFix p m c cL_laidFor 5 s [.ref (ad 0), .int x0, .int x1, .ref o].toArray wsL_laidFor RL := S
  have hx := S.1
  have hb := S.2.1
  have hts := S.2.2.2.2
  have hl : lv_has ls 5 [(0, .ref (ad 0)), (1, .int x0), (2, .int x1), (3, .ref o)] := hl
  have htb : c.exceptionTable.toList = [⟨0, 10, 13, 13⟩] := htb
  refine lv_aload_n hx hb dL_laidFor_0 rfl (lv_at hl 3 rfl) ?_
  refine lv_iconst (v := 0) hx hb dL_laidFor_1 (by decide) ?_
  refine lv_aload_n hx hb dL_laidFor_2 rfl (lv_at hl 0 rfl) ?_
  refine lv_iload_n hx hb dL_laidFor_3 rfl (lv_at hl 1 rfl) ?_
  refine lv_iload_n hx hb dL_laidFor_4 rfl (lv_at hl 2 rfl) ?_
  refine lc_T (fun u : S3 => ((f, ad, n, u) : LSt)) hw (vx_runV (As := [.int x0, .int x1]) (rest := [.int 0, .ref o]) S (c_X3_laidFor l hl9 D cy ad n σ x0 x1 _) (cwV 2 S.2.2.2.2 gL_laidFor_X3_laidFor rfl rfl rfl (by decide +kernel) ⟨Nat.le_of_ble_eq_true rfl, Nat.le_of_ble_eq_true rfl⟩) (xc_preV (cX_ok _ _) (lw_cX hM hZ) (lw_X hw) (k_0 n) (cE_0 _ _ _ _) rfl rfl) rfl rfl hl.1 rfl (lv_room (Nat.le_of_ble_eq_true rfl)) dL_laidFor_5 ⟨Nat.le_of_ble_eq_true rfl, Nat.le_of_ble_eq_true rfl⟩) (fun _ => rfl) (fun E9 ce9 q9 H locs he hw hce9 hcv hcl => ?_) (fun v u H locs hp hw => ?_)
  · obtain ⟨rfl, hq⟩ := he
    refine lx_catch S.2.2.2.1 [] ⟨0, 10, 13, 13⟩ [] htb (fun z hz => absurd hz List.not_mem_nil) rfl (by decide) (hts (.classLink RL 13 xIO) (by decide +kernel)) hce9 hcv hcl ?_
    refine lv_astore (lv' := [(4, .ref q9), (0, .ref (ad 0)), (1, .int x0), (2, .int x1), (3, .ref o)]) hx hb dL_laidFor_13 hl (by decide) rfl (fun ls hl => ?_)
    refine lv_iconst (v := 1) hx hb dL_laidFor_15 (by decide) ?_
    exact l_ret S.1 S.2.1 hr hlocks hw (Or.inr ⟨rfl, ⟨rfl, hq⟩, rfl⟩) (Nat.le_of_ble_eq_true rfl) (Nat.le_of_ble_eq_true rfl) dL_laidFor_16
  · obtain ⟨r, rfl, hp⟩ := hp
    refine W.eq (g2 := F0 m 8 ls [.int (r), .int 0, .ref o]) rfl ?_
    refine lv_i2l (v := (r).toInt64) hx hb dL_laidFor_8 rfl ?_
    refine l_out hx hb hw dL_laidFor_9 (fun H locs hw => ?_)
    refine lv_goto (tgt := 17) hx hb dL_laidFor_10 (by decide) ?_
    refine lv_iconst (v := 0) hx hb dL_laidFor_17 (by decide) ?_
    exact l_ret S.1 S.2.1 hr hlocks hw (Or.inl ⟨rfl, r, u, hp, rfl⟩) (Nat.le_of_ble_eq_true rfl) (Nat.le_of_ble_eq_true rfl) dL_laidFor_18
abbrev rmL_hasStanding : Room := { frames := 8, cells := 1, slots := 6, locals := 126 }
set_option maxHeartbeats 1000000 in
set_option maxRecDepth 100000 in
theorem c_L_hasStanding (l : Launch) (hl9 : l.stackTraces = false) (D : va_G) (cy : Nat → ClassId) (o : Nat) (f : Nat → Int64) (ad : Nat → Nat) (n : Nat) (σ : S3) (hn : n ≤ 16) (x0 : Int32) : LM l yL_hasStanding wsL_hasStanding rmL_hasStanding D cy o (f, ad, n, σ) [.ref (ad 0), .int x0, .ref o] (lP1 f ad n σ xIO (e1 xIO (inI x0 n)) z64 (fun r u => inI x0 n ∧ u = σ ∧ r = stI σ x0.toNatClampNeg (σ 18 0 0))) := by
  refine ls_T (cc := cL_hasStanding) (maxL := 4) (hh := [(0, 16, 19, 13)]) (by decide +kernel) rfl (Nat.le_of_ble_eq_true rfl) ?_
  intro p e s m below meth c ls S hr hlocks htb hw hM hZ hN hl
  have S : CallFix p m c cL_hasStanding 4 s [.ref (ad 0), .int x0, .ref o].toArray wsL_hasStanding RL := S
  have hx := S.1
  have hb := S.2.1
  have hts := S.2.2.2.2
  have hl : lv_has ls 4 [(0, .ref (ad 0)), (1, .int x0), (2, .ref o)] := hl
  have htb : c.exceptionTable.toList = [⟨0, 16, 19, 13⟩] := htb
  refine lv_aload_n hx hb dL_hasStanding_0 rfl (lv_at hl 2 rfl) ?_
  refine lv_iconst (v := 0) hx hb dL_hasStanding_1 (by decide) ?_
  refine lv_aload_n hx hb dL_hasStanding_2 rfl (lv_at hl 0 rfl) ?_
  refine lv_iload_n hx hb dL_hasStanding_3 rfl (lv_at hl 1 rfl) ?_
  refine lc_T (fun u : S3 => ((f, ad, n, u) : LSt)) hw (vx_runV (As := [.int x0]) (rest := [.int 0, .ref o]) S (c_X3_hasStanding l hl9 D cy ad n σ hn x0 _) (cwV 1 S.2.2.2.2 gL_hasStanding_X3_hasStanding rfl rfl rfl (by decide +kernel) ⟨Nat.le_of_ble_eq_true rfl, Nat.le_of_ble_eq_true rfl⟩) (xc_preV (cX_ok _ _) (lw_cX hM hZ) (lw_X hw) (k_0 n) (cE_0 _ _ _ _) rfl rfl) rfl rfl hl.1 rfl (lv_room (Nat.le_of_ble_eq_true rfl)) dL_hasStanding_4 ⟨Nat.le_of_ble_eq_true rfl, Nat.le_of_ble_eq_true rfl⟩) (fun _ => rfl) (fun E9 ce9 q9 H locs he hw hce9 hcv hcl => ?_) (fun v u H locs hp hw => ?_)
  · obtain ⟨rfl, hq⟩ := he
    refine lx_catch S.2.2.2.1 [] ⟨0, 16, 19, 13⟩ [] htb (fun z hz => absurd hz List.not_mem_nil) rfl (by decide) (hts (.classLink RL 13 xIO) (by decide +kernel)) hce9 hcv hcl ?_
    refine lv_astore_n (lv' := [(3, .ref q9), (0, .ref (ad 0)), (1, .int x0), (2, .ref o)]) hx hb dL_hasStanding_19 rfl hl (by decide) rfl (fun ls hl => ?_)
    refine lv_iconst (v := 1) hx hb dL_hasStanding_20 (by decide) ?_
    exact l_ret S.1 S.2.1 hr hlocks hw (Or.inr ⟨rfl, ⟨rfl, hq⟩, rfl⟩) (Nat.le_of_ble_eq_true rfl) (Nat.le_of_ble_eq_true rfl) dL_hasStanding_21
  · obtain ⟨r, rfl, hp⟩ := hp
    refine W.eq (g2 := F0 m 7 ls [.int (r), .int 0, .ref o]) rfl ?_
    refine lv_if_eq (tgt := 14) hx hb dL_hasStanding_7 (by decide) (fun c1 => ?_) (fun c1 => ?_)
    · refine lv_lconst (v := 0) hx hb dL_hasStanding_14 (by decide) ?_
      refine l_out hx hb hw dL_hasStanding_15 (fun H locs hw => ?_)
      refine lv_goto (tgt := 22) hx hb dL_hasStanding_16 (by decide) ?_
      refine lv_iconst (v := 0) hx hb dL_hasStanding_22 (by decide) ?_
      exact l_ret S.1 S.2.1 hr hlocks hw (Or.inl ⟨rfl, r, u, hp, by rw [show z64 r = 0 from if_pos c1]⟩) (Nat.le_of_ble_eq_true rfl) (Nat.le_of_ble_eq_true rfl) dL_hasStanding_23
    · refine lv_lconst (v := 1) hx hb dL_hasStanding_10 (by decide) ?_
      refine lv_goto (tgt := 15) hx hb dL_hasStanding_11 (by decide) ?_
      refine l_out hx hb hw dL_hasStanding_15 (fun H locs hw => ?_)
      refine lv_goto (tgt := 22) hx hb dL_hasStanding_16 (by decide) ?_
      refine lv_iconst (v := 0) hx hb dL_hasStanding_22 (by decide) ?_
      exact l_ret S.1 S.2.1 hr hlocks hw (Or.inl ⟨rfl, r, u, hp, by rw [show z64 r = 1 from if_neg c1]⟩) (Nat.le_of_ble_eq_true rfl) (Nat.le_of_ble_eq_true rfl) dL_hasStanding_23
abbrev rmL_strikePay : Room := { frames := 8, cells := 1, slots := 6, locals := 126 }
set_option maxHeartbeats 1000000 in
set_option maxRecDepth 100000 in
theorem c_L_strikePay (l : Launch) (hl9 : l.stackTraces = false) (D : va_G) (cy : Nat → ClassId) (o : Nat) (f : Nat → Int64) (ad : Nat → Nat) (n : Nat) (σ : S3) (hn : n ≤ 16) (x0 : Int32) : LM l yL_strikePay wsL_strikePay rmL_strikePay D cy o (f, ad, n, σ) [.ref (ad 0), .int x0, .ref o] (lP1 f ad n σ xIO (e1 xIO (inI x0 n)) Int32.toInt64 (fun r u => inI x0 n ∧ u = σ ∧ r = σ 6 x0.toNatClampNeg 0)) := by
  refine ls_T (cc := cL_strikePay) (maxL := 4) (hh := [(0, 9, 12, 13)]) (by decide +kernel) rfl (Nat.le_of_ble_eq_true rfl) ?_
  intro p e s m below meth c ls S hr hlocks htb hw hM hZ hN hl
  have S : CallFix p m c cL_strikePay 4 s [.ref (ad 0), .int x0, .ref o].toArray wsL_strikePay RL := S
  have hx := S.1
  have hb := S.2.1
  have hts := S.2.2.2.2
  have hl : lv_has ls 4 [(0, .ref (ad 0)), (1, .int x0), (2, .ref o)] := hl
  have htb : c.exceptionTable.toList = [⟨0, 9, 12, 13⟩] := htb
  refine lv_aload_n hx hb dL_strikePay_0 rfl (lv_at hl 2 rfl) ?_
  refine lv_iconst (v := 0) hx hb dL_strikePay_1 (by decide) ?_
  refine lv_aload_n hx hb dL_strikePay_2 rfl (lv_at hl 0 rfl) ?_
  refine lv_iload_n hx hb dL_strikePay_3 rfl (lv_at hl 1 rfl) ?_
  refine lc_T (fun u : S3 => ((f, ad, n, u) : LSt)) hw (vx_runV (As := [.int x0]) (rest := [.int 0, .ref o]) S (c_X3_strikePay l hl9 D cy ad n σ hn x0 _) (cwV 1 S.2.2.2.2 gL_strikePay_X3_strikePay rfl rfl rfl (by decide +kernel) ⟨Nat.le_of_ble_eq_true rfl, Nat.le_of_ble_eq_true rfl⟩) (xc_preV (cX_ok _ _) (lw_cX hM hZ) (lw_X hw) (k_0 n) (cE_0 _ _ _ _) rfl rfl) rfl rfl hl.1 rfl (lv_room (Nat.le_of_ble_eq_true rfl)) dL_strikePay_4 ⟨Nat.le_of_ble_eq_true rfl, Nat.le_of_ble_eq_true rfl⟩) (fun _ => rfl) (fun E9 ce9 q9 H locs he hw hce9 hcv hcl => ?_) (fun v u H locs hp hw => ?_)
  · obtain ⟨rfl, hq⟩ := he
    refine lx_catch S.2.2.2.1 [] ⟨0, 9, 12, 13⟩ [] htb (fun z hz => absurd hz List.not_mem_nil) rfl (by decide) (hts (.classLink RL 13 xIO) (by decide +kernel)) hce9 hcv hcl ?_
    refine lv_astore_n (lv' := [(3, .ref q9), (0, .ref (ad 0)), (1, .int x0), (2, .ref o)]) hx hb dL_strikePay_12 rfl hl (by decide) rfl (fun ls hl => ?_)
    refine lv_iconst (v := 1) hx hb dL_strikePay_13 (by decide) ?_
    exact l_ret S.1 S.2.1 hr hlocks hw (Or.inr ⟨rfl, ⟨rfl, hq⟩, rfl⟩) (Nat.le_of_ble_eq_true rfl) (Nat.le_of_ble_eq_true rfl) dL_strikePay_14
  · obtain ⟨r, rfl, hp⟩ := hp
    refine W.eq (g2 := F0 m 7 ls [.int (r), .int 0, .ref o]) rfl ?_
    refine lv_i2l (v := (r).toInt64) hx hb dL_strikePay_7 rfl ?_
    refine l_out hx hb hw dL_strikePay_8 (fun H locs hw => ?_)
    refine lv_goto (tgt := 15) hx hb dL_strikePay_9 (by decide) ?_
    refine lv_iconst (v := 0) hx hb dL_strikePay_15 (by decide) ?_
    exact l_ret S.1 S.2.1 hr hlocks hw (Or.inl ⟨rfl, r, u, hp, rfl⟩) (Nat.le_of_ble_eq_true rfl) (Nat.le_of_ble_eq_true rfl) dL_strikePay_16
abbrev rmL_delegates : Room := { frames := 8, cells := 1, slots := 6, locals := 126 }
set_option maxHeartbeats 1000000 in
set_option maxRecDepth 100000 in
theorem c_L_delegates (l : Launch) (hl9 : l.stackTraces = false) (D : va_G) (cy : Nat → ClassId) (o : Nat) (f : Nat → Int64) (ad : Nat → Nat) (n : Nat) (σ : S3) (x0 : Int32) : LM l yL_delegates wsL_delegates rmL_delegates D cy o (f, ad, n, σ) [.ref (ad 0), .int x0, .ref o] (lP1 f ad n σ xIO (e1 xIO (inI x0 4)) Int32.toInt64 (fun r u => inI x0 4 ∧ u = σ ∧ r = σ 16 x0.toNatClampNeg 0)) := by
  refine ls_T (cc := cL_delegates) (maxL := 4) (hh := [(0, 9, 12, 13)]) (by decide +kernel) rfl (Nat.le_of_ble_eq_true rfl) ?_
  intro p e s m below meth c ls S hr hlocks htb hw hM hZ hN hl
  have S : CallFix p m c cL_delegates 4 s [.ref (ad 0), .int x0, .ref o].toArray wsL_delegates RL := S
  have hx := S.1
  have hb := S.2.1
  have hts := S.2.2.2.2
  have hl : lv_has ls 4 [(0, .ref (ad 0)), (1, .int x0), (2, .ref o)] := hl
  have htb : c.exceptionTable.toList = [⟨0, 9, 12, 13⟩] := htb
  refine lv_aload_n hx hb dL_delegates_0 rfl (lv_at hl 2 rfl) ?_
  refine lv_iconst (v := 0) hx hb dL_delegates_1 (by decide) ?_
  refine lv_aload_n hx hb dL_delegates_2 rfl (lv_at hl 0 rfl) ?_
  refine lv_iload_n hx hb dL_delegates_3 rfl (lv_at hl 1 rfl) ?_
  refine lc_T (fun u : S3 => ((f, ad, n, u) : LSt)) hw (vx_runV (As := [.int x0]) (rest := [.int 0, .ref o]) S (c_X3_delegates l hl9 D cy ad n σ x0 _) (cwV 1 S.2.2.2.2 gL_delegates_X3_delegates rfl rfl rfl (by decide +kernel) ⟨Nat.le_of_ble_eq_true rfl, Nat.le_of_ble_eq_true rfl⟩) (xc_preV (cX_ok _ _) (lw_cX hM hZ) (lw_X hw) (k_0 n) (cE_0 _ _ _ _) rfl rfl) rfl rfl hl.1 rfl (lv_room (Nat.le_of_ble_eq_true rfl)) dL_delegates_4 ⟨Nat.le_of_ble_eq_true rfl, Nat.le_of_ble_eq_true rfl⟩) (fun _ => rfl) (fun E9 ce9 q9 H locs he hw hce9 hcv hcl => ?_) (fun v u H locs hp hw => ?_)
  · obtain ⟨rfl, hq⟩ := he
    refine lx_catch S.2.2.2.1 [] ⟨0, 9, 12, 13⟩ [] htb (fun z hz => absurd hz List.not_mem_nil) rfl (by decide) (hts (.classLink RL 13 xIO) (by decide +kernel)) hce9 hcv hcl ?_
    refine lv_astore_n (lv' := [(3, .ref q9), (0, .ref (ad 0)), (1, .int x0), (2, .ref o)]) hx hb dL_delegates_12 rfl hl (by decide) rfl (fun ls hl => ?_)
    refine lv_iconst (v := 1) hx hb dL_delegates_13 (by decide) ?_
    exact l_ret S.1 S.2.1 hr hlocks hw (Or.inr ⟨rfl, ⟨rfl, hq⟩, rfl⟩) (Nat.le_of_ble_eq_true rfl) (Nat.le_of_ble_eq_true rfl) dL_delegates_14
  · obtain ⟨r, rfl, hp⟩ := hp
    refine W.eq (g2 := F0 m 7 ls [.int (r), .int 0, .ref o]) rfl ?_
    refine lv_i2l (v := (r).toInt64) hx hb dL_delegates_7 rfl ?_
    refine l_out hx hb hw dL_delegates_8 (fun H locs hw => ?_)
    refine lv_goto (tgt := 15) hx hb dL_delegates_9 (by decide) ?_
    refine lv_iconst (v := 0) hx hb dL_delegates_15 (by decide) ?_
    exact l_ret S.1 S.2.1 hr hlocks hw (Or.inl ⟨rfl, r, u, hp, rfl⟩) (Nat.le_of_ble_eq_true rfl) (Nat.le_of_ble_eq_true rfl) dL_delegates_16
abbrev rmL_isOut : Room := { frames := 8, cells := 1, slots := 6, locals := 126 }
set_option maxHeartbeats 1000000 in
set_option maxRecDepth 100000 in
theorem c_L_isOut (l : Launch) (hl9 : l.stackTraces = false) (D : va_G) (cy : Nat → ClassId) (o : Nat) (f : Nat → Int64) (ad : Nat → Nat) (n : Nat) (σ : S3) (h14 : ∀ b, b < 4 → σ 14 b 0 = 0 ∨ σ 14 b 0 = 1) (x0 : Int32) : LM l yL_isOut wsL_isOut rmL_isOut D cy o (f, ad, n, σ) [.ref (ad 0), .int x0, .ref o] (lP1 f ad n σ xIO (e1 xIO (inI x0 4)) z64 (fun r u => inI x0 4 ∧ u = σ ∧ r = σ 14 x0.toNatClampNeg 0)) := by
  refine ls_T (cc := cL_isOut) (maxL := 4) (hh := [(0, 16, 19, 13)]) (by decide +kernel) rfl (Nat.le_of_ble_eq_true rfl) ?_
  intro p e s m below meth c ls S hr hlocks htb hw hM hZ hN hl
  have S : CallFix p m c cL_isOut 4 s [.ref (ad 0), .int x0, .ref o].toArray wsL_isOut RL := S
  have hx := S.1
  have hb := S.2.1
  have hts := S.2.2.2.2
  have hl : lv_has ls 4 [(0, .ref (ad 0)), (1, .int x0), (2, .ref o)] := hl
  have htb : c.exceptionTable.toList = [⟨0, 16, 19, 13⟩] := htb
  refine lv_aload_n hx hb dL_isOut_0 rfl (lv_at hl 2 rfl) ?_
  refine lv_iconst (v := 0) hx hb dL_isOut_1 (by decide) ?_
  refine lv_aload_n hx hb dL_isOut_2 rfl (lv_at hl 0 rfl) ?_
  refine lv_iload_n hx hb dL_isOut_3 rfl (lv_at hl 1 rfl) ?_
  refine lc_T (fun u : S3 => ((f, ad, n, u) : LSt)) hw (vx_runV (As := [.int x0]) (rest := [.int 0, .ref o]) S (c_X3_isOut l hl9 D cy ad n σ h14 x0 _) (cwV 1 S.2.2.2.2 gL_isOut_X3_isOut rfl rfl rfl (by decide +kernel) ⟨Nat.le_of_ble_eq_true rfl, Nat.le_of_ble_eq_true rfl⟩) (xc_preV (cX_ok _ _) (lw_cX hM hZ) (lw_X hw) (k_0 n) (cE_0 _ _ _ _) rfl rfl) rfl rfl hl.1 rfl (lv_room (Nat.le_of_ble_eq_true rfl)) dL_isOut_4 ⟨Nat.le_of_ble_eq_true rfl, Nat.le_of_ble_eq_true rfl⟩) (fun _ => rfl) (fun E9 ce9 q9 H locs he hw hce9 hcv hcl => ?_) (fun v u H locs hp hw => ?_)
  · obtain ⟨rfl, hq⟩ := he
    refine lx_catch S.2.2.2.1 [] ⟨0, 16, 19, 13⟩ [] htb (fun z hz => absurd hz List.not_mem_nil) rfl (by decide) (hts (.classLink RL 13 xIO) (by decide +kernel)) hce9 hcv hcl ?_
    refine lv_astore_n (lv' := [(3, .ref q9), (0, .ref (ad 0)), (1, .int x0), (2, .ref o)]) hx hb dL_isOut_19 rfl hl (by decide) rfl (fun ls hl => ?_)
    refine lv_iconst (v := 1) hx hb dL_isOut_20 (by decide) ?_
    exact l_ret S.1 S.2.1 hr hlocks hw (Or.inr ⟨rfl, ⟨rfl, hq⟩, rfl⟩) (Nat.le_of_ble_eq_true rfl) (Nat.le_of_ble_eq_true rfl) dL_isOut_21
  · obtain ⟨r, rfl, hp⟩ := hp
    refine W.eq (g2 := F0 m 7 ls [.int (r), .int 0, .ref o]) rfl ?_
    refine lv_if_eq (tgt := 14) hx hb dL_isOut_7 (by decide) (fun c1 => ?_) (fun c1 => ?_)
    · refine lv_lconst (v := 0) hx hb dL_isOut_14 (by decide) ?_
      refine l_out hx hb hw dL_isOut_15 (fun H locs hw => ?_)
      refine lv_goto (tgt := 22) hx hb dL_isOut_16 (by decide) ?_
      refine lv_iconst (v := 0) hx hb dL_isOut_22 (by decide) ?_
      exact l_ret S.1 S.2.1 hr hlocks hw (Or.inl ⟨rfl, r, u, hp, by rw [show z64 r = 0 from if_pos c1]⟩) (Nat.le_of_ble_eq_true rfl) (Nat.le_of_ble_eq_true rfl) dL_isOut_23
    · refine lv_lconst (v := 1) hx hb dL_isOut_10 (by decide) ?_
      refine lv_goto (tgt := 15) hx hb dL_isOut_11 (by decide) ?_
      refine l_out hx hb hw dL_isOut_15 (fun H locs hw => ?_)
      refine lv_goto (tgt := 22) hx hb dL_isOut_16 (by decide) ?_
      refine lv_iconst (v := 0) hx hb dL_isOut_22 (by decide) ?_
      exact l_ret S.1 S.2.1 hr hlocks hw (Or.inl ⟨rfl, r, u, hp, by rw [show z64 r = 1 from if_neg c1]⟩) (Nat.le_of_ble_eq_true rfl) (Nat.le_of_ble_eq_true rfl) dL_isOut_23
