/-! ===== the calls of the law, one by one ===== -/
abbrev SS_setDues (f : Nat → Int64) (ad : Nat → Nat) (n : Nat) (σ μ : S3) (J : LSt → S3 → Prop) : Prop := ∀ (x0 x1 : Int32), SimI (lP2 f ad n σ xIO xIA (e2 xIO xIA (inI x0 3) (rgI x1 0 100000)) Int32.toInt64 (fun r u => inI x0 3 ∧ rgI x1 0 100000 ∧ r = σ 0 x0.toNatClampNeg 0 ∧ u = su σ 0 x0.toNatClampNeg 0 x1)) (mP2 μ (inI x0 3) (rgI x1 0 100000) (th0 μ 0 x0.toNatClampNeg 0) (su (th0 μ) 0 x0.toNatClampNeg 0 x1)) Int32.toInt64 J
set_option maxHeartbeats 2000000 in
set_option maxRecDepth 100000 in
theorem law_setDues {p : Program} {l : Launch} {e : Env} {s : State} {m : MethodId} {below : List Frame} {meth : Method} {c : Code} {D : va_G} {cy : Nat → ClassId} {o : Nat} {am : Nat → Nat} {b L : Nat} {xs : Nat → Int32} {Q : State → Prop} {cells slots : Nat} (hl9 : l.stackTraces = false) (C0 : lw_At p s m meth c b L xs) (hg : GX s) {f : Nat → Int64} {ad : Nat → Nat} {n : Nat} {σ μ : S3} {H : Heap} {locs : List Loc} (hw : GW D cy s o am (f, ad, n, σ) μ H locs) {i : Nat} (hi : i + 4 ≤ L) (hL : L ≤ 2048) (hc : cells + 8 ≤ 601024) (hs : slots + 160 ≤ 7293034) (J : LSt → S3 → Prop)  (hsim : SS_setDues f ad n σ μ J) {ls : Array Slot} (hl : lv_has ls 7 [(0, .ref b), (1, .ref (ad 0)), (2, .ref (am 0)), (3, .ref o), (4, .int (nI i))]) (kk : ∀ (u1 : LSt) (μ1 : S3) (H1 : Heap) (locs1 : List Loc) (ls1 : Array Slot), J u1 μ1 → GW D cy s o am u1 μ1 H1 locs1 → lv_has ls1 7 [(0, .ref b), (1, .ref (ad 0)), (2, .ref (am 0)), (3, .ref o), (4, .int (nI i))] → W p l e room_1 s m #[Value.ref b] below meth c H1 locs1 (cells + 8) (slots + 160) Q (F0 m 1502 ls1 [])) : W p l e room_1 s m #[Value.ref b] below meth c H locs cells slots Q (F0 m 144 ls []) := by
  obtain ⟨hx, hb, hr, hml, hown, hts0, hX, hbl, hlocks, hgv⟩ := C0
  have hts : ∀ w ∈ wsL_law, w.before #[Value.ref b] s = true := fun w h => hts0 w (wsL_law_in w h)
  have S : CallFix p m c cL_law 7 s #[Value.ref b] wsL_law RL := ⟨hx, hb, hml, hown, hts⟩
  have hbA : ¬ lA9 s b := Nat.not_le.mpr hbl
  obtain ⟨y1, ey1⟩ : ∃ y, y = xs (nI (i + 1)).toNatClampNeg := ⟨_, rfl⟩
  obtain ⟨y2, ey2⟩ : ∃ y, y = xs (nI (i + 2)).toNatClampNeg := ⟨_, rfl⟩
  refine lv_aload_n hx hb dL_law_144 rfl (lv_at hl 1 rfl) ?_
  refine lv_aload_n hx hb dL_law_145 rfl (lv_at hl 0 rfl) ?_
  refine lv_iload hx hb dL_law_146 (lv_at hl 4 rfl) ?_
  refine lv_iconst (v := 1) hx hb dL_law_148 (by decide) ?_
  refine lv_iadd hx hb dL_law_149 ?_
  rw [show nI i + 1 = nI (i + 1) from nI_add i 1]
  refine va_sld hx hb hX hbl hbA hw.2.2.2 (vp_in_nI (by omega) (by omega)) dL_law_150 ?_
  rw [← ey1]
  refine lv_aload_n hx hb dL_law_151 rfl (lv_at hl 0 rfl) ?_
  refine lv_iload hx hb dL_law_152 (lv_at hl 4 rfl) ?_
  refine lv_iconst (v := 2) hx hb dL_law_154 (by decide) ?_
  refine lv_iadd hx hb dL_law_155 ?_
  rw [show nI i + 2 = nI (i + 2) from nI_add i 2]
  refine va_sld hx hb hX hbl hbA hw.2.2.2 (vp_in_nI (by omega) (by omega)) dL_law_156 ?_
  rw [← ey2]
  refine lv_aload_n hx hb dL_law_157 rfl (lv_at hl 3 rfl) ?_
  refine gl_T hw (vx_runSX (As := [.ref (ad 0), .int y1, .int y2, .ref o]) (rest := []) S (c_L_setDues l hl9 D cy o f ad n σ y1 y2 _) (vx_cwSW 4 hts gL_law_L_setDues rfl rfl rfl (by decide +kernel) ⟨Nat.le_of_ble_eq_true rfl, Nat.le_of_ble_eq_true rfl⟩) (gl_preS hw hg _) rfl rfl hl.1 rfl (lv_room (Nat.le_of_ble_eq_true rfl)) dL_law_158 ⟨k_1l hc (Nat.le_of_ble_eq_true rfl), k_1l hs (Nat.le_of_ble_eq_true rfl)⟩) (fun r1 u1 H locs hp1 hw => ?_)
  refine lv_istore (lv' := [(5, .int r1), (0, .ref b), (1, .ref (ad 0)), (2, .ref (am 0)), (3, .ref o), (4, .int (nI i))]) hx hb dL_law_161 hl (by decide) rfl (fun ls hl => ?_)
  refine lv_aload_n hx hb dL_law_163 rfl (lv_at hl 3 rfl) ?_
  refine lv_aload_n hx hb dL_law_164 rfl (lv_at hl 1 rfl) ?_
  refine lv_iload hx hb dL_law_165 (lv_at hl 5 rfl) ?_
  refine lv_iconst (v := 1) hx hb dL_law_167 (by decide) ?_
  refine lv_iadd hx hb dL_law_168 ?_
  rw [show nI i + 1 = nI (i + 1) from nI_add i 1]
  refine va_sld hx hb hX hbl hbA hw.2.2.2 (vp_in_nI (by omega) (by omega)) dL_law_169 ?_
  rw [← ey1]
  refine lv_aload_n hx hb dL_law_170 rfl (lv_at hl 1 rfl) ?_
  refine lv_iload hx hb dL_law_171 (lv_at hl 5 rfl) ?_
  refine lv_iconst (v := 2) hx hb dL_law_173 (by decide) ?_
  refine lv_iadd hx hb dL_law_174 ?_
  rw [show nI i + 2 = nI (i + 2) from nI_add i 2]
  refine va_sld hx hb hX hbl hbA hw.2.2.2 (vp_in_nI (by omega) (by omega)) dL_law_175 ?_
  rw [← ey2]
  refine gm_T hw (va_runV (As := [.int y1, .int y2]) (rest := []) S (c_X4_setDues l D cy am μ y1 y2 _) (cwV 2 hts gL_law_X4_setDues rfl rfl rfl (by decide +kernel) ⟨Nat.le_of_ble_eq_true rfl, Nat.le_of_ble_eq_true rfl⟩) (gm_preV hw _) rfl rfl hl.1 rfl (lv_room (Nat.le_of_ble_eq_true rfl)) dL_law_176 ⟨k_2l hc (Nat.le_of_ble_eq_true rfl), k_2l hs (Nat.le_of_ble_eq_true rfl)⟩) (fun v μ1 H locs hp2 hw => ?_)
  obtain ⟨b1, rfl, hp2⟩ := hp2
  refine W.eq (g2 := F0 m 179 ls [.int b1]) rfl ?_
  have hs9 := hsim y1 y2 r1 u1 b1 μ1 hp1 hp2
  refine lv_istore (lv' := [(6, .int b1), (5, .int r1), (0, .ref b), (1, .ref (ad 0)), (2, .ref (am 0)), (3, .ref o), (4, .int (nI i))]) hx hb dL_law_179 hl (by decide) rfl (fun ls hl => ?_)
  refine lv_aload_n hx hb dL_law_181 rfl (lv_at hl 4 rfl) ?_
  refine gm_T hw (va_runV (As := []) (rest := []) S (c_X4_thrown l D cy am μ1 _) (cwV 0 hts gL_law_X4_thrown rfl rfl rfl (by decide +kernel) ⟨Nat.le_of_ble_eq_true rfl, Nat.le_of_ble_eq_true rfl⟩) (gm_preV hw _) rfl rfl hl.1 rfl (lv_room (Nat.le_of_ble_eq_true rfl)) dL_law_182 ⟨k_3l hc (Nat.le_of_ble_eq_true rfl), k_3l hs (Nat.le_of_ble_eq_true rfl)⟩) (fun v9 μ9 H locs hp3 hw => ?_)
  obtain ⟨r2, rfl, hu9, hr2⟩ := hp3
  rw [hu9] at hw
  refine W.eq (g2 := F0 m 185 ls [.int r2]) rfl ?_
  refine lv_iload hx hb dL_law_185 (lv_at hl 1 rfl) ?_
  refine lv_icmp_eq (tgt := 192) hx hb dL_law_187 (by decide) (fun _ => ?_) (fun c9 => absurd (hr2.trans hs9.1) c9)
  refine lv_iload hx hb dL_law_192 (lv_at hl 1 rfl) ?_
  refine lv_if_ne (tgt := 209) hx hb dL_law_194 (by decide) (fun c8 => ?_) (fun c8 => ?_)
  · refine lv_goto (tgt := 1502) hx hb dL_law_209 (by decide) ?_
    refine W.widen (k := cells + 8) (n := slots + 160) (k_3e (Nat.le_of_ble_eq_true rfl)) (k_3e (Nat.le_of_ble_eq_true rfl)) ?_
    exact kk _ _ _ _ _ hs9.2.2 hw (lv_sub hl [2, 3, 4, 5, 6] rfl)
  · refine lv_aload_n hx hb dL_law_197 rfl (lv_at hl 5 rfl) ?_
    refine lv_iconst (v := 0) hx hb dL_law_198 (by decide) ?_
    refine g_out hx hb hw dL_law_199 ?_
    refine lv_iload hx hb dL_law_200 (lv_at hl 0 rfl) ?_
    refine lv_i2l (v := b1.toInt64) hx hb dL_law_202 rfl ?_
    refine W.lcmp hx hb dL_law_203 ?_
    rw [show lg_cmp (u1.1 (0 : Int32).toNatClampNeg) (b1.toInt64) = 0 by rw [(hs9.2.1 c8)]; exact lg_self _]
    refine lv_if_eq (tgt := 209) hx hb dL_law_204 (by decide) (fun _ => ?_) (fun h => absurd rfl h)
    refine lv_goto (tgt := 1502) hx hb dL_law_209 (by decide) ?_
    refine W.widen (k := cells + 8) (n := slots + 160) (k_3e (Nat.le_of_ble_eq_true rfl)) (k_3e (Nat.le_of_ble_eq_true rfl)) ?_
    exact kk _ _ _ _ _ hs9.2.2 hw (lv_sub hl [2, 3, 4, 5, 6] rfl)
abbrev SS_setStrikePay (f : Nat → Int64) (ad : Nat → Nat) (n : Nat) (σ μ : S3) (J : LSt → S3 → Prop) : Prop := ∀ (x0 : Int32), SimI (lP1 f ad n σ xIA (e1 xIA (rgI x0 0 100000)) Int32.toInt64 (fun r u => rgI x0 0 100000 ∧ r = σ 17 0 0 ∧ u = su σ 17 0 0 x0)) (mP1 μ (rgI x0 0 100000) (th0 μ 17 0 0) (su (th0 μ) 17 0 0 x0)) Int32.toInt64 J
set_option maxHeartbeats 2000000 in
set_option maxRecDepth 100000 in
theorem law_setStrikePay {p : Program} {l : Launch} {e : Env} {s : State} {m : MethodId} {below : List Frame} {meth : Method} {c : Code} {D : va_G} {cy : Nat → ClassId} {o : Nat} {am : Nat → Nat} {b L : Nat} {xs : Nat → Int32} {Q : State → Prop} {cells slots : Nat} (hl9 : l.stackTraces = false) (C0 : lw_At p s m meth c b L xs) (hg : GX s) {f : Nat → Int64} {ad : Nat → Nat} {n : Nat} {σ μ : S3} {H : Heap} {locs : List Loc} (hw : GW D cy s o am (f, ad, n, σ) μ H locs) {i : Nat} (hi : i + 4 ≤ L) (hL : L ≤ 2048) (hc : cells + 8 ≤ 601024) (hs : slots + 160 ≤ 7293034) (J : LSt → S3 → Prop)  (hsim : SS_setStrikePay f ad n σ μ J) {ls : Array Slot} (hl : lv_has ls 7 [(0, .ref b), (1, .ref (ad 0)), (2, .ref (am 0)), (3, .ref o), (4, .int (nI i))]) (kk : ∀ (u1 : LSt) (μ1 : S3) (H1 : Heap) (locs1 : List Loc) (ls1 : Array Slot), J u1 μ1 → GW D cy s o am u1 μ1 H1 locs1 → lv_has ls1 7 [(0, .ref b), (1, .ref (ad 0)), (2, .ref (am 0)), (3, .ref o), (4, .int (nI i))] → W p l e room_1 s m #[Value.ref b] below meth c H1 locs1 (cells + 8) (slots + 160) Q (F0 m 1502 ls1 [])) : W p l e room_1 s m #[Value.ref b] below meth c H locs cells slots Q (F0 m 212 ls []) := by
  obtain ⟨hx, hb, hr, hml, hown, hts0, hX, hbl, hlocks, hgv⟩ := C0
  have hts : ∀ w ∈ wsL_law, w.before #[Value.ref b] s = true := fun w h => hts0 w (wsL_law_in w h)
  have S : CallFix p m c cL_law 7 s #[Value.ref b] wsL_law RL := ⟨hx, hb, hml, hown, hts⟩
  have hbA : ¬ lA9 s b := Nat.not_le.mpr hbl
  obtain ⟨y1, ey1⟩ : ∃ y, y = xs (nI (i + 1)).toNatClampNeg := ⟨_, rfl⟩
  refine lv_aload_n hx hb dL_law_212 rfl (lv_at hl 1 rfl) ?_
  refine lv_aload_n hx hb dL_law_213 rfl (lv_at hl 0 rfl) ?_
  refine lv_iload hx hb dL_law_214 (lv_at hl 4 rfl) ?_
  refine lv_iconst (v := 1) hx hb dL_law_216 (by decide) ?_
  refine lv_iadd hx hb dL_law_217 ?_
  rw [show nI i + 1 = nI (i + 1) from nI_add i 1]
  refine va_sld hx hb hX hbl hbA hw.2.2.2 (vp_in_nI (by omega) (by omega)) dL_law_218 ?_
  rw [← ey1]
  refine lv_aload_n hx hb dL_law_219 rfl (lv_at hl 3 rfl) ?_
  refine gl_T hw (vx_runSX (As := [.ref (ad 0), .int y1, .ref o]) (rest := []) S (c_L_setStrikePay l hl9 D cy o f ad n σ y1 _) (vx_cwSW 3 hts gL_law_L_setStrikePay rfl rfl rfl (by decide +kernel) ⟨Nat.le_of_ble_eq_true rfl, Nat.le_of_ble_eq_true rfl⟩) (gl_preS hw hg _) rfl rfl hl.1 rfl (lv_room (Nat.le_of_ble_eq_true rfl)) dL_law_220 ⟨k_1l hc (Nat.le_of_ble_eq_true rfl), k_1l hs (Nat.le_of_ble_eq_true rfl)⟩) (fun r1 u1 H locs hp1 hw => ?_)
  refine lv_istore (lv' := [(5, .int r1), (0, .ref b), (1, .ref (ad 0)), (2, .ref (am 0)), (3, .ref o), (4, .int (nI i))]) hx hb dL_law_223 hl (by decide) rfl (fun ls hl => ?_)
  refine lv_aload_n hx hb dL_law_225 rfl (lv_at hl 3 rfl) ?_
  refine lv_aload_n hx hb dL_law_226 rfl (lv_at hl 1 rfl) ?_
  refine lv_iload hx hb dL_law_227 (lv_at hl 5 rfl) ?_
  refine lv_iconst (v := 1) hx hb dL_law_229 (by decide) ?_
  refine lv_iadd hx hb dL_law_230 ?_
  rw [show nI i + 1 = nI (i + 1) from nI_add i 1]
  refine va_sld hx hb hX hbl hbA hw.2.2.2 (vp_in_nI (by omega) (by omega)) dL_law_231 ?_
  rw [← ey1]
  refine gm_T hw (va_runV (As := [.int y1]) (rest := []) S (c_X4_setStrikePay l D cy am μ y1 _) (cwV 1 hts gL_law_X4_setStrikePay rfl rfl rfl (by decide +kernel) ⟨Nat.le_of_ble_eq_true rfl, Nat.le_of_ble_eq_true rfl⟩) (gm_preV hw _) rfl rfl hl.1 rfl (lv_room (Nat.le_of_ble_eq_true rfl)) dL_law_232 ⟨k_2l hc (Nat.le_of_ble_eq_true rfl), k_2l hs (Nat.le_of_ble_eq_true rfl)⟩) (fun v μ1 H locs hp2 hw => ?_)
  obtain ⟨b1, rfl, hp2⟩ := hp2
  refine W.eq (g2 := F0 m 235 ls [.int b1]) rfl ?_
  have hs9 := hsim y1 r1 u1 b1 μ1 hp1 hp2
  refine lv_istore (lv' := [(6, .int b1), (5, .int r1), (0, .ref b), (1, .ref (ad 0)), (2, .ref (am 0)), (3, .ref o), (4, .int (nI i))]) hx hb dL_law_235 hl (by decide) rfl (fun ls hl => ?_)
  refine lv_aload_n hx hb dL_law_237 rfl (lv_at hl 4 rfl) ?_
  refine gm_T hw (va_runV (As := []) (rest := []) S (c_X4_thrown l D cy am μ1 _) (cwV 0 hts gL_law_X4_thrown rfl rfl rfl (by decide +kernel) ⟨Nat.le_of_ble_eq_true rfl, Nat.le_of_ble_eq_true rfl⟩) (gm_preV hw _) rfl rfl hl.1 rfl (lv_room (Nat.le_of_ble_eq_true rfl)) dL_law_238 ⟨k_3l hc (Nat.le_of_ble_eq_true rfl), k_3l hs (Nat.le_of_ble_eq_true rfl)⟩) (fun v9 μ9 H locs hp3 hw => ?_)
  obtain ⟨r2, rfl, hu9, hr2⟩ := hp3
  rw [hu9] at hw
  refine W.eq (g2 := F0 m 241 ls [.int r2]) rfl ?_
  refine lv_iload hx hb dL_law_241 (lv_at hl 1 rfl) ?_
  refine lv_icmp_eq (tgt := 248) hx hb dL_law_243 (by decide) (fun _ => ?_) (fun c9 => absurd (hr2.trans hs9.1) c9)
  refine lv_iload hx hb dL_law_248 (lv_at hl 1 rfl) ?_
  refine lv_if_ne (tgt := 265) hx hb dL_law_250 (by decide) (fun c8 => ?_) (fun c8 => ?_)
  · refine lv_goto (tgt := 1502) hx hb dL_law_265 (by decide) ?_
    refine W.widen (k := cells + 8) (n := slots + 160) (k_3e (Nat.le_of_ble_eq_true rfl)) (k_3e (Nat.le_of_ble_eq_true rfl)) ?_
    exact kk _ _ _ _ _ hs9.2.2 hw (lv_sub hl [2, 3, 4, 5, 6] rfl)
  · refine lv_aload_n hx hb dL_law_253 rfl (lv_at hl 5 rfl) ?_
    refine lv_iconst (v := 0) hx hb dL_law_254 (by decide) ?_
    refine g_out hx hb hw dL_law_255 ?_
    refine lv_iload hx hb dL_law_256 (lv_at hl 0 rfl) ?_
    refine lv_i2l (v := b1.toInt64) hx hb dL_law_258 rfl ?_
    refine W.lcmp hx hb dL_law_259 ?_
    rw [show lg_cmp (u1.1 (0 : Int32).toNatClampNeg) (b1.toInt64) = 0 by rw [(hs9.2.1 c8)]; exact lg_self _]
    refine lv_if_eq (tgt := 265) hx hb dL_law_260 (by decide) (fun _ => ?_) (fun h => absurd rfl h)
    refine lv_goto (tgt := 1502) hx hb dL_law_265 (by decide) ?_
    refine W.widen (k := cells + 8) (n := slots + 160) (k_3e (Nat.le_of_ble_eq_true rfl)) (k_3e (Nat.le_of_ble_eq_true rfl)) ?_
    exact kk _ _ _ _ _ hs9.2.2 hw (lv_sub hl [2, 3, 4, 5, 6] rfl)
abbrev SS_join (f : Nat → Int64) (ad : Nat → Nat) (n : Nat) (σ μ : S3) (J : LSt → S3 → Prop) : Prop := ∀ (x0 x1 : Int32), SimI (lJ2 f ad n σ (e2 xIO xIS (inI x0 4 ∧ inI x1 3) (n < 16)) (jP ad n σ x0 x1)) (mP2 μ (inI x0 4 ∧ inI x1 3) (nm μ < 16) (nI (nm μ)) (su (su (su (th0 μ) 1 (nm μ) 0 (nI x0.toNatClampNeg)) 2 (nm μ) 0 (nI x1.toNatClampNeg)) 21 0 0 (nI (nm μ + 1)))) Int32.toInt64 J
set_option maxHeartbeats 2000000 in
set_option maxRecDepth 100000 in
theorem law_join {p : Program} {l : Launch} {e : Env} {s : State} {m : MethodId} {below : List Frame} {meth : Method} {c : Code} {D : va_G} {cy : Nat → ClassId} {o : Nat} {am : Nat → Nat} {b L : Nat} {xs : Nat → Int32} {Q : State → Prop} {cells slots : Nat} (hl9 : l.stackTraces = false) (C0 : lw_At p s m meth c b L xs) (hg : GX s) {f : Nat → Int64} {ad : Nat → Nat} {n : Nat} {σ μ : S3} {H : Heap} {locs : List Loc} (hw : GW D cy s o am (f, ad, n, σ) μ H locs) {i : Nat} (hi : i + 4 ≤ L) (hL : L ≤ 2048) (hc : cells + 8 ≤ 601024) (hs : slots + 160 ≤ 7293034) (J : LSt → S3 → Prop) (hn : n ≤ 16) (hf : frM σ n) (hsim : SS_join f ad n σ μ J) {ls : Array Slot} (hl : lv_has ls 7 [(0, .ref b), (1, .ref (ad 0)), (2, .ref (am 0)), (3, .ref o), (4, .int (nI i))]) (kk : ∀ (u1 : LSt) (μ1 : S3) (H1 : Heap) (locs1 : List Loc) (ls1 : Array Slot), J u1 μ1 → GW D cy s o am u1 μ1 H1 locs1 → lv_has ls1 7 [(0, .ref b), (1, .ref (ad 0)), (2, .ref (am 0)), (3, .ref o), (4, .int (nI i))] → W p l e room_1 s m #[Value.ref b] below meth c H1 locs1 (cells + 8) (slots + 160) Q (F0 m 1502 ls1 [])) : W p l e room_1 s m #[Value.ref b] below meth c H locs cells slots Q (F0 m 268 ls []) := by
  obtain ⟨hx, hb, hr, hml, hown, hts0, hX, hbl, hlocks, hgv⟩ := C0
  have hts : ∀ w ∈ wsL_law, w.before #[Value.ref b] s = true := fun w h => hts0 w (wsL_law_in w h)
  have S : CallFix p m c cL_law 7 s #[Value.ref b] wsL_law RL := ⟨hx, hb, hml, hown, hts⟩
  have hbA : ¬ lA9 s b := Nat.not_le.mpr hbl
  obtain ⟨y1, ey1⟩ : ∃ y, y = xs (nI (i + 1)).toNatClampNeg := ⟨_, rfl⟩
  obtain ⟨y2, ey2⟩ : ∃ y, y = xs (nI (i + 2)).toNatClampNeg := ⟨_, rfl⟩
  refine lv_aload_n hx hb dL_law_268 rfl (lv_at hl 1 rfl) ?_
  refine lv_aload_n hx hb dL_law_269 rfl (lv_at hl 0 rfl) ?_
  refine lv_iload hx hb dL_law_270 (lv_at hl 4 rfl) ?_
  refine lv_iconst (v := 1) hx hb dL_law_272 (by decide) ?_
  refine lv_iadd hx hb dL_law_273 ?_
  rw [show nI i + 1 = nI (i + 1) from nI_add i 1]
  refine va_sld hx hb hX hbl hbA hw.2.2.2 (vp_in_nI (by omega) (by omega)) dL_law_274 ?_
  rw [← ey1]
  refine lv_aload_n hx hb dL_law_275 rfl (lv_at hl 0 rfl) ?_
  refine lv_iload hx hb dL_law_276 (lv_at hl 4 rfl) ?_
  refine lv_iconst (v := 2) hx hb dL_law_278 (by decide) ?_
  refine lv_iadd hx hb dL_law_279 ?_
  rw [show nI i + 2 = nI (i + 2) from nI_add i 2]
  refine va_sld hx hb hX hbl hbA hw.2.2.2 (vp_in_nI (by omega) (by omega)) dL_law_280 ?_
  rw [← ey2]
  refine lv_aload_n hx hb dL_law_281 rfl (lv_at hl 3 rfl) ?_
  refine gl_T hw (vx_runSX (As := [.ref (ad 0), .int y1, .int y2, .ref o]) (rest := []) S (c_L_join l hl9 D cy o f ad n σ hn hf y1 y2 _) (vx_cwSW 4 hts gL_law_L_join rfl rfl rfl (by decide +kernel) ⟨Nat.le_of_ble_eq_true rfl, Nat.le_of_ble_eq_true rfl⟩) (gl_preS hw hg _) rfl rfl hl.1 rfl (lv_room (Nat.le_of_ble_eq_true rfl)) dL_law_282 ⟨k_1l hc (Nat.le_of_ble_eq_true rfl), k_1l hs (Nat.le_of_ble_eq_true rfl)⟩) (fun r1 u1 H locs hp1 hw => ?_)
  refine lv_istore (lv' := [(5, .int r1), (0, .ref b), (1, .ref (ad 0)), (2, .ref (am 0)), (3, .ref o), (4, .int (nI i))]) hx hb dL_law_285 hl (by decide) rfl (fun ls hl => ?_)
  refine lv_aload_n hx hb dL_law_287 rfl (lv_at hl 3 rfl) ?_
  refine lv_aload_n hx hb dL_law_288 rfl (lv_at hl 1 rfl) ?_
  refine lv_iload hx hb dL_law_289 (lv_at hl 5 rfl) ?_
  refine lv_iconst (v := 1) hx hb dL_law_291 (by decide) ?_
  refine lv_iadd hx hb dL_law_292 ?_
  rw [show nI i + 1 = nI (i + 1) from nI_add i 1]
  refine va_sld hx hb hX hbl hbA hw.2.2.2 (vp_in_nI (by omega) (by omega)) dL_law_293 ?_
  rw [← ey1]
  refine lv_aload_n hx hb dL_law_294 rfl (lv_at hl 1 rfl) ?_
  refine lv_iload hx hb dL_law_295 (lv_at hl 5 rfl) ?_
  refine lv_iconst (v := 2) hx hb dL_law_297 (by decide) ?_
  refine lv_iadd hx hb dL_law_298 ?_
  rw [show nI i + 2 = nI (i + 2) from nI_add i 2]
  refine va_sld hx hb hX hbl hbA hw.2.2.2 (vp_in_nI (by omega) (by omega)) dL_law_299 ?_
  rw [← ey2]
  refine gm_T hw (va_runV (As := [.int y1, .int y2]) (rest := []) S (c_X4_join l D cy am μ y1 y2 _) (cwV 2 hts gL_law_X4_join rfl rfl rfl (by decide +kernel) ⟨Nat.le_of_ble_eq_true rfl, Nat.le_of_ble_eq_true rfl⟩) (gm_preV hw _) rfl rfl hl.1 rfl (lv_room (Nat.le_of_ble_eq_true rfl)) dL_law_300 ⟨k_2l hc (Nat.le_of_ble_eq_true rfl), k_2l hs (Nat.le_of_ble_eq_true rfl)⟩) (fun v μ1 H locs hp2 hw => ?_)
  obtain ⟨b1, rfl, hp2⟩ := hp2
  refine W.eq (g2 := F0 m 303 ls [.int b1]) rfl ?_
  have hs9 := hsim y1 y2 r1 u1 b1 μ1 hp1 hp2
  refine lv_istore (lv' := [(6, .int b1), (5, .int r1), (0, .ref b), (1, .ref (ad 0)), (2, .ref (am 0)), (3, .ref o), (4, .int (nI i))]) hx hb dL_law_303 hl (by decide) rfl (fun ls hl => ?_)
  refine lv_aload_n hx hb dL_law_305 rfl (lv_at hl 4 rfl) ?_
  refine gm_T hw (va_runV (As := []) (rest := []) S (c_X4_thrown l D cy am μ1 _) (cwV 0 hts gL_law_X4_thrown rfl rfl rfl (by decide +kernel) ⟨Nat.le_of_ble_eq_true rfl, Nat.le_of_ble_eq_true rfl⟩) (gm_preV hw _) rfl rfl hl.1 rfl (lv_room (Nat.le_of_ble_eq_true rfl)) dL_law_306 ⟨k_3l hc (Nat.le_of_ble_eq_true rfl), k_3l hs (Nat.le_of_ble_eq_true rfl)⟩) (fun v9 μ9 H locs hp3 hw => ?_)
  obtain ⟨r2, rfl, hu9, hr2⟩ := hp3
  rw [hu9] at hw
  refine W.eq (g2 := F0 m 309 ls [.int r2]) rfl ?_
  refine lv_iload hx hb dL_law_309 (lv_at hl 1 rfl) ?_
  refine lv_icmp_eq (tgt := 316) hx hb dL_law_311 (by decide) (fun _ => ?_) (fun c9 => absurd (hr2.trans hs9.1) c9)
  refine lv_iload hx hb dL_law_316 (lv_at hl 1 rfl) ?_
  refine lv_if_ne (tgt := 333) hx hb dL_law_318 (by decide) (fun c8 => ?_) (fun c8 => ?_)
  · refine lv_goto (tgt := 1502) hx hb dL_law_333 (by decide) ?_
    refine W.widen (k := cells + 8) (n := slots + 160) (k_3e (Nat.le_of_ble_eq_true rfl)) (k_3e (Nat.le_of_ble_eq_true rfl)) ?_
    exact kk _ _ _ _ _ hs9.2.2 hw (lv_sub hl [2, 3, 4, 5, 6] rfl)
  · refine lv_aload_n hx hb dL_law_321 rfl (lv_at hl 5 rfl) ?_
    refine lv_iconst (v := 0) hx hb dL_law_322 (by decide) ?_
    refine g_out hx hb hw dL_law_323 ?_
    refine lv_iload hx hb dL_law_324 (lv_at hl 0 rfl) ?_
    refine lv_i2l (v := b1.toInt64) hx hb dL_law_326 rfl ?_
    refine W.lcmp hx hb dL_law_327 ?_
    rw [show lg_cmp (u1.1 (0 : Int32).toNatClampNeg) (b1.toInt64) = 0 by rw [(hs9.2.1 c8)]; exact lg_self _]
    refine lv_if_eq (tgt := 333) hx hb dL_law_328 (by decide) (fun _ => ?_) (fun h => absurd rfl h)
    refine lv_goto (tgt := 1502) hx hb dL_law_333 (by decide) ?_
    refine W.widen (k := cells + 8) (n := slots + 160) (k_3e (Nat.le_of_ble_eq_true rfl)) (k_3e (Nat.le_of_ble_eq_true rfl)) ?_
    exact kk _ _ _ _ _ hs9.2.2 hw (lv_sub hl [2, 3, 4, 5, 6] rfl)
abbrev SS_move (f : Nat → Int64) (ad : Nat → Nat) (n : Nat) (σ μ : S3) (J : LSt → S3 → Prop) : Prop := ∀ (x0 x1 x2 : Int32), SimV (lV2 f ad n σ xIO xIS (e2 xIO xIS (inI x0 n ∧ inI x1 4 ∧ inI x2 3) (σ 3 x0.toNatClampNeg 0 = 0)) (fun u => (inI x0 n ∧ inI x1 4 ∧ inI x2 3) ∧ σ 3 x0.toNatClampNeg 0 = 0 ∧ u = su (su σ 1 x0.toNatClampNeg 0 (nI x1.toNatClampNeg)) 2 x0.toNatClampNeg 0 (nI x2.toNatClampNeg))) (mV2 μ (inI x0 (nm μ) ∧ inI x1 4 ∧ inI x2 3) (μ 3 x0.toNatClampNeg 0 = 0) (su (su (th0 μ) 1 x0.toNatClampNeg 0 (nI x1.toNatClampNeg)) 2 x0.toNatClampNeg 0 (nI x2.toNatClampNeg))) J
set_option maxHeartbeats 2000000 in
set_option maxRecDepth 100000 in
theorem law_move {p : Program} {l : Launch} {e : Env} {s : State} {m : MethodId} {below : List Frame} {meth : Method} {c : Code} {D : va_G} {cy : Nat → ClassId} {o : Nat} {am : Nat → Nat} {b L : Nat} {xs : Nat → Int32} {Q : State → Prop} {cells slots : Nat} (hl9 : l.stackTraces = false) (C0 : lw_At p s m meth c b L xs) (hg : GX s) {f : Nat → Int64} {ad : Nat → Nat} {n : Nat} {σ μ : S3} {H : Heap} {locs : List Loc} (hw : GW D cy s o am (f, ad, n, σ) μ H locs) {i : Nat} (hi : i + 4 ≤ L) (hL : L ≤ 2048) (hc : cells + 8 ≤ 601024) (hs : slots + 160 ≤ 7293034) (J : LSt → S3 → Prop) (hn : n ≤ 16) (hsim : SS_move f ad n σ μ J) {ls : Array Slot} (hl : lv_has ls 7 [(0, .ref b), (1, .ref (ad 0)), (2, .ref (am 0)), (3, .ref o), (4, .int (nI i))]) (kk : ∀ (u1 : LSt) (μ1 : S3) (H1 : Heap) (locs1 : List Loc) (ls1 : Array Slot), J u1 μ1 → GW D cy s o am u1 μ1 H1 locs1 → lv_has ls1 7 [(0, .ref b), (1, .ref (ad 0)), (2, .ref (am 0)), (3, .ref o), (4, .int (nI i))] → W p l e room_1 s m #[Value.ref b] below meth c H1 locs1 (cells + 8) (slots + 160) Q (F0 m 1502 ls1 [])) : W p l e room_1 s m #[Value.ref b] below meth c H locs cells slots Q (F0 m 336 ls []) := by
  obtain ⟨hx, hb, hr, hml, hown, hts0, hX, hbl, hlocks, hgv⟩ := C0
  have hts : ∀ w ∈ wsL_law, w.before #[Value.ref b] s = true := fun w h => hts0 w (wsL_law_in w h)
  have S : CallFix p m c cL_law 7 s #[Value.ref b] wsL_law RL := ⟨hx, hb, hml, hown, hts⟩
  have hbA : ¬ lA9 s b := Nat.not_le.mpr hbl
  obtain ⟨y1, ey1⟩ : ∃ y, y = xs (nI (i + 1)).toNatClampNeg := ⟨_, rfl⟩
  obtain ⟨y2, ey2⟩ : ∃ y, y = xs (nI (i + 2)).toNatClampNeg := ⟨_, rfl⟩
  obtain ⟨y3, ey3⟩ : ∃ y, y = xs (nI (i + 3)).toNatClampNeg := ⟨_, rfl⟩
  refine lv_aload_n hx hb dL_law_336 rfl (lv_at hl 1 rfl) ?_
  refine lv_aload_n hx hb dL_law_337 rfl (lv_at hl 0 rfl) ?_
  refine lv_iload hx hb dL_law_338 (lv_at hl 4 rfl) ?_
  refine lv_iconst (v := 1) hx hb dL_law_340 (by decide) ?_
  refine lv_iadd hx hb dL_law_341 ?_
  rw [show nI i + 1 = nI (i + 1) from nI_add i 1]
  refine va_sld hx hb hX hbl hbA hw.2.2.2 (vp_in_nI (by omega) (by omega)) dL_law_342 ?_
  rw [← ey1]
  refine lv_aload_n hx hb dL_law_343 rfl (lv_at hl 0 rfl) ?_
  refine lv_iload hx hb dL_law_344 (lv_at hl 4 rfl) ?_
  refine lv_iconst (v := 2) hx hb dL_law_346 (by decide) ?_
  refine lv_iadd hx hb dL_law_347 ?_
  rw [show nI i + 2 = nI (i + 2) from nI_add i 2]
  refine va_sld hx hb hX hbl hbA hw.2.2.2 (vp_in_nI (by omega) (by omega)) dL_law_348 ?_
  rw [← ey2]
  refine lv_aload_n hx hb dL_law_349 rfl (lv_at hl 0 rfl) ?_
  refine lv_iload hx hb dL_law_350 (lv_at hl 4 rfl) ?_
  refine lv_iconst (v := 3) hx hb dL_law_352 (by decide) ?_
  refine lv_iadd hx hb dL_law_353 ?_
  rw [show nI i + 3 = nI (i + 3) from nI_add i 3]
  refine va_sld hx hb hX hbl hbA hw.2.2.2 (vp_in_nI (by omega) (by omega)) dL_law_354 ?_
  rw [← ey3]
  refine gl_T hw (vx_runSX (As := [.ref (ad 0), .int y1, .int y2, .int y3]) (rest := []) S (c_L_move l hl9 D cy o f ad n σ hn y1 y2 y3 _) (vx_cwSW 4 hts gL_law_L_move rfl rfl rfl (by decide +kernel) ⟨Nat.le_of_ble_eq_true rfl, Nat.le_of_ble_eq_true rfl⟩) (gl_preS hw hg _) rfl rfl hl.1 rfl (lv_room (Nat.le_of_ble_eq_true rfl)) dL_law_355 ⟨k_1l hc (Nat.le_of_ble_eq_true rfl), k_1l hs (Nat.le_of_ble_eq_true rfl)⟩) (fun r1 u1 H locs hp1 hw => ?_)
  refine lv_istore (lv' := [(5, .int r1), (0, .ref b), (1, .ref (ad 0)), (2, .ref (am 0)), (3, .ref o), (4, .int (nI i))]) hx hb dL_law_358 hl (by decide) rfl (fun ls hl => ?_)
  refine lv_aload_n hx hb dL_law_360 rfl (lv_at hl 3 rfl) ?_
  refine lv_aload_n hx hb dL_law_361 rfl (lv_at hl 1 rfl) ?_
  refine lv_iload hx hb dL_law_362 (lv_at hl 5 rfl) ?_
  refine lv_iconst (v := 1) hx hb dL_law_364 (by decide) ?_
  refine lv_iadd hx hb dL_law_365 ?_
  rw [show nI i + 1 = nI (i + 1) from nI_add i 1]
  refine va_sld hx hb hX hbl hbA hw.2.2.2 (vp_in_nI (by omega) (by omega)) dL_law_366 ?_
  rw [← ey1]
  refine lv_aload_n hx hb dL_law_367 rfl (lv_at hl 1 rfl) ?_
  refine lv_iload hx hb dL_law_368 (lv_at hl 5 rfl) ?_
  refine lv_iconst (v := 2) hx hb dL_law_370 (by decide) ?_
  refine lv_iadd hx hb dL_law_371 ?_
  rw [show nI i + 2 = nI (i + 2) from nI_add i 2]
  refine va_sld hx hb hX hbl hbA hw.2.2.2 (vp_in_nI (by omega) (by omega)) dL_law_372 ?_
  rw [← ey2]
  refine lv_aload_n hx hb dL_law_373 rfl (lv_at hl 1 rfl) ?_
  refine lv_iload hx hb dL_law_374 (lv_at hl 5 rfl) ?_
  refine lv_iconst (v := 3) hx hb dL_law_376 (by decide) ?_
  refine lv_iadd hx hb dL_law_377 ?_
  rw [show nI i + 3 = nI (i + 3) from nI_add i 3]
  refine va_sld hx hb hX hbl hbA hw.2.2.2 (vp_in_nI (by omega) (by omega)) dL_law_378 ?_
  rw [← ey3]
  refine gm_T hw (va_runV (As := [.int y1, .int y2, .int y3]) (rest := []) S (c_X4_move l D cy am μ y1 y2 y3 _) (cwV 3 hts gL_law_X4_move rfl rfl rfl (by decide +kernel) ⟨Nat.le_of_ble_eq_true rfl, Nat.le_of_ble_eq_true rfl⟩) (gm_preV hw _) rfl rfl hl.1 rfl (lv_room (Nat.le_of_ble_eq_true rfl)) dL_law_379 ⟨k_2l hc (Nat.le_of_ble_eq_true rfl), k_2l hs (Nat.le_of_ble_eq_true rfl)⟩) (fun v μ1 H locs hp2 hw => ?_)
  obtain ⟨rfl, hp2⟩ := hp2
  refine W.eq (g2 := F0 m 382 ls []) rfl ?_
  have hs9 := hsim y1 y2 y3 r1 u1 μ1 hp1 hp2
  refine lv_aload_n hx hb dL_law_382 rfl (lv_at hl 3 rfl) ?_
  refine gm_T hw (va_runV (As := []) (rest := []) S (c_X4_thrown l D cy am μ1 _) (cwV 0 hts gL_law_X4_thrown rfl rfl rfl (by decide +kernel) ⟨Nat.le_of_ble_eq_true rfl, Nat.le_of_ble_eq_true rfl⟩) (gm_preV hw _) rfl rfl hl.1 rfl (lv_room (Nat.le_of_ble_eq_true rfl)) dL_law_383 ⟨k_3l hc (Nat.le_of_ble_eq_true rfl), k_3l hs (Nat.le_of_ble_eq_true rfl)⟩) (fun v9 μ9 H locs hp3 hw => ?_)
  obtain ⟨r2, rfl, hu9, hr2⟩ := hp3
  rw [hu9] at hw
  refine W.eq (g2 := F0 m 386 ls [.int r2]) rfl ?_
  refine lv_iload hx hb dL_law_386 (lv_at hl 0 rfl) ?_
  refine lv_icmp_eq (tgt := 393) hx hb dL_law_388 (by decide) (fun _ => ?_) (fun c9 => absurd (hr2.trans hs9.1) c9)
  refine lv_goto (tgt := 1502) hx hb dL_law_393 (by decide) ?_
  refine W.widen (k := cells + 8) (n := slots + 160) (k_3e (Nat.le_of_ble_eq_true rfl)) (k_3e (Nat.le_of_ble_eq_true rfl)) ?_
  exact kk _ _ _ _ _ hs9.2 hw (lv_sub hl [1, 2, 3, 4, 5] rfl)
abbrev SS_leave (f : Nat → Int64) (ad : Nat → Nat) (n : Nat) (σ μ : S3) (J : LSt → S3 → Prop) : Prop := ∀ (x0 x1 : Int32), (x1 = 0 ∨ x1 = 1) → SimI (lP2 f ad n σ xIO xIS (e2 xIO xIS (inI x0 n) (σ 3 x0.toNatClampNeg 0 = 0)) z64 (fun r u => inI x0 n ∧ σ 3 x0.toNatClampNeg 0 = 0 ∧ r = σ 4 x0.toNatClampNeg 0 ∧ u = su σ 4 x0.toNatClampNeg 0 x1)) (mP2 μ (inI x0 (nm μ)) (μ 3 x0.toNatClampNeg 0 = 0) (th0 μ 4 x0.toNatClampNeg 0) (su (th0 μ) 4 x0.toNatClampNeg 0 x1)) z64 J
set_option maxHeartbeats 2000000 in
set_option maxRecDepth 100000 in
theorem law_leave {p : Program} {l : Launch} {e : Env} {s : State} {m : MethodId} {below : List Frame} {meth : Method} {c : Code} {D : va_G} {cy : Nat → ClassId} {o : Nat} {am : Nat → Nat} {b L : Nat} {xs : Nat → Int32} {Q : State → Prop} {cells slots : Nat} (hl9 : l.stackTraces = false) (C0 : lw_At p s m meth c b L xs) (hg : GX s) {f : Nat → Int64} {ad : Nat → Nat} {n : Nat} {σ μ : S3} {H : Heap} {locs : List Loc} (hw : GW D cy s o am (f, ad, n, σ) μ H locs) {i : Nat} (hi : i + 4 ≤ L) (hL : L ≤ 2048) (hc : cells + 8 ≤ 601024) (hs : slots + 160 ≤ 7293034) (J : LSt → S3 → Prop) (hn : n ≤ 16) (h4 : ∀ i, i < n → σ 4 i 0 = 0 ∨ σ 4 i 0 = 1) (h4m : ∀ i, i < 16 → μ 4 i 0 = 0 ∨ μ 4 i 0 = 1) (hsim : SS_leave f ad n σ μ J) {ls : Array Slot} (hl : lv_has ls 7 [(0, .ref b), (1, .ref (ad 0)), (2, .ref (am 0)), (3, .ref o), (4, .int (nI i))]) (kk : ∀ (u1 : LSt) (μ1 : S3) (H1 : Heap) (locs1 : List Loc) (ls1 : Array Slot), J u1 μ1 → GW D cy s o am u1 μ1 H1 locs1 → lv_has ls1 7 [(0, .ref b), (1, .ref (ad 0)), (2, .ref (am 0)), (3, .ref o), (4, .int (nI i))] → W p l e room_1 s m #[Value.ref b] below meth c H1 locs1 (cells + 8) (slots + 160) Q (F0 m 1502 ls1 [])) : W p l e room_1 s m #[Value.ref b] below meth c H locs cells slots Q (F0 m 396 ls []) := by
  obtain ⟨hx, hb, hr, hml, hown, hts0, hX, hbl, hlocks, hgv⟩ := C0
  have hts : ∀ w ∈ wsL_law, w.before #[Value.ref b] s = true := fun w h => hts0 w (wsL_law_in w h)
  have S : CallFix p m c cL_law 7 s #[Value.ref b] wsL_law RL := ⟨hx, hb, hml, hown, hts⟩
  have hbA : ¬ lA9 s b := Nat.not_le.mpr hbl
  obtain ⟨y1, ey1⟩ : ∃ y, y = xs (nI (i + 1)).toNatClampNeg := ⟨_, rfl⟩
  obtain ⟨y2, ey2⟩ : ∃ y, y = xs (nI (i + 2)).toNatClampNeg := ⟨_, rfl⟩
  refine lv_aload_n hx hb dL_law_396 rfl (lv_at hl 1 rfl) ?_
  refine lv_aload_n hx hb dL_law_397 rfl (lv_at hl 0 rfl) ?_
  refine lv_iload hx hb dL_law_398 (lv_at hl 4 rfl) ?_
  refine lv_iconst (v := 1) hx hb dL_law_400 (by decide) ?_
  refine lv_iadd hx hb dL_law_401 ?_
  rw [show nI i + 1 = nI (i + 1) from nI_add i 1]
  refine va_sld hx hb hX hbl hbA hw.2.2.2 (vp_in_nI (by omega) (by omega)) dL_law_402 ?_
  rw [← ey1]
  refine lv_aload_n hx hb dL_law_403 rfl (lv_at hl 0 rfl) ?_
  refine lv_iload hx hb dL_law_404 (lv_at hl 4 rfl) ?_
  refine lv_iconst (v := 2) hx hb dL_law_406 (by decide) ?_
  refine lv_iadd hx hb dL_law_407 ?_
  rw [show nI i + 2 = nI (i + 2) from nI_add i 2]
  refine va_sld hx hb hX hbl hbA hw.2.2.2 (vp_in_nI (by omega) (by omega)) dL_law_408 ?_
  rw [← ey2]
  refine lv_if_eq (tgt := 416) hx hb dL_law_409 (by decide) (fun cz => ?_) (fun cz => ?_)
  · refine lv_iconst (v := 0) hx hb dL_law_416 (by decide) ?_
    refine lv_aload_n hx hb dL_law_417 rfl (lv_at hl 3 rfl) ?_
    refine gl_T hw (vx_runSX (As := [.ref (ad 0), .int y1, .int 0, .ref o]) (rest := []) S (c_L_leave l hl9 D cy o f ad n σ hn h4 y1 0 (Or.inl rfl) _) (vx_cwSW 4 hts gL_law_L_leave rfl rfl rfl (by decide +kernel) ⟨Nat.le_of_ble_eq_true rfl, Nat.le_of_ble_eq_true rfl⟩) (gl_preS hw hg _) rfl rfl hl.1 rfl (lv_room (Nat.le_of_ble_eq_true rfl)) dL_law_418 ⟨k_1l hc (Nat.le_of_ble_eq_true rfl), k_1l hs (Nat.le_of_ble_eq_true rfl)⟩) (fun r1 u1 H locs hp1 hw => ?_)
    refine lv_istore (lv' := [(5, .int r1), (0, .ref b), (1, .ref (ad 0)), (2, .ref (am 0)), (3, .ref o), (4, .int (nI i))]) hx hb dL_law_421 hl (by decide) rfl (fun ls hl => ?_)
    refine lv_aload_n hx hb dL_law_423 rfl (lv_at hl 3 rfl) ?_
    refine lv_aload_n hx hb dL_law_424 rfl (lv_at hl 1 rfl) ?_
    refine lv_iload hx hb dL_law_425 (lv_at hl 5 rfl) ?_
    refine lv_iconst (v := 1) hx hb dL_law_427 (by decide) ?_
    refine lv_iadd hx hb dL_law_428 ?_
    rw [show nI i + 1 = nI (i + 1) from nI_add i 1]
    refine va_sld hx hb hX hbl hbA hw.2.2.2 (vp_in_nI (by omega) (by omega)) dL_law_429 ?_
    rw [← ey1]
    refine lv_aload_n hx hb dL_law_430 rfl (lv_at hl 1 rfl) ?_
    refine lv_iload hx hb dL_law_431 (lv_at hl 5 rfl) ?_
    refine lv_iconst (v := 2) hx hb dL_law_433 (by decide) ?_
    refine lv_iadd hx hb dL_law_434 ?_
    rw [show nI i + 2 = nI (i + 2) from nI_add i 2]
    refine va_sld hx hb hX hbl hbA hw.2.2.2 (vp_in_nI (by omega) (by omega)) dL_law_435 ?_
    rw [← ey2]
    refine lv_if_eq (tgt := 443) hx hb dL_law_436 (by decide) (fun _ => ?_) (fun h => absurd cz h)
    refine lv_iconst (v := 0) hx hb dL_law_443 (by decide) ?_
    refine gm_T hw (va_runV (As := [.int y1, .int 0]) (rest := []) S (c_X4_leave l D cy am μ h4m y1 0 (Or.inl rfl) _) (cwV 2 hts gL_law_X4_leave rfl rfl rfl (by decide +kernel) ⟨Nat.le_of_ble_eq_true rfl, Nat.le_of_ble_eq_true rfl⟩) (gm_preV hw _) rfl rfl hl.1 rfl (lv_room (Nat.le_of_ble_eq_true rfl)) dL_law_444 ⟨k_2l hc (Nat.le_of_ble_eq_true rfl), k_2l hs (Nat.le_of_ble_eq_true rfl)⟩) (fun v μ1 H locs hp2 hw => ?_)
    obtain ⟨b1, rfl, hp2⟩ := hp2
    refine W.eq (g2 := F0 m 447 ls [.int b1]) rfl ?_
    have hs9 := hsim y1 0 (Or.inl rfl) r1 u1 b1 μ1 hp1 hp2
    refine lv_istore (lv' := [(6, .int b1), (5, .int r1), (0, .ref b), (1, .ref (ad 0)), (2, .ref (am 0)), (3, .ref o), (4, .int (nI i))]) hx hb dL_law_447 hl (by decide) rfl (fun ls hl => ?_)
    refine lv_aload_n hx hb dL_law_449 rfl (lv_at hl 4 rfl) ?_
    refine gm_T hw (va_runV (As := []) (rest := []) S (c_X4_thrown l D cy am μ1 _) (cwV 0 hts gL_law_X4_thrown rfl rfl rfl (by decide +kernel) ⟨Nat.le_of_ble_eq_true rfl, Nat.le_of_ble_eq_true rfl⟩) (gm_preV hw _) rfl rfl hl.1 rfl (lv_room (Nat.le_of_ble_eq_true rfl)) dL_law_450 ⟨k_3l hc (Nat.le_of_ble_eq_true rfl), k_3l hs (Nat.le_of_ble_eq_true rfl)⟩) (fun v9 μ9 H locs hp3 hw => ?_)
    obtain ⟨r2, rfl, hu9, hr2⟩ := hp3
    rw [hu9] at hw
    refine W.eq (g2 := F0 m 453 ls [.int r2]) rfl ?_
    refine lv_iload hx hb dL_law_453 (lv_at hl 1 rfl) ?_
    refine lv_icmp_eq (tgt := 460) hx hb dL_law_455 (by decide) (fun _ => ?_) (fun c9 => absurd (hr2.trans hs9.1) c9)
    refine lv_iload hx hb dL_law_460 (lv_at hl 1 rfl) ?_
    refine lv_if_ne (tgt := 484) hx hb dL_law_462 (by decide) (fun c8 => ?_) (fun c8 => ?_)
    · refine lv_goto (tgt := 1502) hx hb dL_law_484 (by decide) ?_
      refine W.widen (k := cells + 8) (n := slots + 160) (k_3e (Nat.le_of_ble_eq_true rfl)) (k_3e (Nat.le_of_ble_eq_true rfl)) ?_
      exact kk _ _ _ _ _ hs9.2.2 hw (lv_sub hl [2, 3, 4, 5, 6] rfl)
    · refine lv_aload_n hx hb dL_law_465 rfl (lv_at hl 5 rfl) ?_
      refine lv_iconst (v := 0) hx hb dL_law_466 (by decide) ?_
      refine g_out hx hb hw dL_law_467 ?_
      refine lv_iload hx hb dL_law_468 (lv_at hl 0 rfl) ?_
      refine lv_if_eq (tgt := 477) hx hb dL_law_470 (by decide) (fun c7 => ?_) (fun c7 => ?_)
      · refine lv_lconst (v := 0) hx hb dL_law_477 (by decide) ?_
        refine W.lcmp hx hb dL_law_478 ?_
        rw [show lg_cmp (u1.1 (0 : Int32).toNatClampNeg) (0) = 0 by rw [(hs9.2.1 c8).trans (if_pos c7)]; exact lg_self _]
        refine lv_if_eq (tgt := 484) hx hb dL_law_479 (by decide) (fun _ => ?_) (fun h => absurd rfl h)
        refine lv_goto (tgt := 1502) hx hb dL_law_484 (by decide) ?_
        refine W.widen (k := cells + 8) (n := slots + 160) (k_3e (Nat.le_of_ble_eq_true rfl)) (k_3e (Nat.le_of_ble_eq_true rfl)) ?_
        exact kk _ _ _ _ _ hs9.2.2 hw (lv_sub hl [2, 3, 4, 5, 6] rfl)
      · refine lv_lconst (v := 1) hx hb dL_law_473 (by decide) ?_
        refine lv_goto (tgt := 478) hx hb dL_law_474 (by decide) ?_
        refine W.lcmp hx hb dL_law_478 ?_
        rw [show lg_cmp (u1.1 (0 : Int32).toNatClampNeg) (1) = 0 by rw [(hs9.2.1 c8).trans (if_neg c7)]; exact lg_self _]
        refine lv_if_eq (tgt := 484) hx hb dL_law_479 (by decide) (fun _ => ?_) (fun h => absurd rfl h)
        refine lv_goto (tgt := 1502) hx hb dL_law_484 (by decide) ?_
        refine W.widen (k := cells + 8) (n := slots + 160) (k_3e (Nat.le_of_ble_eq_true rfl)) (k_3e (Nat.le_of_ble_eq_true rfl)) ?_
        exact kk _ _ _ _ _ hs9.2.2 hw (lv_sub hl [2, 3, 4, 5, 6] rfl)
  · refine lv_iconst (v := 1) hx hb dL_law_412 (by decide) ?_
    refine lv_goto (tgt := 417) hx hb dL_law_413 (by decide) ?_
    refine lv_aload_n hx hb dL_law_417 rfl (lv_at hl 3 rfl) ?_
    refine gl_T hw (vx_runSX (As := [.ref (ad 0), .int y1, .int 1, .ref o]) (rest := []) S (c_L_leave l hl9 D cy o f ad n σ hn h4 y1 1 (Or.inr rfl) _) (vx_cwSW 4 hts gL_law_L_leave rfl rfl rfl (by decide +kernel) ⟨Nat.le_of_ble_eq_true rfl, Nat.le_of_ble_eq_true rfl⟩) (gl_preS hw hg _) rfl rfl hl.1 rfl (lv_room (Nat.le_of_ble_eq_true rfl)) dL_law_418 ⟨k_1l hc (Nat.le_of_ble_eq_true rfl), k_1l hs (Nat.le_of_ble_eq_true rfl)⟩) (fun r1 u1 H locs hp1 hw => ?_)
    refine lv_istore (lv' := [(5, .int r1), (0, .ref b), (1, .ref (ad 0)), (2, .ref (am 0)), (3, .ref o), (4, .int (nI i))]) hx hb dL_law_421 hl (by decide) rfl (fun ls hl => ?_)
    refine lv_aload_n hx hb dL_law_423 rfl (lv_at hl 3 rfl) ?_
    refine lv_aload_n hx hb dL_law_424 rfl (lv_at hl 1 rfl) ?_
    refine lv_iload hx hb dL_law_425 (lv_at hl 5 rfl) ?_
    refine lv_iconst (v := 1) hx hb dL_law_427 (by decide) ?_
    refine lv_iadd hx hb dL_law_428 ?_
    rw [show nI i + 1 = nI (i + 1) from nI_add i 1]
    refine va_sld hx hb hX hbl hbA hw.2.2.2 (vp_in_nI (by omega) (by omega)) dL_law_429 ?_
    rw [← ey1]
    refine lv_aload_n hx hb dL_law_430 rfl (lv_at hl 1 rfl) ?_
    refine lv_iload hx hb dL_law_431 (lv_at hl 5 rfl) ?_
    refine lv_iconst (v := 2) hx hb dL_law_433 (by decide) ?_
    refine lv_iadd hx hb dL_law_434 ?_
    rw [show nI i + 2 = nI (i + 2) from nI_add i 2]
    refine va_sld hx hb hX hbl hbA hw.2.2.2 (vp_in_nI (by omega) (by omega)) dL_law_435 ?_
    rw [← ey2]
    refine lv_if_eq (tgt := 443) hx hb dL_law_436 (by decide) (fun h => absurd h cz) (fun _ => ?_)
    refine lv_iconst (v := 1) hx hb dL_law_439 (by decide) ?_
    refine lv_goto (tgt := 444) hx hb dL_law_440 (by decide) ?_
    refine gm_T hw (va_runV (As := [.int y1, .int 1]) (rest := []) S (c_X4_leave l D cy am μ h4m y1 1 (Or.inr rfl) _) (cwV 2 hts gL_law_X4_leave rfl rfl rfl (by decide +kernel) ⟨Nat.le_of_ble_eq_true rfl, Nat.le_of_ble_eq_true rfl⟩) (gm_preV hw _) rfl rfl hl.1 rfl (lv_room (Nat.le_of_ble_eq_true rfl)) dL_law_444 ⟨k_2l hc (Nat.le_of_ble_eq_true rfl), k_2l hs (Nat.le_of_ble_eq_true rfl)⟩) (fun v μ1 H locs hp2 hw => ?_)
    obtain ⟨b1, rfl, hp2⟩ := hp2
    refine W.eq (g2 := F0 m 447 ls [.int b1]) rfl ?_
    have hs9 := hsim y1 1 (Or.inr rfl) r1 u1 b1 μ1 hp1 hp2
    refine lv_istore (lv' := [(6, .int b1), (5, .int r1), (0, .ref b), (1, .ref (ad 0)), (2, .ref (am 0)), (3, .ref o), (4, .int (nI i))]) hx hb dL_law_447 hl (by decide) rfl (fun ls hl => ?_)
    refine lv_aload_n hx hb dL_law_449 rfl (lv_at hl 4 rfl) ?_
    refine gm_T hw (va_runV (As := []) (rest := []) S (c_X4_thrown l D cy am μ1 _) (cwV 0 hts gL_law_X4_thrown rfl rfl rfl (by decide +kernel) ⟨Nat.le_of_ble_eq_true rfl, Nat.le_of_ble_eq_true rfl⟩) (gm_preV hw _) rfl rfl hl.1 rfl (lv_room (Nat.le_of_ble_eq_true rfl)) dL_law_450 ⟨k_3l hc (Nat.le_of_ble_eq_true rfl), k_3l hs (Nat.le_of_ble_eq_true rfl)⟩) (fun v9 μ9 H locs hp3 hw => ?_)
    obtain ⟨r2, rfl, hu9, hr2⟩ := hp3
    rw [hu9] at hw
    refine W.eq (g2 := F0 m 453 ls [.int r2]) rfl ?_
    refine lv_iload hx hb dL_law_453 (lv_at hl 1 rfl) ?_
    refine lv_icmp_eq (tgt := 460) hx hb dL_law_455 (by decide) (fun _ => ?_) (fun c9 => absurd (hr2.trans hs9.1) c9)
    refine lv_iload hx hb dL_law_460 (lv_at hl 1 rfl) ?_
    refine lv_if_ne (tgt := 484) hx hb dL_law_462 (by decide) (fun c8 => ?_) (fun c8 => ?_)
    · refine lv_goto (tgt := 1502) hx hb dL_law_484 (by decide) ?_
      refine W.widen (k := cells + 8) (n := slots + 160) (k_3e (Nat.le_of_ble_eq_true rfl)) (k_3e (Nat.le_of_ble_eq_true rfl)) ?_
      exact kk _ _ _ _ _ hs9.2.2 hw (lv_sub hl [2, 3, 4, 5, 6] rfl)
    · refine lv_aload_n hx hb dL_law_465 rfl (lv_at hl 5 rfl) ?_
      refine lv_iconst (v := 0) hx hb dL_law_466 (by decide) ?_
      refine g_out hx hb hw dL_law_467 ?_
      refine lv_iload hx hb dL_law_468 (lv_at hl 0 rfl) ?_
      refine lv_if_eq (tgt := 477) hx hb dL_law_470 (by decide) (fun c7 => ?_) (fun c7 => ?_)
      · refine lv_lconst (v := 0) hx hb dL_law_477 (by decide) ?_
        refine W.lcmp hx hb dL_law_478 ?_
        rw [show lg_cmp (u1.1 (0 : Int32).toNatClampNeg) (0) = 0 by rw [(hs9.2.1 c8).trans (if_pos c7)]; exact lg_self _]
        refine lv_if_eq (tgt := 484) hx hb dL_law_479 (by decide) (fun _ => ?_) (fun h => absurd rfl h)
        refine lv_goto (tgt := 1502) hx hb dL_law_484 (by decide) ?_
        refine W.widen (k := cells + 8) (n := slots + 160) (k_3e (Nat.le_of_ble_eq_true rfl)) (k_3e (Nat.le_of_ble_eq_true rfl)) ?_
        exact kk _ _ _ _ _ hs9.2.2 hw (lv_sub hl [2, 3, 4, 5, 6] rfl)
      · refine lv_lconst (v := 1) hx hb dL_law_473 (by decide) ?_
        refine lv_goto (tgt := 478) hx hb dL_law_474 (by decide) ?_
        refine W.lcmp hx hb dL_law_478 ?_
        rw [show lg_cmp (u1.1 (0 : Int32).toNatClampNeg) (1) = 0 by rw [(hs9.2.1 c8).trans (if_neg c7)]; exact lg_self _]
        refine lv_if_eq (tgt := 484) hx hb dL_law_479 (by decide) (fun _ => ?_) (fun h => absurd rfl h)
        refine lv_goto (tgt := 1502) hx hb dL_law_484 (by decide) ?_
        refine W.widen (k := cells + 8) (n := slots + 160) (k_3e (Nat.le_of_ble_eq_true rfl)) (k_3e (Nat.le_of_ble_eq_true rfl)) ?_
        exact kk _ _ _ _ _ hs9.2.2 hw (lv_sub hl [2, 3, 4, 5, 6] rfl)
abbrev SS_quit (f : Nat → Int64) (ad : Nat → Nat) (n : Nat) (σ μ : S3) (J : LSt → S3 → Prop) : Prop := ∀ (x0 : Int32), SimI (lP2 f ad n σ xIO xIS (e2 xIO xIS (inI x0 n) (σ 3 x0.toNatClampNeg 0 = 0)) Int32.toInt64 (fun r u => inI x0 n ∧ σ 3 x0.toNatClampNeg 0 = 0 ∧ r = sOwed (su σ 3 x0.toNatClampNeg 0 1) x0.toNatClampNeg ∧ u = su σ 3 x0.toNatClampNeg 0 1)) (mP2 μ (inI x0 (nm μ)) (μ 3 x0.toNatClampNeg 0 = 0) (owM (su (th0 μ) 3 x0.toNatClampNeg 0 1) x0.toNatClampNeg) (su (th0 μ) 3 x0.toNatClampNeg 0 1)) Int32.toInt64 J
set_option maxHeartbeats 2000000 in
set_option maxRecDepth 100000 in
theorem law_quit {p : Program} {l : Launch} {e : Env} {s : State} {m : MethodId} {below : List Frame} {meth : Method} {c : Code} {D : va_G} {cy : Nat → ClassId} {o : Nat} {am : Nat → Nat} {b L : Nat} {xs : Nat → Int32} {Q : State → Prop} {cells slots : Nat} (hl9 : l.stackTraces = false) (C0 : lw_At p s m meth c b L xs) (hg : GX s) {f : Nat → Int64} {ad : Nat → Nat} {n : Nat} {σ μ : S3} {H : Heap} {locs : List Loc} (hw : GW D cy s o am (f, ad, n, σ) μ H locs) {i : Nat} (hi : i + 4 ≤ L) (hL : L ≤ 2048) (hc : cells + 8 ≤ 601024) (hs : slots + 160 ≤ 7293034) (J : LSt → S3 → Prop) (hn : n ≤ 16) (hsim : SS_quit f ad n σ μ J) {ls : Array Slot} (hl : lv_has ls 7 [(0, .ref b), (1, .ref (ad 0)), (2, .ref (am 0)), (3, .ref o), (4, .int (nI i))]) (kk : ∀ (u1 : LSt) (μ1 : S3) (H1 : Heap) (locs1 : List Loc) (ls1 : Array Slot), J u1 μ1 → GW D cy s o am u1 μ1 H1 locs1 → lv_has ls1 7 [(0, .ref b), (1, .ref (ad 0)), (2, .ref (am 0)), (3, .ref o), (4, .int (nI i))] → W p l e room_1 s m #[Value.ref b] below meth c H1 locs1 (cells + 8) (slots + 160) Q (F0 m 1502 ls1 [])) : W p l e room_1 s m #[Value.ref b] below meth c H locs cells slots Q (F0 m 487 ls []) := by
  obtain ⟨hx, hb, hr, hml, hown, hts0, hX, hbl, hlocks, hgv⟩ := C0
  have hts : ∀ w ∈ wsL_law, w.before #[Value.ref b] s = true := fun w h => hts0 w (wsL_law_in w h)
  have S : CallFix p m c cL_law 7 s #[Value.ref b] wsL_law RL := ⟨hx, hb, hml, hown, hts⟩
  have hbA : ¬ lA9 s b := Nat.not_le.mpr hbl
  obtain ⟨y1, ey1⟩ : ∃ y, y = xs (nI (i + 1)).toNatClampNeg := ⟨_, rfl⟩
  refine lv_aload_n hx hb dL_law_487 rfl (lv_at hl 1 rfl) ?_
  refine lv_aload_n hx hb dL_law_488 rfl (lv_at hl 0 rfl) ?_
  refine lv_iload hx hb dL_law_489 (lv_at hl 4 rfl) ?_
  refine lv_iconst (v := 1) hx hb dL_law_491 (by decide) ?_
  refine lv_iadd hx hb dL_law_492 ?_
  rw [show nI i + 1 = nI (i + 1) from nI_add i 1]
  refine va_sld hx hb hX hbl hbA hw.2.2.2 (vp_in_nI (by omega) (by omega)) dL_law_493 ?_
  rw [← ey1]
  refine lv_aload_n hx hb dL_law_494 rfl (lv_at hl 3 rfl) ?_
  refine gl_T hw (vx_runSX (As := [.ref (ad 0), .int y1, .ref o]) (rest := []) S (c_L_quit l hl9 D cy o f ad n σ hn y1 _) (vx_cwSW 3 hts gL_law_L_quit rfl rfl rfl (by decide +kernel) ⟨Nat.le_of_ble_eq_true rfl, Nat.le_of_ble_eq_true rfl⟩) (gl_preS hw hg _) rfl rfl hl.1 rfl (lv_room (Nat.le_of_ble_eq_true rfl)) dL_law_495 ⟨k_1l hc (Nat.le_of_ble_eq_true rfl), k_1l hs (Nat.le_of_ble_eq_true rfl)⟩) (fun r1 u1 H locs hp1 hw => ?_)
  refine lv_istore (lv' := [(5, .int r1), (0, .ref b), (1, .ref (ad 0)), (2, .ref (am 0)), (3, .ref o), (4, .int (nI i))]) hx hb dL_law_498 hl (by decide) rfl (fun ls hl => ?_)
  refine lv_aload_n hx hb dL_law_500 rfl (lv_at hl 3 rfl) ?_
  refine lv_aload_n hx hb dL_law_501 rfl (lv_at hl 1 rfl) ?_
  refine lv_iload hx hb dL_law_502 (lv_at hl 5 rfl) ?_
  refine lv_iconst (v := 1) hx hb dL_law_504 (by decide) ?_
  refine lv_iadd hx hb dL_law_505 ?_
  rw [show nI i + 1 = nI (i + 1) from nI_add i 1]
  refine va_sld hx hb hX hbl hbA hw.2.2.2 (vp_in_nI (by omega) (by omega)) dL_law_506 ?_
  rw [← ey1]
  refine gm_T hw (va_runV (As := [.int y1]) (rest := []) S (c_X4_quit l D cy am μ y1 _) (cwV 1 hts gL_law_X4_quit rfl rfl rfl (by decide +kernel) ⟨Nat.le_of_ble_eq_true rfl, Nat.le_of_ble_eq_true rfl⟩) (gm_preV hw _) rfl rfl hl.1 rfl (lv_room (Nat.le_of_ble_eq_true rfl)) dL_law_507 ⟨k_2l hc (Nat.le_of_ble_eq_true rfl), k_2l hs (Nat.le_of_ble_eq_true rfl)⟩) (fun v μ1 H locs hp2 hw => ?_)
  obtain ⟨b1, rfl, hp2⟩ := hp2
  refine W.eq (g2 := F0 m 510 ls [.int b1]) rfl ?_
  have hs9 := hsim y1 r1 u1 b1 μ1 hp1 hp2
  refine lv_istore (lv' := [(6, .int b1), (5, .int r1), (0, .ref b), (1, .ref (ad 0)), (2, .ref (am 0)), (3, .ref o), (4, .int (nI i))]) hx hb dL_law_510 hl (by decide) rfl (fun ls hl => ?_)
  refine lv_aload_n hx hb dL_law_512 rfl (lv_at hl 4 rfl) ?_
  refine gm_T hw (va_runV (As := []) (rest := []) S (c_X4_thrown l D cy am μ1 _) (cwV 0 hts gL_law_X4_thrown rfl rfl rfl (by decide +kernel) ⟨Nat.le_of_ble_eq_true rfl, Nat.le_of_ble_eq_true rfl⟩) (gm_preV hw _) rfl rfl hl.1 rfl (lv_room (Nat.le_of_ble_eq_true rfl)) dL_law_513 ⟨k_3l hc (Nat.le_of_ble_eq_true rfl), k_3l hs (Nat.le_of_ble_eq_true rfl)⟩) (fun v9 μ9 H locs hp3 hw => ?_)
  obtain ⟨r2, rfl, hu9, hr2⟩ := hp3
  rw [hu9] at hw
  refine W.eq (g2 := F0 m 516 ls [.int r2]) rfl ?_
  refine lv_iload hx hb dL_law_516 (lv_at hl 1 rfl) ?_
  refine lv_icmp_eq (tgt := 523) hx hb dL_law_518 (by decide) (fun _ => ?_) (fun c9 => absurd (hr2.trans hs9.1) c9)
  refine lv_iload hx hb dL_law_523 (lv_at hl 1 rfl) ?_
  refine lv_if_ne (tgt := 540) hx hb dL_law_525 (by decide) (fun c8 => ?_) (fun c8 => ?_)
  · refine lv_goto (tgt := 1502) hx hb dL_law_540 (by decide) ?_
    refine W.widen (k := cells + 8) (n := slots + 160) (k_3e (Nat.le_of_ble_eq_true rfl)) (k_3e (Nat.le_of_ble_eq_true rfl)) ?_
    exact kk _ _ _ _ _ hs9.2.2 hw (lv_sub hl [2, 3, 4, 5, 6] rfl)
  · refine lv_aload_n hx hb dL_law_528 rfl (lv_at hl 5 rfl) ?_
    refine lv_iconst (v := 0) hx hb dL_law_529 (by decide) ?_
    refine g_out hx hb hw dL_law_530 ?_
    refine lv_iload hx hb dL_law_531 (lv_at hl 0 rfl) ?_
    refine lv_i2l (v := b1.toInt64) hx hb dL_law_533 rfl ?_
    refine W.lcmp hx hb dL_law_534 ?_
    rw [show lg_cmp (u1.1 (0 : Int32).toNatClampNeg) (b1.toInt64) = 0 by rw [(hs9.2.1 c8)]; exact lg_self _]
    refine lv_if_eq (tgt := 540) hx hb dL_law_535 (by decide) (fun _ => ?_) (fun h => absurd rfl h)
    refine lv_goto (tgt := 1502) hx hb dL_law_540 (by decide) ?_
    refine W.widen (k := cells + 8) (n := slots + 160) (k_3e (Nat.le_of_ble_eq_true rfl)) (k_3e (Nat.le_of_ble_eq_true rfl)) ?_
    exact kk _ _ _ _ _ hs9.2.2 hw (lv_sub hl [2, 3, 4, 5, 6] rfl)
abbrev SS_pay (f : Nat → Int64) (ad : Nat → Nat) (n : Nat) (σ μ : S3) (J : LSt → S3 → Prop) : Prop := ∀ (x0 x1 : Int32), SimI (lP2 f ad n σ xIO xIA (e2 xIO xIA (inI x0 n) (rgI x1 1 1000000)) Int32.toInt64 (fun r u => inI x0 n ∧ rgI x1 1 1000000 ∧ r = sOwed (payF σ x0.toNatClampNeg x1) x0.toNatClampNeg ∧ u = payF σ x0.toNatClampNeg x1)) (mP2 μ (inI x0 (nm μ)) (rgI x1 1 1000000) (owM (mpF μ x0.toNatClampNeg x1) x0.toNatClampNeg) (mpF μ x0.toNatClampNeg x1)) Int32.toInt64 J
set_option maxHeartbeats 2000000 in
set_option maxRecDepth 100000 in
theorem law_pay {p : Program} {l : Launch} {e : Env} {s : State} {m : MethodId} {below : List Frame} {meth : Method} {c : Code} {D : va_G} {cy : Nat → ClassId} {o : Nat} {am : Nat → Nat} {b L : Nat} {xs : Nat → Int32} {Q : State → Prop} {cells slots : Nat} (hl9 : l.stackTraces = false) (C0 : lw_At p s m meth c b L xs) (hg : GX s) {f : Nat → Int64} {ad : Nat → Nat} {n : Nat} {σ μ : S3} {H : Heap} {locs : List Loc} (hw : GW D cy s o am (f, ad, n, σ) μ H locs) {i : Nat} (hi : i + 4 ≤ L) (hL : L ≤ 2048) (hc : cells + 8 ≤ 601024) (hs : slots + 160 ≤ 7293034) (J : LSt → S3 → Prop) (hn : n ≤ 16) (hsim : SS_pay f ad n σ μ J) {ls : Array Slot} (hl : lv_has ls 7 [(0, .ref b), (1, .ref (ad 0)), (2, .ref (am 0)), (3, .ref o), (4, .int (nI i))]) (kk : ∀ (u1 : LSt) (μ1 : S3) (H1 : Heap) (locs1 : List Loc) (ls1 : Array Slot), J u1 μ1 → GW D cy s o am u1 μ1 H1 locs1 → lv_has ls1 7 [(0, .ref b), (1, .ref (ad 0)), (2, .ref (am 0)), (3, .ref o), (4, .int (nI i))] → W p l e room_1 s m #[Value.ref b] below meth c H1 locs1 (cells + 8) (slots + 160) Q (F0 m 1502 ls1 [])) : W p l e room_1 s m #[Value.ref b] below meth c H locs cells slots Q (F0 m 543 ls []) := by
  obtain ⟨hx, hb, hr, hml, hown, hts0, hX, hbl, hlocks, hgv⟩ := C0
  have hts : ∀ w ∈ wsL_law, w.before #[Value.ref b] s = true := fun w h => hts0 w (wsL_law_in w h)
  have S : CallFix p m c cL_law 7 s #[Value.ref b] wsL_law RL := ⟨hx, hb, hml, hown, hts⟩
  have hbA : ¬ lA9 s b := Nat.not_le.mpr hbl
  obtain ⟨y1, ey1⟩ : ∃ y, y = xs (nI (i + 1)).toNatClampNeg := ⟨_, rfl⟩
  obtain ⟨y2, ey2⟩ : ∃ y, y = xs (nI (i + 2)).toNatClampNeg := ⟨_, rfl⟩
  refine lv_aload_n hx hb dL_law_543 rfl (lv_at hl 1 rfl) ?_
  refine lv_aload_n hx hb dL_law_544 rfl (lv_at hl 0 rfl) ?_
  refine lv_iload hx hb dL_law_545 (lv_at hl 4 rfl) ?_
  refine lv_iconst (v := 1) hx hb dL_law_547 (by decide) ?_
  refine lv_iadd hx hb dL_law_548 ?_
  rw [show nI i + 1 = nI (i + 1) from nI_add i 1]
  refine va_sld hx hb hX hbl hbA hw.2.2.2 (vp_in_nI (by omega) (by omega)) dL_law_549 ?_
  rw [← ey1]
  refine lv_aload_n hx hb dL_law_550 rfl (lv_at hl 0 rfl) ?_
  refine lv_iload hx hb dL_law_551 (lv_at hl 4 rfl) ?_
  refine lv_iconst (v := 2) hx hb dL_law_553 (by decide) ?_
  refine lv_iadd hx hb dL_law_554 ?_
  rw [show nI i + 2 = nI (i + 2) from nI_add i 2]
  refine va_sld hx hb hX hbl hbA hw.2.2.2 (vp_in_nI (by omega) (by omega)) dL_law_555 ?_
  rw [← ey2]
  refine lv_aload_n hx hb dL_law_556 rfl (lv_at hl 3 rfl) ?_
  refine gl_T hw (vx_runSX (As := [.ref (ad 0), .int y1, .int y2, .ref o]) (rest := []) S (c_L_pay l hl9 D cy o f ad n σ hn y1 y2 _) (vx_cwSW 4 hts gL_law_L_pay rfl rfl rfl (by decide +kernel) ⟨Nat.le_of_ble_eq_true rfl, Nat.le_of_ble_eq_true rfl⟩) (gl_preS hw hg _) rfl rfl hl.1 rfl (lv_room (Nat.le_of_ble_eq_true rfl)) dL_law_557 ⟨k_1l hc (Nat.le_of_ble_eq_true rfl), k_1l hs (Nat.le_of_ble_eq_true rfl)⟩) (fun r1 u1 H locs hp1 hw => ?_)
  refine lv_istore (lv' := [(5, .int r1), (0, .ref b), (1, .ref (ad 0)), (2, .ref (am 0)), (3, .ref o), (4, .int (nI i))]) hx hb dL_law_560 hl (by decide) rfl (fun ls hl => ?_)
  refine lv_aload_n hx hb dL_law_562 rfl (lv_at hl 3 rfl) ?_
  refine lv_aload_n hx hb dL_law_563 rfl (lv_at hl 1 rfl) ?_
  refine lv_iload hx hb dL_law_564 (lv_at hl 5 rfl) ?_
  refine lv_iconst (v := 1) hx hb dL_law_566 (by decide) ?_
  refine lv_iadd hx hb dL_law_567 ?_
  rw [show nI i + 1 = nI (i + 1) from nI_add i 1]
  refine va_sld hx hb hX hbl hbA hw.2.2.2 (vp_in_nI (by omega) (by omega)) dL_law_568 ?_
  rw [← ey1]
  refine lv_aload_n hx hb dL_law_569 rfl (lv_at hl 1 rfl) ?_
  refine lv_iload hx hb dL_law_570 (lv_at hl 5 rfl) ?_
  refine lv_iconst (v := 2) hx hb dL_law_572 (by decide) ?_
  refine lv_iadd hx hb dL_law_573 ?_
  rw [show nI i + 2 = nI (i + 2) from nI_add i 2]
  refine va_sld hx hb hX hbl hbA hw.2.2.2 (vp_in_nI (by omega) (by omega)) dL_law_574 ?_
  rw [← ey2]
  refine gm_T hw (va_runV (As := [.int y1, .int y2]) (rest := []) S (c_X4_pay l D cy am μ y1 y2 _) (cwV 2 hts gL_law_X4_pay rfl rfl rfl (by decide +kernel) ⟨Nat.le_of_ble_eq_true rfl, Nat.le_of_ble_eq_true rfl⟩) (gm_preV hw _) rfl rfl hl.1 rfl (lv_room (Nat.le_of_ble_eq_true rfl)) dL_law_575 ⟨k_2l hc (Nat.le_of_ble_eq_true rfl), k_2l hs (Nat.le_of_ble_eq_true rfl)⟩) (fun v μ1 H locs hp2 hw => ?_)
  obtain ⟨b1, rfl, hp2⟩ := hp2
  refine W.eq (g2 := F0 m 578 ls [.int b1]) rfl ?_
  have hs9 := hsim y1 y2 r1 u1 b1 μ1 hp1 hp2
  refine lv_istore (lv' := [(6, .int b1), (5, .int r1), (0, .ref b), (1, .ref (ad 0)), (2, .ref (am 0)), (3, .ref o), (4, .int (nI i))]) hx hb dL_law_578 hl (by decide) rfl (fun ls hl => ?_)
  refine lv_aload_n hx hb dL_law_580 rfl (lv_at hl 4 rfl) ?_
  refine gm_T hw (va_runV (As := []) (rest := []) S (c_X4_thrown l D cy am μ1 _) (cwV 0 hts gL_law_X4_thrown rfl rfl rfl (by decide +kernel) ⟨Nat.le_of_ble_eq_true rfl, Nat.le_of_ble_eq_true rfl⟩) (gm_preV hw _) rfl rfl hl.1 rfl (lv_room (Nat.le_of_ble_eq_true rfl)) dL_law_581 ⟨k_3l hc (Nat.le_of_ble_eq_true rfl), k_3l hs (Nat.le_of_ble_eq_true rfl)⟩) (fun v9 μ9 H locs hp3 hw => ?_)
  obtain ⟨r2, rfl, hu9, hr2⟩ := hp3
  rw [hu9] at hw
  refine W.eq (g2 := F0 m 584 ls [.int r2]) rfl ?_
  refine lv_iload hx hb dL_law_584 (lv_at hl 1 rfl) ?_
  refine lv_icmp_eq (tgt := 591) hx hb dL_law_586 (by decide) (fun _ => ?_) (fun c9 => absurd (hr2.trans hs9.1) c9)
  refine lv_iload hx hb dL_law_591 (lv_at hl 1 rfl) ?_
  refine lv_if_ne (tgt := 608) hx hb dL_law_593 (by decide) (fun c8 => ?_) (fun c8 => ?_)
  · refine lv_goto (tgt := 1502) hx hb dL_law_608 (by decide) ?_
    refine W.widen (k := cells + 8) (n := slots + 160) (k_3e (Nat.le_of_ble_eq_true rfl)) (k_3e (Nat.le_of_ble_eq_true rfl)) ?_
    exact kk _ _ _ _ _ hs9.2.2 hw (lv_sub hl [2, 3, 4, 5, 6] rfl)
  · refine lv_aload_n hx hb dL_law_596 rfl (lv_at hl 5 rfl) ?_
    refine lv_iconst (v := 0) hx hb dL_law_597 (by decide) ?_
    refine g_out hx hb hw dL_law_598 ?_
    refine lv_iload hx hb dL_law_599 (lv_at hl 0 rfl) ?_
    refine lv_i2l (v := b1.toInt64) hx hb dL_law_601 rfl ?_
    refine W.lcmp hx hb dL_law_602 ?_
    rw [show lg_cmp (u1.1 (0 : Int32).toNatClampNeg) (b1.toInt64) = 0 by rw [(hs9.2.1 c8)]; exact lg_self _]
    refine lv_if_eq (tgt := 608) hx hb dL_law_603 (by decide) (fun _ => ?_) (fun h => absurd rfl h)
    refine lv_goto (tgt := 1502) hx hb dL_law_608 (by decide) ?_
    refine W.widen (k := cells + 8) (n := slots + 160) (k_3e (Nat.le_of_ble_eq_true rfl)) (k_3e (Nat.le_of_ble_eq_true rfl)) ?_
    exact kk _ _ _ _ _ hs9.2.2 hw (lv_sub hl [2, 3, 4, 5, 6] rfl)
abbrev SS_open (f : Nat → Int64) (ad : Nat → Nat) (n : Nat) (σ μ : S3) (J : LSt → S3 → Prop) : Prop := ∀ (x0 : Int32), SimI (lP2 f ad n σ xIO xIS (e2 xIO xIS (inI x0 4) (opP σ x0.toNatClampNeg)) Int32.toInt64 (fun r u => inI x0 4 ∧ opP σ x0.toNatClampNeg ∧ r = cntF (bgF σ x0.toNatClampNeg) n x0.toNatClampNeg ((bgF σ x0.toNatClampNeg) 18 0 0) 16 ∧ u = bgF σ x0.toNatClampNeg)) (mP2 μ (inI x0 4) (opP μ x0.toNatClampNeg) (cntM (moF μ x0.toNatClampNeg) (nI x0.toNatClampNeg) (nm (moF μ x0.toNatClampNeg))) (moF μ x0.toNatClampNeg)) Int32.toInt64 J
set_option maxHeartbeats 2000000 in
set_option maxRecDepth 100000 in
theorem law_open {p : Program} {l : Launch} {e : Env} {s : State} {m : MethodId} {below : List Frame} {meth : Method} {c : Code} {D : va_G} {cy : Nat → ClassId} {o : Nat} {am : Nat → Nat} {b L : Nat} {xs : Nat → Int32} {Q : State → Prop} {cells slots : Nat} (hl9 : l.stackTraces = false) (C0 : lw_At p s m meth c b L xs) (hg : GX s) {f : Nat → Int64} {ad : Nat → Nat} {n : Nat} {σ μ : S3} {H : Heap} {locs : List Loc} (hw : GW D cy s o am (f, ad, n, σ) μ H locs) {i : Nat} (hi : i + 4 ≤ L) (hL : L ≤ 2048) (hc : cells + 8 ≤ 601024) (hs : slots + 160 ≤ 7293034) (J : LSt → S3 → Prop)  (hsim : SS_open f ad n σ μ J) {ls : Array Slot} (hl : lv_has ls 7 [(0, .ref b), (1, .ref (ad 0)), (2, .ref (am 0)), (3, .ref o), (4, .int (nI i))]) (kk : ∀ (u1 : LSt) (μ1 : S3) (H1 : Heap) (locs1 : List Loc) (ls1 : Array Slot), J u1 μ1 → GW D cy s o am u1 μ1 H1 locs1 → lv_has ls1 7 [(0, .ref b), (1, .ref (ad 0)), (2, .ref (am 0)), (3, .ref o), (4, .int (nI i))] → W p l e room_1 s m #[Value.ref b] below meth c H1 locs1 (cells + 8) (slots + 160) Q (F0 m 1502 ls1 [])) : W p l e room_1 s m #[Value.ref b] below meth c H locs cells slots Q (F0 m 611 ls []) := by
  obtain ⟨hx, hb, hr, hml, hown, hts0, hX, hbl, hlocks, hgv⟩ := C0
  have hts : ∀ w ∈ wsL_law, w.before #[Value.ref b] s = true := fun w h => hts0 w (wsL_law_in w h)
  have S : CallFix p m c cL_law 7 s #[Value.ref b] wsL_law RL := ⟨hx, hb, hml, hown, hts⟩
  have hbA : ¬ lA9 s b := Nat.not_le.mpr hbl
  obtain ⟨y1, ey1⟩ : ∃ y, y = xs (nI (i + 1)).toNatClampNeg := ⟨_, rfl⟩
  refine lv_aload_n hx hb dL_law_611 rfl (lv_at hl 1 rfl) ?_
  refine lv_aload_n hx hb dL_law_612 rfl (lv_at hl 0 rfl) ?_
  refine lv_iload hx hb dL_law_613 (lv_at hl 4 rfl) ?_
  refine lv_iconst (v := 1) hx hb dL_law_615 (by decide) ?_
  refine lv_iadd hx hb dL_law_616 ?_
  rw [show nI i + 1 = nI (i + 1) from nI_add i 1]
  refine va_sld hx hb hX hbl hbA hw.2.2.2 (vp_in_nI (by omega) (by omega)) dL_law_617 ?_
  rw [← ey1]
  refine lv_aload_n hx hb dL_law_618 rfl (lv_at hl 3 rfl) ?_
  refine gl_T hw (vx_runSX (As := [.ref (ad 0), .int y1, .ref o]) (rest := []) S (c_L_open l hl9 D cy o f ad n σ y1 _) (vx_cwSW 3 hts gL_law_L_open rfl rfl rfl (by decide +kernel) ⟨Nat.le_of_ble_eq_true rfl, Nat.le_of_ble_eq_true rfl⟩) (gl_preS hw hg _) rfl rfl hl.1 rfl (lv_room (Nat.le_of_ble_eq_true rfl)) dL_law_619 ⟨k_1l hc (Nat.le_of_ble_eq_true rfl), k_1l hs (Nat.le_of_ble_eq_true rfl)⟩) (fun r1 u1 H locs hp1 hw => ?_)
  refine lv_istore (lv' := [(5, .int r1), (0, .ref b), (1, .ref (ad 0)), (2, .ref (am 0)), (3, .ref o), (4, .int (nI i))]) hx hb dL_law_622 hl (by decide) rfl (fun ls hl => ?_)
  refine lv_aload_n hx hb dL_law_624 rfl (lv_at hl 3 rfl) ?_
  refine lv_aload_n hx hb dL_law_625 rfl (lv_at hl 1 rfl) ?_
  refine lv_iload hx hb dL_law_626 (lv_at hl 5 rfl) ?_
  refine lv_iconst (v := 1) hx hb dL_law_628 (by decide) ?_
  refine lv_iadd hx hb dL_law_629 ?_
  rw [show nI i + 1 = nI (i + 1) from nI_add i 1]
  refine va_sld hx hb hX hbl hbA hw.2.2.2 (vp_in_nI (by omega) (by omega)) dL_law_630 ?_
  rw [← ey1]
  refine gm_T hw (va_runV (As := [.int y1]) (rest := []) S (c_X4_open l D cy am μ y1 _) (cwV 1 hts gL_law_X4_open rfl rfl rfl (by decide +kernel) ⟨Nat.le_of_ble_eq_true rfl, Nat.le_of_ble_eq_true rfl⟩) (gm_preV hw _) rfl rfl hl.1 rfl (lv_room (Nat.le_of_ble_eq_true rfl)) dL_law_631 ⟨k_2l hc (Nat.le_of_ble_eq_true rfl), k_2l hs (Nat.le_of_ble_eq_true rfl)⟩) (fun v μ1 H locs hp2 hw => ?_)
  obtain ⟨b1, rfl, hp2⟩ := hp2
  refine W.eq (g2 := F0 m 634 ls [.int b1]) rfl ?_
  have hs9 := hsim y1 r1 u1 b1 μ1 hp1 hp2
  refine lv_istore (lv' := [(6, .int b1), (5, .int r1), (0, .ref b), (1, .ref (ad 0)), (2, .ref (am 0)), (3, .ref o), (4, .int (nI i))]) hx hb dL_law_634 hl (by decide) rfl (fun ls hl => ?_)
  refine lv_aload_n hx hb dL_law_636 rfl (lv_at hl 4 rfl) ?_
  refine gm_T hw (va_runV (As := []) (rest := []) S (c_X4_thrown l D cy am μ1 _) (cwV 0 hts gL_law_X4_thrown rfl rfl rfl (by decide +kernel) ⟨Nat.le_of_ble_eq_true rfl, Nat.le_of_ble_eq_true rfl⟩) (gm_preV hw _) rfl rfl hl.1 rfl (lv_room (Nat.le_of_ble_eq_true rfl)) dL_law_637 ⟨k_3l hc (Nat.le_of_ble_eq_true rfl), k_3l hs (Nat.le_of_ble_eq_true rfl)⟩) (fun v9 μ9 H locs hp3 hw => ?_)
  obtain ⟨r2, rfl, hu9, hr2⟩ := hp3
  rw [hu9] at hw
  refine W.eq (g2 := F0 m 640 ls [.int r2]) rfl ?_
  refine lv_iload hx hb dL_law_640 (lv_at hl 1 rfl) ?_
  refine lv_icmp_eq (tgt := 647) hx hb dL_law_642 (by decide) (fun _ => ?_) (fun c9 => absurd (hr2.trans hs9.1) c9)
  refine lv_iload hx hb dL_law_647 (lv_at hl 1 rfl) ?_
  refine lv_if_ne (tgt := 664) hx hb dL_law_649 (by decide) (fun c8 => ?_) (fun c8 => ?_)
  · refine lv_goto (tgt := 1502) hx hb dL_law_664 (by decide) ?_
    refine W.widen (k := cells + 8) (n := slots + 160) (k_3e (Nat.le_of_ble_eq_true rfl)) (k_3e (Nat.le_of_ble_eq_true rfl)) ?_
    exact kk _ _ _ _ _ hs9.2.2 hw (lv_sub hl [2, 3, 4, 5, 6] rfl)
  · refine lv_aload_n hx hb dL_law_652 rfl (lv_at hl 5 rfl) ?_
    refine lv_iconst (v := 0) hx hb dL_law_653 (by decide) ?_
    refine g_out hx hb hw dL_law_654 ?_
    refine lv_iload hx hb dL_law_655 (lv_at hl 0 rfl) ?_
    refine lv_i2l (v := b1.toInt64) hx hb dL_law_657 rfl ?_
    refine W.lcmp hx hb dL_law_658 ?_
    rw [show lg_cmp (u1.1 (0 : Int32).toNatClampNeg) (b1.toInt64) = 0 by rw [(hs9.2.1 c8)]; exact lg_self _]
    refine lv_if_eq (tgt := 664) hx hb dL_law_659 (by decide) (fun _ => ?_) (fun h => absurd rfl h)
    refine lv_goto (tgt := 1502) hx hb dL_law_664 (by decide) ?_
    refine W.widen (k := cells + 8) (n := slots + 160) (k_3e (Nat.le_of_ble_eq_true rfl)) (k_3e (Nat.le_of_ble_eq_true rfl)) ?_
    exact kk _ _ _ _ _ hs9.2.2 hw (lv_sub hl [2, 3, 4, 5, 6] rfl)
abbrev SS_vote (f : Nat → Int64) (ad : Nat → Nat) (n : Nat) (σ μ : S3) (J : LSt → S3 → Prop) : Prop := ∀ (x0 x1 : Int32), (x1 = 0 ∨ x1 = 1) → SimI (lP2 f ad n σ xIO xIS (e2 xIO xIS (inI x0 n) (voP σ x0.toNatClampNeg)) Int32.toInt64 (fun r u => inI x0 n ∧ voP σ x0.toNatClampNeg ∧ r = bcF ((tvF σ (br σ x0.toNatClampNeg) x0.toNatClampNeg x1) 12 (br σ x0.toNatClampNeg) 0) ∧ u = tvF σ (br σ x0.toNatClampNeg) x0.toNatClampNeg x1)) (mP2 μ (inI x0 (nm μ)) (voM (th0 μ) x0.toNatClampNeg) ((mvF (th0 μ) (br (th0 μ) x0.toNatClampNeg) x0.toNatClampNeg x1) 11 (br (th0 μ) x0.toNatClampNeg) 0 + (mvF (th0 μ) (br (th0 μ) x0.toNatClampNeg) x0.toNatClampNeg x1) 12 (br (th0 μ) x0.toNatClampNeg) 0) (mvF (th0 μ) (br (th0 μ) x0.toNatClampNeg) x0.toNatClampNeg x1)) Int32.toInt64 J
set_option maxHeartbeats 2000000 in
set_option maxRecDepth 100000 in
theorem law_vote {p : Program} {l : Launch} {e : Env} {s : State} {m : MethodId} {below : List Frame} {meth : Method} {c : Code} {D : va_G} {cy : Nat → ClassId} {o : Nat} {am : Nat → Nat} {b L : Nat} {xs : Nat → Int32} {Q : State → Prop} {cells slots : Nat} (hl9 : l.stackTraces = false) (C0 : lw_At p s m meth c b L xs) (hg : GX s) {f : Nat → Int64} {ad : Nat → Nat} {n : Nat} {σ μ : S3} {H : Heap} {locs : List Loc} (hw : GW D cy s o am (f, ad, n, σ) μ H locs) {i : Nat} (hi : i + 4 ≤ L) (hL : L ≤ 2048) (hc : cells + 8 ≤ 601024) (hs : slots + 160 ≤ 7293034) (J : LSt → S3 → Prop) (hn : n ≤ 16) (hsim : SS_vote f ad n σ μ J) {ls : Array Slot} (hl : lv_has ls 7 [(0, .ref b), (1, .ref (ad 0)), (2, .ref (am 0)), (3, .ref o), (4, .int (nI i))]) (kk : ∀ (u1 : LSt) (μ1 : S3) (H1 : Heap) (locs1 : List Loc) (ls1 : Array Slot), J u1 μ1 → GW D cy s o am u1 μ1 H1 locs1 → lv_has ls1 7 [(0, .ref b), (1, .ref (ad 0)), (2, .ref (am 0)), (3, .ref o), (4, .int (nI i))] → W p l e room_1 s m #[Value.ref b] below meth c H1 locs1 (cells + 8) (slots + 160) Q (F0 m 1502 ls1 [])) : W p l e room_1 s m #[Value.ref b] below meth c H locs cells slots Q (F0 m 667 ls []) := by
  obtain ⟨hx, hb, hr, hml, hown, hts0, hX, hbl, hlocks, hgv⟩ := C0
  have hts : ∀ w ∈ wsL_law, w.before #[Value.ref b] s = true := fun w h => hts0 w (wsL_law_in w h)
  have S : CallFix p m c cL_law 7 s #[Value.ref b] wsL_law RL := ⟨hx, hb, hml, hown, hts⟩
  have hbA : ¬ lA9 s b := Nat.not_le.mpr hbl
  obtain ⟨y1, ey1⟩ : ∃ y, y = xs (nI (i + 1)).toNatClampNeg := ⟨_, rfl⟩
  obtain ⟨y2, ey2⟩ : ∃ y, y = xs (nI (i + 2)).toNatClampNeg := ⟨_, rfl⟩
  refine lv_aload_n hx hb dL_law_667 rfl (lv_at hl 1 rfl) ?_
  refine lv_aload_n hx hb dL_law_668 rfl (lv_at hl 0 rfl) ?_
  refine lv_iload hx hb dL_law_669 (lv_at hl 4 rfl) ?_
  refine lv_iconst (v := 1) hx hb dL_law_671 (by decide) ?_
  refine lv_iadd hx hb dL_law_672 ?_
  rw [show nI i + 1 = nI (i + 1) from nI_add i 1]
  refine va_sld hx hb hX hbl hbA hw.2.2.2 (vp_in_nI (by omega) (by omega)) dL_law_673 ?_
  rw [← ey1]
  refine lv_aload_n hx hb dL_law_674 rfl (lv_at hl 0 rfl) ?_
  refine lv_iload hx hb dL_law_675 (lv_at hl 4 rfl) ?_
  refine lv_iconst (v := 2) hx hb dL_law_677 (by decide) ?_
  refine lv_iadd hx hb dL_law_678 ?_
  rw [show nI i + 2 = nI (i + 2) from nI_add i 2]
  refine va_sld hx hb hX hbl hbA hw.2.2.2 (vp_in_nI (by omega) (by omega)) dL_law_679 ?_
  rw [← ey2]
  refine lv_if_eq (tgt := 687) hx hb dL_law_680 (by decide) (fun cz => ?_) (fun cz => ?_)
  · refine lv_iconst (v := 0) hx hb dL_law_687 (by decide) ?_
    refine lv_aload_n hx hb dL_law_688 rfl (lv_at hl 3 rfl) ?_
    refine gl_T hw (vx_runSX (As := [.ref (ad 0), .int y1, .int 0, .ref o]) (rest := []) S (c_L_vote l hl9 D cy o f ad n σ hn y1 0 _) (vx_cwSW 4 hts gL_law_L_vote rfl rfl rfl (by decide +kernel) ⟨Nat.le_of_ble_eq_true rfl, Nat.le_of_ble_eq_true rfl⟩) (gl_preS hw hg _) rfl rfl hl.1 rfl (lv_room (Nat.le_of_ble_eq_true rfl)) dL_law_689 ⟨k_1l hc (Nat.le_of_ble_eq_true rfl), k_1l hs (Nat.le_of_ble_eq_true rfl)⟩) (fun r1 u1 H locs hp1 hw => ?_)
    refine lv_istore (lv' := [(5, .int r1), (0, .ref b), (1, .ref (ad 0)), (2, .ref (am 0)), (3, .ref o), (4, .int (nI i))]) hx hb dL_law_692 hl (by decide) rfl (fun ls hl => ?_)
    refine lv_aload_n hx hb dL_law_694 rfl (lv_at hl 3 rfl) ?_
    refine lv_aload_n hx hb dL_law_695 rfl (lv_at hl 1 rfl) ?_
    refine lv_iload hx hb dL_law_696 (lv_at hl 5 rfl) ?_
    refine lv_iconst (v := 1) hx hb dL_law_698 (by decide) ?_
    refine lv_iadd hx hb dL_law_699 ?_
    rw [show nI i + 1 = nI (i + 1) from nI_add i 1]
    refine va_sld hx hb hX hbl hbA hw.2.2.2 (vp_in_nI (by omega) (by omega)) dL_law_700 ?_
    rw [← ey1]
    refine lv_aload_n hx hb dL_law_701 rfl (lv_at hl 1 rfl) ?_
    refine lv_iload hx hb dL_law_702 (lv_at hl 5 rfl) ?_
    refine lv_iconst (v := 2) hx hb dL_law_704 (by decide) ?_
    refine lv_iadd hx hb dL_law_705 ?_
    rw [show nI i + 2 = nI (i + 2) from nI_add i 2]
    refine va_sld hx hb hX hbl hbA hw.2.2.2 (vp_in_nI (by omega) (by omega)) dL_law_706 ?_
    rw [← ey2]
    refine lv_if_eq (tgt := 714) hx hb dL_law_707 (by decide) (fun _ => ?_) (fun h => absurd cz h)
    refine lv_iconst (v := 0) hx hb dL_law_714 (by decide) ?_
    refine gm_T hw (va_runV (As := [.int y1, .int 0]) (rest := []) S (c_X4_vote l D cy am μ y1 0 _) (cwV 2 hts gL_law_X4_vote rfl rfl rfl (by decide +kernel) ⟨Nat.le_of_ble_eq_true rfl, Nat.le_of_ble_eq_true rfl⟩) (gm_preV hw _) rfl rfl hl.1 rfl (lv_room (Nat.le_of_ble_eq_true rfl)) dL_law_715 ⟨k_2l hc (Nat.le_of_ble_eq_true rfl), k_2l hs (Nat.le_of_ble_eq_true rfl)⟩) (fun v μ1 H locs hp2 hw => ?_)
    obtain ⟨b1, rfl, hp2⟩ := hp2
    refine W.eq (g2 := F0 m 718 ls [.int b1]) rfl ?_
    have hs9 := hsim y1 0 (Or.inl rfl) r1 u1 b1 μ1 hp1 hp2
    refine lv_istore (lv' := [(6, .int b1), (5, .int r1), (0, .ref b), (1, .ref (ad 0)), (2, .ref (am 0)), (3, .ref o), (4, .int (nI i))]) hx hb dL_law_718 hl (by decide) rfl (fun ls hl => ?_)
    refine lv_aload_n hx hb dL_law_720 rfl (lv_at hl 4 rfl) ?_
    refine gm_T hw (va_runV (As := []) (rest := []) S (c_X4_thrown l D cy am μ1 _) (cwV 0 hts gL_law_X4_thrown rfl rfl rfl (by decide +kernel) ⟨Nat.le_of_ble_eq_true rfl, Nat.le_of_ble_eq_true rfl⟩) (gm_preV hw _) rfl rfl hl.1 rfl (lv_room (Nat.le_of_ble_eq_true rfl)) dL_law_721 ⟨k_3l hc (Nat.le_of_ble_eq_true rfl), k_3l hs (Nat.le_of_ble_eq_true rfl)⟩) (fun v9 μ9 H locs hp3 hw => ?_)
    obtain ⟨r2, rfl, hu9, hr2⟩ := hp3
    rw [hu9] at hw
    refine W.eq (g2 := F0 m 724 ls [.int r2]) rfl ?_
    refine lv_iload hx hb dL_law_724 (lv_at hl 1 rfl) ?_
    refine lv_icmp_eq (tgt := 731) hx hb dL_law_726 (by decide) (fun _ => ?_) (fun c9 => absurd (hr2.trans hs9.1) c9)
    refine lv_iload hx hb dL_law_731 (lv_at hl 1 rfl) ?_
    refine lv_if_ne (tgt := 748) hx hb dL_law_733 (by decide) (fun c8 => ?_) (fun c8 => ?_)
    · refine lv_goto (tgt := 1502) hx hb dL_law_748 (by decide) ?_
      refine W.widen (k := cells + 8) (n := slots + 160) (k_3e (Nat.le_of_ble_eq_true rfl)) (k_3e (Nat.le_of_ble_eq_true rfl)) ?_
      exact kk _ _ _ _ _ hs9.2.2 hw (lv_sub hl [2, 3, 4, 5, 6] rfl)
    · refine lv_aload_n hx hb dL_law_736 rfl (lv_at hl 5 rfl) ?_
      refine lv_iconst (v := 0) hx hb dL_law_737 (by decide) ?_
      refine g_out hx hb hw dL_law_738 ?_
      refine lv_iload hx hb dL_law_739 (lv_at hl 0 rfl) ?_
      refine lv_i2l (v := b1.toInt64) hx hb dL_law_741 rfl ?_
      refine W.lcmp hx hb dL_law_742 ?_
      rw [show lg_cmp (u1.1 (0 : Int32).toNatClampNeg) (b1.toInt64) = 0 by rw [(hs9.2.1 c8)]; exact lg_self _]
      refine lv_if_eq (tgt := 748) hx hb dL_law_743 (by decide) (fun _ => ?_) (fun h => absurd rfl h)
      refine lv_goto (tgt := 1502) hx hb dL_law_748 (by decide) ?_
      refine W.widen (k := cells + 8) (n := slots + 160) (k_3e (Nat.le_of_ble_eq_true rfl)) (k_3e (Nat.le_of_ble_eq_true rfl)) ?_
      exact kk _ _ _ _ _ hs9.2.2 hw (lv_sub hl [2, 3, 4, 5, 6] rfl)
  · refine lv_iconst (v := 1) hx hb dL_law_683 (by decide) ?_
    refine lv_goto (tgt := 688) hx hb dL_law_684 (by decide) ?_
    refine lv_aload_n hx hb dL_law_688 rfl (lv_at hl 3 rfl) ?_
    refine gl_T hw (vx_runSX (As := [.ref (ad 0), .int y1, .int 1, .ref o]) (rest := []) S (c_L_vote l hl9 D cy o f ad n σ hn y1 1 _) (vx_cwSW 4 hts gL_law_L_vote rfl rfl rfl (by decide +kernel) ⟨Nat.le_of_ble_eq_true rfl, Nat.le_of_ble_eq_true rfl⟩) (gl_preS hw hg _) rfl rfl hl.1 rfl (lv_room (Nat.le_of_ble_eq_true rfl)) dL_law_689 ⟨k_1l hc (Nat.le_of_ble_eq_true rfl), k_1l hs (Nat.le_of_ble_eq_true rfl)⟩) (fun r1 u1 H locs hp1 hw => ?_)
    refine lv_istore (lv' := [(5, .int r1), (0, .ref b), (1, .ref (ad 0)), (2, .ref (am 0)), (3, .ref o), (4, .int (nI i))]) hx hb dL_law_692 hl (by decide) rfl (fun ls hl => ?_)
    refine lv_aload_n hx hb dL_law_694 rfl (lv_at hl 3 rfl) ?_
    refine lv_aload_n hx hb dL_law_695 rfl (lv_at hl 1 rfl) ?_
    refine lv_iload hx hb dL_law_696 (lv_at hl 5 rfl) ?_
    refine lv_iconst (v := 1) hx hb dL_law_698 (by decide) ?_
    refine lv_iadd hx hb dL_law_699 ?_
    rw [show nI i + 1 = nI (i + 1) from nI_add i 1]
    refine va_sld hx hb hX hbl hbA hw.2.2.2 (vp_in_nI (by omega) (by omega)) dL_law_700 ?_
    rw [← ey1]
    refine lv_aload_n hx hb dL_law_701 rfl (lv_at hl 1 rfl) ?_
    refine lv_iload hx hb dL_law_702 (lv_at hl 5 rfl) ?_
    refine lv_iconst (v := 2) hx hb dL_law_704 (by decide) ?_
    refine lv_iadd hx hb dL_law_705 ?_
    rw [show nI i + 2 = nI (i + 2) from nI_add i 2]
    refine va_sld hx hb hX hbl hbA hw.2.2.2 (vp_in_nI (by omega) (by omega)) dL_law_706 ?_
    rw [← ey2]
    refine lv_if_eq (tgt := 714) hx hb dL_law_707 (by decide) (fun h => absurd h cz) (fun _ => ?_)
    refine lv_iconst (v := 1) hx hb dL_law_710 (by decide) ?_
    refine lv_goto (tgt := 715) hx hb dL_law_711 (by decide) ?_
    refine gm_T hw (va_runV (As := [.int y1, .int 1]) (rest := []) S (c_X4_vote l D cy am μ y1 1 _) (cwV 2 hts gL_law_X4_vote rfl rfl rfl (by decide +kernel) ⟨Nat.le_of_ble_eq_true rfl, Nat.le_of_ble_eq_true rfl⟩) (gm_preV hw _) rfl rfl hl.1 rfl (lv_room (Nat.le_of_ble_eq_true rfl)) dL_law_715 ⟨k_2l hc (Nat.le_of_ble_eq_true rfl), k_2l hs (Nat.le_of_ble_eq_true rfl)⟩) (fun v μ1 H locs hp2 hw => ?_)
    obtain ⟨b1, rfl, hp2⟩ := hp2
    refine W.eq (g2 := F0 m 718 ls [.int b1]) rfl ?_
    have hs9 := hsim y1 1 (Or.inr rfl) r1 u1 b1 μ1 hp1 hp2
    refine lv_istore (lv' := [(6, .int b1), (5, .int r1), (0, .ref b), (1, .ref (ad 0)), (2, .ref (am 0)), (3, .ref o), (4, .int (nI i))]) hx hb dL_law_718 hl (by decide) rfl (fun ls hl => ?_)
    refine lv_aload_n hx hb dL_law_720 rfl (lv_at hl 4 rfl) ?_
    refine gm_T hw (va_runV (As := []) (rest := []) S (c_X4_thrown l D cy am μ1 _) (cwV 0 hts gL_law_X4_thrown rfl rfl rfl (by decide +kernel) ⟨Nat.le_of_ble_eq_true rfl, Nat.le_of_ble_eq_true rfl⟩) (gm_preV hw _) rfl rfl hl.1 rfl (lv_room (Nat.le_of_ble_eq_true rfl)) dL_law_721 ⟨k_3l hc (Nat.le_of_ble_eq_true rfl), k_3l hs (Nat.le_of_ble_eq_true rfl)⟩) (fun v9 μ9 H locs hp3 hw => ?_)
    obtain ⟨r2, rfl, hu9, hr2⟩ := hp3
    rw [hu9] at hw
    refine W.eq (g2 := F0 m 724 ls [.int r2]) rfl ?_
    refine lv_iload hx hb dL_law_724 (lv_at hl 1 rfl) ?_
    refine lv_icmp_eq (tgt := 731) hx hb dL_law_726 (by decide) (fun _ => ?_) (fun c9 => absurd (hr2.trans hs9.1) c9)
    refine lv_iload hx hb dL_law_731 (lv_at hl 1 rfl) ?_
    refine lv_if_ne (tgt := 748) hx hb dL_law_733 (by decide) (fun c8 => ?_) (fun c8 => ?_)
    · refine lv_goto (tgt := 1502) hx hb dL_law_748 (by decide) ?_
      refine W.widen (k := cells + 8) (n := slots + 160) (k_3e (Nat.le_of_ble_eq_true rfl)) (k_3e (Nat.le_of_ble_eq_true rfl)) ?_
      exact kk _ _ _ _ _ hs9.2.2 hw (lv_sub hl [2, 3, 4, 5, 6] rfl)
    · refine lv_aload_n hx hb dL_law_736 rfl (lv_at hl 5 rfl) ?_
      refine lv_iconst (v := 0) hx hb dL_law_737 (by decide) ?_
      refine g_out hx hb hw dL_law_738 ?_
      refine lv_iload hx hb dL_law_739 (lv_at hl 0 rfl) ?_
      refine lv_i2l (v := b1.toInt64) hx hb dL_law_741 rfl ?_
      refine W.lcmp hx hb dL_law_742 ?_
      rw [show lg_cmp (u1.1 (0 : Int32).toNatClampNeg) (b1.toInt64) = 0 by rw [(hs9.2.1 c8)]; exact lg_self _]
      refine lv_if_eq (tgt := 748) hx hb dL_law_743 (by decide) (fun _ => ?_) (fun h => absurd rfl h)
      refine lv_goto (tgt := 1502) hx hb dL_law_748 (by decide) ?_
      refine W.widen (k := cells + 8) (n := slots + 160) (k_3e (Nat.le_of_ble_eq_true rfl)) (k_3e (Nat.le_of_ble_eq_true rfl)) ?_
      exact kk _ _ _ _ _ hs9.2.2 hw (lv_sub hl [2, 3, 4, 5, 6] rfl)
abbrev SS_close (f : Nat → Int64) (ad : Nat → Nat) (n : Nat) (σ μ : S3) (J : LSt → S3 → Prop) : Prop := ∀ (x0 : Int32), SimI (lP2 f ad n σ xIO xIS (e2 xIO xIS (inI x0 4) (¬ σ 10 x0.toNatClampNeg 0 = 0)) z64 (fun r u => inI x0 4 ∧ ¬ σ 10 x0.toNatClampNeg 0 = 0 ∧ r = wonI σ x0.toNatClampNeg (cntF σ n x0.toNatClampNeg (σ 18 0 0) 16) ∧ u = ebF σ x0.toNatClampNeg (cntF σ n x0.toNatClampNeg (σ 18 0 0) 16))) (mP2 μ (inI x0 4) (¬ μ 10 x0.toNatClampNeg 0 = 0) (wnM (su (th0 μ) 10 x0.toNatClampNeg 0 0) x0.toNatClampNeg) (mcF μ x0.toNatClampNeg)) z64 J
set_option maxHeartbeats 2000000 in
set_option maxRecDepth 100000 in
theorem law_close {p : Program} {l : Launch} {e : Env} {s : State} {m : MethodId} {below : List Frame} {meth : Method} {c : Code} {D : va_G} {cy : Nat → ClassId} {o : Nat} {am : Nat → Nat} {b L : Nat} {xs : Nat → Int32} {Q : State → Prop} {cells slots : Nat} (hl9 : l.stackTraces = false) (C0 : lw_At p s m meth c b L xs) (hg : GX s) {f : Nat → Int64} {ad : Nat → Nat} {n : Nat} {σ μ : S3} {H : Heap} {locs : List Loc} (hw : GW D cy s o am (f, ad, n, σ) μ H locs) {i : Nat} (hi : i + 4 ≤ L) (hL : L ≤ 2048) (hc : cells + 8 ≤ 601024) (hs : slots + 160 ≤ 7293034) (J : LSt → S3 → Prop)  (hsim : SS_close f ad n σ μ J) {ls : Array Slot} (hl : lv_has ls 7 [(0, .ref b), (1, .ref (ad 0)), (2, .ref (am 0)), (3, .ref o), (4, .int (nI i))]) (kk : ∀ (u1 : LSt) (μ1 : S3) (H1 : Heap) (locs1 : List Loc) (ls1 : Array Slot), J u1 μ1 → GW D cy s o am u1 μ1 H1 locs1 → lv_has ls1 7 [(0, .ref b), (1, .ref (ad 0)), (2, .ref (am 0)), (3, .ref o), (4, .int (nI i))] → W p l e room_1 s m #[Value.ref b] below meth c H1 locs1 (cells + 8) (slots + 160) Q (F0 m 1502 ls1 [])) : W p l e room_1 s m #[Value.ref b] below meth c H locs cells slots Q (F0 m 751 ls []) := by
  obtain ⟨hx, hb, hr, hml, hown, hts0, hX, hbl, hlocks, hgv⟩ := C0
  have hts : ∀ w ∈ wsL_law, w.before #[Value.ref b] s = true := fun w h => hts0 w (wsL_law_in w h)
  have S : CallFix p m c cL_law 7 s #[Value.ref b] wsL_law RL := ⟨hx, hb, hml, hown, hts⟩
  have hbA : ¬ lA9 s b := Nat.not_le.mpr hbl
  obtain ⟨y1, ey1⟩ : ∃ y, y = xs (nI (i + 1)).toNatClampNeg := ⟨_, rfl⟩
  refine lv_aload_n hx hb dL_law_751 rfl (lv_at hl 1 rfl) ?_
  refine lv_aload_n hx hb dL_law_752 rfl (lv_at hl 0 rfl) ?_
  refine lv_iload hx hb dL_law_753 (lv_at hl 4 rfl) ?_
  refine lv_iconst (v := 1) hx hb dL_law_755 (by decide) ?_
  refine lv_iadd hx hb dL_law_756 ?_
  rw [show nI i + 1 = nI (i + 1) from nI_add i 1]
  refine va_sld hx hb hX hbl hbA hw.2.2.2 (vp_in_nI (by omega) (by omega)) dL_law_757 ?_
  rw [← ey1]
  refine lv_aload_n hx hb dL_law_758 rfl (lv_at hl 3 rfl) ?_
  refine gl_T hw (vx_runSX (As := [.ref (ad 0), .int y1, .ref o]) (rest := []) S (c_L_close l hl9 D cy o f ad n σ y1 _) (vx_cwSW 3 hts gL_law_L_close rfl rfl rfl (by decide +kernel) ⟨Nat.le_of_ble_eq_true rfl, Nat.le_of_ble_eq_true rfl⟩) (gl_preS hw hg _) rfl rfl hl.1 rfl (lv_room (Nat.le_of_ble_eq_true rfl)) dL_law_759 ⟨k_1l hc (Nat.le_of_ble_eq_true rfl), k_1l hs (Nat.le_of_ble_eq_true rfl)⟩) (fun r1 u1 H locs hp1 hw => ?_)
  refine lv_istore (lv' := [(5, .int r1), (0, .ref b), (1, .ref (ad 0)), (2, .ref (am 0)), (3, .ref o), (4, .int (nI i))]) hx hb dL_law_762 hl (by decide) rfl (fun ls hl => ?_)
  refine lv_aload_n hx hb dL_law_764 rfl (lv_at hl 3 rfl) ?_
  refine lv_aload_n hx hb dL_law_765 rfl (lv_at hl 1 rfl) ?_
  refine lv_iload hx hb dL_law_766 (lv_at hl 5 rfl) ?_
  refine lv_iconst (v := 1) hx hb dL_law_768 (by decide) ?_
  refine lv_iadd hx hb dL_law_769 ?_
  rw [show nI i + 1 = nI (i + 1) from nI_add i 1]
  refine va_sld hx hb hX hbl hbA hw.2.2.2 (vp_in_nI (by omega) (by omega)) dL_law_770 ?_
  rw [← ey1]
  refine gm_T hw (va_runV (As := [.int y1]) (rest := []) S (c_X4_close l D cy am μ y1 _) (cwV 1 hts gL_law_X4_close rfl rfl rfl (by decide +kernel) ⟨Nat.le_of_ble_eq_true rfl, Nat.le_of_ble_eq_true rfl⟩) (gm_preV hw _) rfl rfl hl.1 rfl (lv_room (Nat.le_of_ble_eq_true rfl)) dL_law_771 ⟨k_2l hc (Nat.le_of_ble_eq_true rfl), k_2l hs (Nat.le_of_ble_eq_true rfl)⟩) (fun v μ1 H locs hp2 hw => ?_)
  obtain ⟨b1, rfl, hp2⟩ := hp2
  refine W.eq (g2 := F0 m 774 ls [.int b1]) rfl ?_
  have hs9 := hsim y1 r1 u1 b1 μ1 hp1 hp2
  refine lv_istore (lv' := [(6, .int b1), (5, .int r1), (0, .ref b), (1, .ref (ad 0)), (2, .ref (am 0)), (3, .ref o), (4, .int (nI i))]) hx hb dL_law_774 hl (by decide) rfl (fun ls hl => ?_)
  refine lv_aload_n hx hb dL_law_776 rfl (lv_at hl 4 rfl) ?_
  refine gm_T hw (va_runV (As := []) (rest := []) S (c_X4_thrown l D cy am μ1 _) (cwV 0 hts gL_law_X4_thrown rfl rfl rfl (by decide +kernel) ⟨Nat.le_of_ble_eq_true rfl, Nat.le_of_ble_eq_true rfl⟩) (gm_preV hw _) rfl rfl hl.1 rfl (lv_room (Nat.le_of_ble_eq_true rfl)) dL_law_777 ⟨k_3l hc (Nat.le_of_ble_eq_true rfl), k_3l hs (Nat.le_of_ble_eq_true rfl)⟩) (fun v9 μ9 H locs hp3 hw => ?_)
  obtain ⟨r2, rfl, hu9, hr2⟩ := hp3
  rw [hu9] at hw
  refine W.eq (g2 := F0 m 780 ls [.int r2]) rfl ?_
  refine lv_iload hx hb dL_law_780 (lv_at hl 1 rfl) ?_
  refine lv_icmp_eq (tgt := 787) hx hb dL_law_782 (by decide) (fun _ => ?_) (fun c9 => absurd (hr2.trans hs9.1) c9)
  refine lv_iload hx hb dL_law_787 (lv_at hl 1 rfl) ?_
  refine lv_if_ne (tgt := 811) hx hb dL_law_789 (by decide) (fun c8 => ?_) (fun c8 => ?_)
  · refine lv_goto (tgt := 1502) hx hb dL_law_811 (by decide) ?_
    refine W.widen (k := cells + 8) (n := slots + 160) (k_3e (Nat.le_of_ble_eq_true rfl)) (k_3e (Nat.le_of_ble_eq_true rfl)) ?_
    exact kk _ _ _ _ _ hs9.2.2 hw (lv_sub hl [2, 3, 4, 5, 6] rfl)
  · refine lv_aload_n hx hb dL_law_792 rfl (lv_at hl 5 rfl) ?_
    refine lv_iconst (v := 0) hx hb dL_law_793 (by decide) ?_
    refine g_out hx hb hw dL_law_794 ?_
    refine lv_iload hx hb dL_law_795 (lv_at hl 0 rfl) ?_
    refine lv_if_eq (tgt := 804) hx hb dL_law_797 (by decide) (fun c7 => ?_) (fun c7 => ?_)
    · refine lv_lconst (v := 0) hx hb dL_law_804 (by decide) ?_
      refine W.lcmp hx hb dL_law_805 ?_
      rw [show lg_cmp (u1.1 (0 : Int32).toNatClampNeg) (0) = 0 by rw [(hs9.2.1 c8).trans (if_pos c7)]; exact lg_self _]
      refine lv_if_eq (tgt := 811) hx hb dL_law_806 (by decide) (fun _ => ?_) (fun h => absurd rfl h)
      refine lv_goto (tgt := 1502) hx hb dL_law_811 (by decide) ?_
      refine W.widen (k := cells + 8) (n := slots + 160) (k_3e (Nat.le_of_ble_eq_true rfl)) (k_3e (Nat.le_of_ble_eq_true rfl)) ?_
      exact kk _ _ _ _ _ hs9.2.2 hw (lv_sub hl [2, 3, 4, 5, 6] rfl)
    · refine lv_lconst (v := 1) hx hb dL_law_800 (by decide) ?_
      refine lv_goto (tgt := 805) hx hb dL_law_801 (by decide) ?_
      refine W.lcmp hx hb dL_law_805 ?_
      rw [show lg_cmp (u1.1 (0 : Int32).toNatClampNeg) (1) = 0 by rw [(hs9.2.1 c8).trans (if_neg c7)]; exact lg_self _]
      refine lv_if_eq (tgt := 811) hx hb dL_law_806 (by decide) (fun _ => ?_) (fun h => absurd rfl h)
      refine lv_goto (tgt := 1502) hx hb dL_law_811 (by decide) ?_
      refine W.widen (k := cells + 8) (n := slots + 160) (k_3e (Nat.le_of_ble_eq_true rfl)) (k_3e (Nat.le_of_ble_eq_true rfl)) ?_
      exact kk _ _ _ _ _ hs9.2.2 hw (lv_sub hl [2, 3, 4, 5, 6] rfl)
abbrev SS_strike (f : Nat → Int64) (ad : Nat → Nat) (n : Nat) (σ μ : S3) (J : LSt → S3 → Prop) : Prop := ∀ (x0 x1 : Int32), (x1 = 0 ∨ x1 = 1) → SimV (lV2 f ad n σ xIO xIS (e2 xIO xIS (inI x0 4) (skP σ x0.toNatClampNeg x1)) (fun u => inI x0 4 ∧ skP σ x0.toNatClampNeg x1 ∧ u = su (su σ 14 x0.toNatClampNeg 0 x1) 13 x0.toNatClampNeg 0 0)) (mV2 μ (inI x0 4) (skM (th0 μ) x0.toNatClampNeg x1) (su (su (th0 μ) 14 x0.toNatClampNeg 0 x1) 13 x0.toNatClampNeg 0 0)) J
set_option maxHeartbeats 2000000 in
set_option maxRecDepth 100000 in
theorem law_strike {p : Program} {l : Launch} {e : Env} {s : State} {m : MethodId} {below : List Frame} {meth : Method} {c : Code} {D : va_G} {cy : Nat → ClassId} {o : Nat} {am : Nat → Nat} {b L : Nat} {xs : Nat → Int32} {Q : State → Prop} {cells slots : Nat} (hl9 : l.stackTraces = false) (C0 : lw_At p s m meth c b L xs) (hg : GX s) {f : Nat → Int64} {ad : Nat → Nat} {n : Nat} {σ μ : S3} {H : Heap} {locs : List Loc} (hw : GW D cy s o am (f, ad, n, σ) μ H locs) {i : Nat} (hi : i + 4 ≤ L) (hL : L ≤ 2048) (hc : cells + 8 ≤ 601024) (hs : slots + 160 ≤ 7293034) (J : LSt → S3 → Prop)  (hsim : SS_strike f ad n σ μ J) {ls : Array Slot} (hl : lv_has ls 7 [(0, .ref b), (1, .ref (ad 0)), (2, .ref (am 0)), (3, .ref o), (4, .int (nI i))]) (kk : ∀ (u1 : LSt) (μ1 : S3) (H1 : Heap) (locs1 : List Loc) (ls1 : Array Slot), J u1 μ1 → GW D cy s o am u1 μ1 H1 locs1 → lv_has ls1 7 [(0, .ref b), (1, .ref (ad 0)), (2, .ref (am 0)), (3, .ref o), (4, .int (nI i))] → W p l e room_1 s m #[Value.ref b] below meth c H1 locs1 (cells + 8) (slots + 160) Q (F0 m 1502 ls1 [])) : W p l e room_1 s m #[Value.ref b] below meth c H locs cells slots Q (F0 m 814 ls []) := by
  obtain ⟨hx, hb, hr, hml, hown, hts0, hX, hbl, hlocks, hgv⟩ := C0
  have hts : ∀ w ∈ wsL_law, w.before #[Value.ref b] s = true := fun w h => hts0 w (wsL_law_in w h)
  have S : CallFix p m c cL_law 7 s #[Value.ref b] wsL_law RL := ⟨hx, hb, hml, hown, hts⟩
  have hbA : ¬ lA9 s b := Nat.not_le.mpr hbl
  obtain ⟨y1, ey1⟩ : ∃ y, y = xs (nI (i + 1)).toNatClampNeg := ⟨_, rfl⟩
  obtain ⟨y2, ey2⟩ : ∃ y, y = xs (nI (i + 2)).toNatClampNeg := ⟨_, rfl⟩
  refine lv_aload_n hx hb dL_law_814 rfl (lv_at hl 1 rfl) ?_
  refine lv_aload_n hx hb dL_law_815 rfl (lv_at hl 0 rfl) ?_
  refine lv_iload hx hb dL_law_816 (lv_at hl 4 rfl) ?_
  refine lv_iconst (v := 1) hx hb dL_law_818 (by decide) ?_
  refine lv_iadd hx hb dL_law_819 ?_
  rw [show nI i + 1 = nI (i + 1) from nI_add i 1]
  refine va_sld hx hb hX hbl hbA hw.2.2.2 (vp_in_nI (by omega) (by omega)) dL_law_820 ?_
  rw [← ey1]
  refine lv_aload_n hx hb dL_law_821 rfl (lv_at hl 0 rfl) ?_
  refine lv_iload hx hb dL_law_822 (lv_at hl 4 rfl) ?_
  refine lv_iconst (v := 2) hx hb dL_law_824 (by decide) ?_
  refine lv_iadd hx hb dL_law_825 ?_
  rw [show nI i + 2 = nI (i + 2) from nI_add i 2]
  refine va_sld hx hb hX hbl hbA hw.2.2.2 (vp_in_nI (by omega) (by omega)) dL_law_826 ?_
  rw [← ey2]
  refine lv_if_eq (tgt := 834) hx hb dL_law_827 (by decide) (fun cz => ?_) (fun cz => ?_)
  · refine lv_iconst (v := 0) hx hb dL_law_834 (by decide) ?_
    refine gl_T hw (vx_runSX (As := [.ref (ad 0), .int y1, .int 0]) (rest := []) S (c_L_strike l hl9 D cy o f ad n σ y1 0 (Or.inl rfl) _) (vx_cwSW 3 hts gL_law_L_strike rfl rfl rfl (by decide +kernel) ⟨Nat.le_of_ble_eq_true rfl, Nat.le_of_ble_eq_true rfl⟩) (gl_preS hw hg _) rfl rfl hl.1 rfl (lv_room (Nat.le_of_ble_eq_true rfl)) dL_law_835 ⟨k_1l hc (Nat.le_of_ble_eq_true rfl), k_1l hs (Nat.le_of_ble_eq_true rfl)⟩) (fun r1 u1 H locs hp1 hw => ?_)
    refine lv_istore (lv' := [(5, .int r1), (0, .ref b), (1, .ref (ad 0)), (2, .ref (am 0)), (3, .ref o), (4, .int (nI i))]) hx hb dL_law_838 hl (by decide) rfl (fun ls hl => ?_)
    refine lv_aload_n hx hb dL_law_840 rfl (lv_at hl 3 rfl) ?_
    refine lv_aload_n hx hb dL_law_841 rfl (lv_at hl 1 rfl) ?_
    refine lv_iload hx hb dL_law_842 (lv_at hl 5 rfl) ?_
    refine lv_iconst (v := 1) hx hb dL_law_844 (by decide) ?_
    refine lv_iadd hx hb dL_law_845 ?_
    rw [show nI i + 1 = nI (i + 1) from nI_add i 1]
    refine va_sld hx hb hX hbl hbA hw.2.2.2 (vp_in_nI (by omega) (by omega)) dL_law_846 ?_
    rw [← ey1]
    refine lv_aload_n hx hb dL_law_847 rfl (lv_at hl 1 rfl) ?_
    refine lv_iload hx hb dL_law_848 (lv_at hl 5 rfl) ?_
    refine lv_iconst (v := 2) hx hb dL_law_850 (by decide) ?_
    refine lv_iadd hx hb dL_law_851 ?_
    rw [show nI i + 2 = nI (i + 2) from nI_add i 2]
    refine va_sld hx hb hX hbl hbA hw.2.2.2 (vp_in_nI (by omega) (by omega)) dL_law_852 ?_
    rw [← ey2]
    refine lv_if_eq (tgt := 860) hx hb dL_law_853 (by decide) (fun _ => ?_) (fun h => absurd cz h)
    refine lv_iconst (v := 0) hx hb dL_law_860 (by decide) ?_
    refine gm_T hw (va_runV (As := [.int y1, .int 0]) (rest := []) S (c_X4_strike l D cy am μ y1 0 (Or.inl rfl) _) (cwV 2 hts gL_law_X4_strike rfl rfl rfl (by decide +kernel) ⟨Nat.le_of_ble_eq_true rfl, Nat.le_of_ble_eq_true rfl⟩) (gm_preV hw _) rfl rfl hl.1 rfl (lv_room (Nat.le_of_ble_eq_true rfl)) dL_law_861 ⟨k_2l hc (Nat.le_of_ble_eq_true rfl), k_2l hs (Nat.le_of_ble_eq_true rfl)⟩) (fun v μ1 H locs hp2 hw => ?_)
    obtain ⟨rfl, hp2⟩ := hp2
    refine W.eq (g2 := F0 m 864 ls []) rfl ?_
    have hs9 := hsim y1 0 (Or.inl rfl) r1 u1 μ1 hp1 hp2
    refine lv_aload_n hx hb dL_law_864 rfl (lv_at hl 3 rfl) ?_
    refine gm_T hw (va_runV (As := []) (rest := []) S (c_X4_thrown l D cy am μ1 _) (cwV 0 hts gL_law_X4_thrown rfl rfl rfl (by decide +kernel) ⟨Nat.le_of_ble_eq_true rfl, Nat.le_of_ble_eq_true rfl⟩) (gm_preV hw _) rfl rfl hl.1 rfl (lv_room (Nat.le_of_ble_eq_true rfl)) dL_law_865 ⟨k_3l hc (Nat.le_of_ble_eq_true rfl), k_3l hs (Nat.le_of_ble_eq_true rfl)⟩) (fun v9 μ9 H locs hp3 hw => ?_)
    obtain ⟨r2, rfl, hu9, hr2⟩ := hp3
    rw [hu9] at hw
    refine W.eq (g2 := F0 m 868 ls [.int r2]) rfl ?_
    refine lv_iload hx hb dL_law_868 (lv_at hl 0 rfl) ?_
    refine lv_icmp_eq (tgt := 875) hx hb dL_law_870 (by decide) (fun _ => ?_) (fun c9 => absurd (hr2.trans hs9.1) c9)
    refine lv_goto (tgt := 1502) hx hb dL_law_875 (by decide) ?_
    refine W.widen (k := cells + 8) (n := slots + 160) (k_3e (Nat.le_of_ble_eq_true rfl)) (k_3e (Nat.le_of_ble_eq_true rfl)) ?_
    exact kk _ _ _ _ _ hs9.2 hw (lv_sub hl [1, 2, 3, 4, 5] rfl)
  · refine lv_iconst (v := 1) hx hb dL_law_830 (by decide) ?_
    refine lv_goto (tgt := 835) hx hb dL_law_831 (by decide) ?_
    refine gl_T hw (vx_runSX (As := [.ref (ad 0), .int y1, .int 1]) (rest := []) S (c_L_strike l hl9 D cy o f ad n σ y1 1 (Or.inr rfl) _) (vx_cwSW 3 hts gL_law_L_strike rfl rfl rfl (by decide +kernel) ⟨Nat.le_of_ble_eq_true rfl, Nat.le_of_ble_eq_true rfl⟩) (gl_preS hw hg _) rfl rfl hl.1 rfl (lv_room (Nat.le_of_ble_eq_true rfl)) dL_law_835 ⟨k_1l hc (Nat.le_of_ble_eq_true rfl), k_1l hs (Nat.le_of_ble_eq_true rfl)⟩) (fun r1 u1 H locs hp1 hw => ?_)
    refine lv_istore (lv' := [(5, .int r1), (0, .ref b), (1, .ref (ad 0)), (2, .ref (am 0)), (3, .ref o), (4, .int (nI i))]) hx hb dL_law_838 hl (by decide) rfl (fun ls hl => ?_)
    refine lv_aload_n hx hb dL_law_840 rfl (lv_at hl 3 rfl) ?_
    refine lv_aload_n hx hb dL_law_841 rfl (lv_at hl 1 rfl) ?_
    refine lv_iload hx hb dL_law_842 (lv_at hl 5 rfl) ?_
    refine lv_iconst (v := 1) hx hb dL_law_844 (by decide) ?_
    refine lv_iadd hx hb dL_law_845 ?_
    rw [show nI i + 1 = nI (i + 1) from nI_add i 1]
    refine va_sld hx hb hX hbl hbA hw.2.2.2 (vp_in_nI (by omega) (by omega)) dL_law_846 ?_
    rw [← ey1]
    refine lv_aload_n hx hb dL_law_847 rfl (lv_at hl 1 rfl) ?_
    refine lv_iload hx hb dL_law_848 (lv_at hl 5 rfl) ?_
    refine lv_iconst (v := 2) hx hb dL_law_850 (by decide) ?_
    refine lv_iadd hx hb dL_law_851 ?_
    rw [show nI i + 2 = nI (i + 2) from nI_add i 2]
    refine va_sld hx hb hX hbl hbA hw.2.2.2 (vp_in_nI (by omega) (by omega)) dL_law_852 ?_
    rw [← ey2]
    refine lv_if_eq (tgt := 860) hx hb dL_law_853 (by decide) (fun h => absurd h cz) (fun _ => ?_)
    refine lv_iconst (v := 1) hx hb dL_law_856 (by decide) ?_
    refine lv_goto (tgt := 861) hx hb dL_law_857 (by decide) ?_
    refine gm_T hw (va_runV (As := [.int y1, .int 1]) (rest := []) S (c_X4_strike l D cy am μ y1 1 (Or.inr rfl) _) (cwV 2 hts gL_law_X4_strike rfl rfl rfl (by decide +kernel) ⟨Nat.le_of_ble_eq_true rfl, Nat.le_of_ble_eq_true rfl⟩) (gm_preV hw _) rfl rfl hl.1 rfl (lv_room (Nat.le_of_ble_eq_true rfl)) dL_law_861 ⟨k_2l hc (Nat.le_of_ble_eq_true rfl), k_2l hs (Nat.le_of_ble_eq_true rfl)⟩) (fun v μ1 H locs hp2 hw => ?_)
    obtain ⟨rfl, hp2⟩ := hp2
    refine W.eq (g2 := F0 m 864 ls []) rfl ?_
    have hs9 := hsim y1 1 (Or.inr rfl) r1 u1 μ1 hp1 hp2
    refine lv_aload_n hx hb dL_law_864 rfl (lv_at hl 3 rfl) ?_
    refine gm_T hw (va_runV (As := []) (rest := []) S (c_X4_thrown l D cy am μ1 _) (cwV 0 hts gL_law_X4_thrown rfl rfl rfl (by decide +kernel) ⟨Nat.le_of_ble_eq_true rfl, Nat.le_of_ble_eq_true rfl⟩) (gm_preV hw _) rfl rfl hl.1 rfl (lv_room (Nat.le_of_ble_eq_true rfl)) dL_law_865 ⟨k_3l hc (Nat.le_of_ble_eq_true rfl), k_3l hs (Nat.le_of_ble_eq_true rfl)⟩) (fun v9 μ9 H locs hp3 hw => ?_)
    obtain ⟨r2, rfl, hu9, hr2⟩ := hp3
    rw [hu9] at hw
    refine W.eq (g2 := F0 m 868 ls [.int r2]) rfl ?_
    refine lv_iload hx hb dL_law_868 (lv_at hl 0 rfl) ?_
    refine lv_icmp_eq (tgt := 875) hx hb dL_law_870 (by decide) (fun _ => ?_) (fun c9 => absurd (hr2.trans hs9.1) c9)
    refine lv_goto (tgt := 1502) hx hb dL_law_875 (by decide) ?_
    refine W.widen (k := cells + 8) (n := slots + 160) (k_3e (Nat.le_of_ble_eq_true rfl)) (k_3e (Nat.le_of_ble_eq_true rfl)) ?_
    exact kk _ _ _ _ _ hs9.2 hw (lv_sub hl [1, 2, 3, 4, 5] rfl)
abbrev SS_advance (f : Nat → Int64) (ad : Nat → Nat) (n : Nat) (σ μ : S3) (J : LSt → S3 → Prop) : Prop := ∀ (x0 : Int32), SimI (lP2 f ad n σ xIA xIS (e2 xIA xIS (rgI x0 1 100) (x0 ≤ 1800 - σ 18 0 0)) Int32.toInt64 (fun r u => rgI x0 1 100 ∧ x0 ≤ 1800 - σ 18 0 0 ∧ r = (edN σ n x0.toNatClampNeg) 18 0 0 ∧ u = edN σ n x0.toNatClampNeg)) (mP2 μ (rgI x0 1 100) (nI (nw μ) + x0 ≤ 1800) (nI (nw (eaN (th0 μ) x0.toNatClampNeg))) (eaN (th0 μ) x0.toNatClampNeg)) Int32.toInt64 J
set_option maxHeartbeats 2000000 in
set_option maxRecDepth 100000 in
theorem law_advance {p : Program} {l : Launch} {e : Env} {s : State} {m : MethodId} {below : List Frame} {meth : Method} {c : Code} {D : va_G} {cy : Nat → ClassId} {o : Nat} {am : Nat → Nat} {b L : Nat} {xs : Nat → Int32} {Q : State → Prop} {cells slots : Nat} (hl9 : l.stackTraces = false) (C0 : lw_At p s m meth c b L xs) (hg : GX s) {f : Nat → Int64} {ad : Nat → Nat} {n : Nat} {σ μ : S3} {H : Heap} {locs : List Loc} (hw : GW D cy s o am (f, ad, n, σ) μ H locs) {i : Nat} (hi : i + 4 ≤ L) (hL : L ≤ 2048) (hc : cells + 8 ≤ 601024) (hs : slots + 160 ≤ 7293034) (J : LSt → S3 → Prop)  (hsim : SS_advance f ad n σ μ J) {ls : Array Slot} (hl : lv_has ls 7 [(0, .ref b), (1, .ref (ad 0)), (2, .ref (am 0)), (3, .ref o), (4, .int (nI i))]) (kk : ∀ (u1 : LSt) (μ1 : S3) (H1 : Heap) (locs1 : List Loc) (ls1 : Array Slot), J u1 μ1 → GW D cy s o am u1 μ1 H1 locs1 → lv_has ls1 7 [(0, .ref b), (1, .ref (ad 0)), (2, .ref (am 0)), (3, .ref o), (4, .int (nI i))] → W p l e room_1 s m #[Value.ref b] below meth c H1 locs1 (cells + 8) (slots + 160) Q (F0 m 1502 ls1 [])) : W p l e room_1 s m #[Value.ref b] below meth c H locs cells slots Q (F0 m 878 ls []) := by
  obtain ⟨hx, hb, hr, hml, hown, hts0, hX, hbl, hlocks, hgv⟩ := C0
  have hts : ∀ w ∈ wsL_law, w.before #[Value.ref b] s = true := fun w h => hts0 w (wsL_law_in w h)
  have S : CallFix p m c cL_law 7 s #[Value.ref b] wsL_law RL := ⟨hx, hb, hml, hown, hts⟩
  have hbA : ¬ lA9 s b := Nat.not_le.mpr hbl
  obtain ⟨y1, ey1⟩ : ∃ y, y = xs (nI (i + 1)).toNatClampNeg := ⟨_, rfl⟩
  refine lv_aload_n hx hb dL_law_878 rfl (lv_at hl 1 rfl) ?_
  refine lv_aload_n hx hb dL_law_879 rfl (lv_at hl 0 rfl) ?_
  refine lv_iload hx hb dL_law_880 (lv_at hl 4 rfl) ?_
  refine lv_iconst (v := 1) hx hb dL_law_882 (by decide) ?_
  refine lv_iadd hx hb dL_law_883 ?_
  rw [show nI i + 1 = nI (i + 1) from nI_add i 1]
  refine va_sld hx hb hX hbl hbA hw.2.2.2 (vp_in_nI (by omega) (by omega)) dL_law_884 ?_
  rw [← ey1]
  refine lv_aload_n hx hb dL_law_885 rfl (lv_at hl 3 rfl) ?_
  refine gl_T hw (vx_runSX (As := [.ref (ad 0), .int y1, .ref o]) (rest := []) S (c_L_advance l hl9 D cy o f ad n σ y1 _) (vx_cwSW 3 hts gL_law_L_advance rfl rfl rfl (by decide +kernel) ⟨Nat.le_of_ble_eq_true rfl, Nat.le_of_ble_eq_true rfl⟩) (gl_preS hw hg _) rfl rfl hl.1 rfl (lv_room (Nat.le_of_ble_eq_true rfl)) dL_law_886 ⟨k_1l hc (Nat.le_of_ble_eq_true rfl), k_1l hs (Nat.le_of_ble_eq_true rfl)⟩) (fun r1 u1 H locs hp1 hw => ?_)
  refine lv_istore (lv' := [(5, .int r1), (0, .ref b), (1, .ref (ad 0)), (2, .ref (am 0)), (3, .ref o), (4, .int (nI i))]) hx hb dL_law_889 hl (by decide) rfl (fun ls hl => ?_)
  refine lv_aload_n hx hb dL_law_891 rfl (lv_at hl 3 rfl) ?_
  refine lv_aload_n hx hb dL_law_892 rfl (lv_at hl 1 rfl) ?_
  refine lv_iload hx hb dL_law_893 (lv_at hl 5 rfl) ?_
  refine lv_iconst (v := 1) hx hb dL_law_895 (by decide) ?_
  refine lv_iadd hx hb dL_law_896 ?_
  rw [show nI i + 1 = nI (i + 1) from nI_add i 1]
  refine va_sld hx hb hX hbl hbA hw.2.2.2 (vp_in_nI (by omega) (by omega)) dL_law_897 ?_
  rw [← ey1]
  refine gm_T hw (va_runV (As := [.int y1]) (rest := []) S (c_X4_advance l D cy am μ y1 _) (cwV 1 hts gL_law_X4_advance rfl rfl rfl (by decide +kernel) ⟨Nat.le_of_ble_eq_true rfl, Nat.le_of_ble_eq_true rfl⟩) (gm_preV hw _) rfl rfl hl.1 rfl (lv_room (Nat.le_of_ble_eq_true rfl)) dL_law_898 ⟨k_2l hc (Nat.le_of_ble_eq_true rfl), k_2l hs (Nat.le_of_ble_eq_true rfl)⟩) (fun v μ1 H locs hp2 hw => ?_)
  obtain ⟨b1, rfl, hp2⟩ := hp2
  refine W.eq (g2 := F0 m 901 ls [.int b1]) rfl ?_
  have hs9 := hsim y1 r1 u1 b1 μ1 hp1 hp2
  refine lv_istore (lv' := [(6, .int b1), (5, .int r1), (0, .ref b), (1, .ref (ad 0)), (2, .ref (am 0)), (3, .ref o), (4, .int (nI i))]) hx hb dL_law_901 hl (by decide) rfl (fun ls hl => ?_)
  refine lv_aload_n hx hb dL_law_903 rfl (lv_at hl 4 rfl) ?_
  refine gm_T hw (va_runV (As := []) (rest := []) S (c_X4_thrown l D cy am μ1 _) (cwV 0 hts gL_law_X4_thrown rfl rfl rfl (by decide +kernel) ⟨Nat.le_of_ble_eq_true rfl, Nat.le_of_ble_eq_true rfl⟩) (gm_preV hw _) rfl rfl hl.1 rfl (lv_room (Nat.le_of_ble_eq_true rfl)) dL_law_904 ⟨k_3l hc (Nat.le_of_ble_eq_true rfl), k_3l hs (Nat.le_of_ble_eq_true rfl)⟩) (fun v9 μ9 H locs hp3 hw => ?_)
  obtain ⟨r2, rfl, hu9, hr2⟩ := hp3
  rw [hu9] at hw
  refine W.eq (g2 := F0 m 907 ls [.int r2]) rfl ?_
  refine lv_iload hx hb dL_law_907 (lv_at hl 1 rfl) ?_
  refine lv_icmp_eq (tgt := 914) hx hb dL_law_909 (by decide) (fun _ => ?_) (fun c9 => absurd (hr2.trans hs9.1) c9)
  refine lv_iload hx hb dL_law_914 (lv_at hl 1 rfl) ?_
  refine lv_if_ne (tgt := 931) hx hb dL_law_916 (by decide) (fun c8 => ?_) (fun c8 => ?_)
  · refine lv_goto (tgt := 1502) hx hb dL_law_931 (by decide) ?_
    refine W.widen (k := cells + 8) (n := slots + 160) (k_3e (Nat.le_of_ble_eq_true rfl)) (k_3e (Nat.le_of_ble_eq_true rfl)) ?_
    exact kk _ _ _ _ _ hs9.2.2 hw (lv_sub hl [2, 3, 4, 5, 6] rfl)
  · refine lv_aload_n hx hb dL_law_919 rfl (lv_at hl 5 rfl) ?_
    refine lv_iconst (v := 0) hx hb dL_law_920 (by decide) ?_
    refine g_out hx hb hw dL_law_921 ?_
    refine lv_iload hx hb dL_law_922 (lv_at hl 0 rfl) ?_
    refine lv_i2l (v := b1.toInt64) hx hb dL_law_924 rfl ?_
    refine W.lcmp hx hb dL_law_925 ?_
    rw [show lg_cmp (u1.1 (0 : Int32).toNatClampNeg) (b1.toInt64) = 0 by rw [(hs9.2.1 c8)]; exact lg_self _]
    refine lv_if_eq (tgt := 931) hx hb dL_law_926 (by decide) (fun _ => ?_) (fun h => absurd rfl h)
    refine lv_goto (tgt := 1502) hx hb dL_law_931 (by decide) ?_
    refine W.widen (k := cells + 8) (n := slots + 160) (k_3e (Nat.le_of_ble_eq_true rfl)) (k_3e (Nat.le_of_ble_eq_true rfl)) ?_
    exact kk _ _ _ _ _ hs9.2.2 hw (lv_sub hl [2, 3, 4, 5, 6] rfl)
abbrev SS_fold (f : Nat → Int64) (ad : Nat → Nat) (n : Nat) (σ μ : S3) (J : LSt → S3 → Prop) : Prop := ∀ (x0 : Int32), SimI (lP1 f ad n σ xIA (e1 xIA (endP σ x0 ∧ ¬ x0 < nI (fo σ))) Int32.toInt64 (fun r u => (endP σ x0 ∧ ¬ x0 < nI (fo σ)) ∧ r = flF σ (fo σ) (x0.toNatClampNeg + 1 - fo σ) ∧ u = su σ 20 0 0 (nI (x0.toNatClampNeg + 1)))) (mP1 μ (foP μ x0) (aoF (th0 μ) (fo (th0 μ)) (x0.toNatClampNeg + 1 - fo (th0 μ)) 4) (su (th0 μ) 20 0 0 (nI (x0.toNatClampNeg + 1)))) Int32.toInt64 J
set_option maxHeartbeats 2000000 in
set_option maxRecDepth 100000 in
theorem law_fold {p : Program} {l : Launch} {e : Env} {s : State} {m : MethodId} {below : List Frame} {meth : Method} {c : Code} {D : va_G} {cy : Nat → ClassId} {o : Nat} {am : Nat → Nat} {b L : Nat} {xs : Nat → Int32} {Q : State → Prop} {cells slots : Nat} (hl9 : l.stackTraces = false) (C0 : lw_At p s m meth c b L xs) (hg : GX s) {f : Nat → Int64} {ad : Nat → Nat} {n : Nat} {σ μ : S3} {H : Heap} {locs : List Loc} (hw : GW D cy s o am (f, ad, n, σ) μ H locs) {i : Nat} (hi : i + 4 ≤ L) (hL : L ≤ 2048) (hc : cells + 8 ≤ 601024) (hs : slots + 160 ≤ 7293034) (J : LSt → S3 → Prop)  (hsim : SS_fold f ad n σ μ J) {ls : Array Slot} (hl : lv_has ls 7 [(0, .ref b), (1, .ref (ad 0)), (2, .ref (am 0)), (3, .ref o), (4, .int (nI i))]) (kk : ∀ (u1 : LSt) (μ1 : S3) (H1 : Heap) (locs1 : List Loc) (ls1 : Array Slot), J u1 μ1 → GW D cy s o am u1 μ1 H1 locs1 → lv_has ls1 7 [(0, .ref b), (1, .ref (ad 0)), (2, .ref (am 0)), (3, .ref o), (4, .int (nI i))] → W p l e room_1 s m #[Value.ref b] below meth c H1 locs1 (cells + 8) (slots + 160) Q (F0 m 1502 ls1 [])) : W p l e room_1 s m #[Value.ref b] below meth c H locs cells slots Q (F0 m 934 ls []) := by
  obtain ⟨hx, hb, hr, hml, hown, hts0, hX, hbl, hlocks, hgv⟩ := C0
  have hts : ∀ w ∈ wsL_law, w.before #[Value.ref b] s = true := fun w h => hts0 w (wsL_law_in w h)
  have S : CallFix p m c cL_law 7 s #[Value.ref b] wsL_law RL := ⟨hx, hb, hml, hown, hts⟩
  have hbA : ¬ lA9 s b := Nat.not_le.mpr hbl
  obtain ⟨y1, ey1⟩ : ∃ y, y = xs (nI (i + 1)).toNatClampNeg := ⟨_, rfl⟩
  refine lv_aload_n hx hb dL_law_934 rfl (lv_at hl 1 rfl) ?_
  refine lv_aload_n hx hb dL_law_935 rfl (lv_at hl 0 rfl) ?_
  refine lv_iload hx hb dL_law_936 (lv_at hl 4 rfl) ?_
  refine lv_iconst (v := 1) hx hb dL_law_938 (by decide) ?_
  refine lv_iadd hx hb dL_law_939 ?_
  rw [show nI i + 1 = nI (i + 1) from nI_add i 1]
  refine va_sld hx hb hX hbl hbA hw.2.2.2 (vp_in_nI (by omega) (by omega)) dL_law_940 ?_
  rw [← ey1]
  refine lv_aload_n hx hb dL_law_941 rfl (lv_at hl 3 rfl) ?_
  refine gl_T hw (vx_runSX (As := [.ref (ad 0), .int y1, .ref o]) (rest := []) S (c_L_fold l hl9 D cy o f ad n σ y1 _) (vx_cwSW 3 hts gL_law_L_fold rfl rfl rfl (by decide +kernel) ⟨Nat.le_of_ble_eq_true rfl, Nat.le_of_ble_eq_true rfl⟩) (gl_preS hw hg _) rfl rfl hl.1 rfl (lv_room (Nat.le_of_ble_eq_true rfl)) dL_law_942 ⟨k_1l hc (Nat.le_of_ble_eq_true rfl), k_1l hs (Nat.le_of_ble_eq_true rfl)⟩) (fun r1 u1 H locs hp1 hw => ?_)
  refine lv_istore (lv' := [(5, .int r1), (0, .ref b), (1, .ref (ad 0)), (2, .ref (am 0)), (3, .ref o), (4, .int (nI i))]) hx hb dL_law_945 hl (by decide) rfl (fun ls hl => ?_)
  refine lv_aload_n hx hb dL_law_947 rfl (lv_at hl 3 rfl) ?_
  refine lv_aload_n hx hb dL_law_948 rfl (lv_at hl 1 rfl) ?_
  refine lv_iload hx hb dL_law_949 (lv_at hl 5 rfl) ?_
  refine lv_iconst (v := 1) hx hb dL_law_951 (by decide) ?_
  refine lv_iadd hx hb dL_law_952 ?_
  rw [show nI i + 1 = nI (i + 1) from nI_add i 1]
  refine va_sld hx hb hX hbl hbA hw.2.2.2 (vp_in_nI (by omega) (by omega)) dL_law_953 ?_
  rw [← ey1]
  refine gm_T hw (va_runV (As := [.int y1]) (rest := []) S (c_X4_fold l D cy am μ y1 _) (cwV 1 hts gL_law_X4_fold rfl rfl rfl (by decide +kernel) ⟨Nat.le_of_ble_eq_true rfl, Nat.le_of_ble_eq_true rfl⟩) (gm_preV hw _) rfl rfl hl.1 rfl (lv_room (Nat.le_of_ble_eq_true rfl)) dL_law_954 ⟨k_2l hc (Nat.le_of_ble_eq_true rfl), k_2l hs (Nat.le_of_ble_eq_true rfl)⟩) (fun v μ1 H locs hp2 hw => ?_)
  obtain ⟨b1, rfl, hp2⟩ := hp2
  refine W.eq (g2 := F0 m 957 ls [.int b1]) rfl ?_
  have hs9 := hsim y1 r1 u1 b1 μ1 hp1 hp2
  refine lv_istore (lv' := [(6, .int b1), (5, .int r1), (0, .ref b), (1, .ref (ad 0)), (2, .ref (am 0)), (3, .ref o), (4, .int (nI i))]) hx hb dL_law_957 hl (by decide) rfl (fun ls hl => ?_)
  refine lv_aload_n hx hb dL_law_959 rfl (lv_at hl 4 rfl) ?_
  refine gm_T hw (va_runV (As := []) (rest := []) S (c_X4_thrown l D cy am μ1 _) (cwV 0 hts gL_law_X4_thrown rfl rfl rfl (by decide +kernel) ⟨Nat.le_of_ble_eq_true rfl, Nat.le_of_ble_eq_true rfl⟩) (gm_preV hw _) rfl rfl hl.1 rfl (lv_room (Nat.le_of_ble_eq_true rfl)) dL_law_960 ⟨k_3l hc (Nat.le_of_ble_eq_true rfl), k_3l hs (Nat.le_of_ble_eq_true rfl)⟩) (fun v9 μ9 H locs hp3 hw => ?_)
  obtain ⟨r2, rfl, hu9, hr2⟩ := hp3
  rw [hu9] at hw
  refine W.eq (g2 := F0 m 963 ls [.int r2]) rfl ?_
  refine lv_iload hx hb dL_law_963 (lv_at hl 1 rfl) ?_
  refine lv_icmp_eq (tgt := 970) hx hb dL_law_965 (by decide) (fun _ => ?_) (fun c9 => absurd (hr2.trans hs9.1) c9)
  refine lv_iload hx hb dL_law_970 (lv_at hl 1 rfl) ?_
  refine lv_if_ne (tgt := 987) hx hb dL_law_972 (by decide) (fun c8 => ?_) (fun c8 => ?_)
  · refine lv_goto (tgt := 1502) hx hb dL_law_987 (by decide) ?_
    refine W.widen (k := cells + 8) (n := slots + 160) (k_3e (Nat.le_of_ble_eq_true rfl)) (k_3e (Nat.le_of_ble_eq_true rfl)) ?_
    exact kk _ _ _ _ _ hs9.2.2 hw (lv_sub hl [2, 3, 4, 5, 6] rfl)
  · refine lv_aload_n hx hb dL_law_975 rfl (lv_at hl 5 rfl) ?_
    refine lv_iconst (v := 0) hx hb dL_law_976 (by decide) ?_
    refine g_out hx hb hw dL_law_977 ?_
    refine lv_iload hx hb dL_law_978 (lv_at hl 0 rfl) ?_
    refine lv_i2l (v := b1.toInt64) hx hb dL_law_980 rfl ?_
    refine W.lcmp hx hb dL_law_981 ?_
    rw [show lg_cmp (u1.1 (0 : Int32).toNatClampNeg) (b1.toInt64) = 0 by rw [(hs9.2.1 c8)]; exact lg_self _]
    refine lv_if_eq (tgt := 987) hx hb dL_law_982 (by decide) (fun _ => ?_) (fun h => absurd rfl h)
    refine lv_goto (tgt := 1502) hx hb dL_law_987 (by decide) ?_
    refine W.widen (k := cells + 8) (n := slots + 160) (k_3e (Nat.le_of_ble_eq_true rfl)) (k_3e (Nat.le_of_ble_eq_true rfl)) ?_
    exact kk _ _ _ _ _ hs9.2.2 hw (lv_sub hl [2, 3, 4, 5, 6] rfl)
abbrev SS_day (f : Nat → Int64) (ad : Nat → Nat) (n : Nat) (σ μ : S3) (J : LSt → S3 → Prop) : Prop := ∀ (r b : Int32) (μ1 : S3), r = σ 18 0 0 → (fun r u => r = nI (nw (th0 μ)) ∧ u = th0 μ) b μ1 → r = b ∧ J (f, ad, n, σ) μ1
set_option maxHeartbeats 2000000 in
set_option maxRecDepth 100000 in
theorem law_day {p : Program} {l : Launch} {e : Env} {s : State} {m : MethodId} {below : List Frame} {meth : Method} {c : Code} {D : va_G} {cy : Nat → ClassId} {o : Nat} {am : Nat → Nat} {b L : Nat} {xs : Nat → Int32} {Q : State → Prop} {cells slots : Nat} (hl9 : l.stackTraces = false) (C0 : lw_At p s m meth c b L xs) (hg : GX s) {f : Nat → Int64} {ad : Nat → Nat} {n : Nat} {σ μ : S3} {H : Heap} {locs : List Loc} (hw : GW D cy s o am (f, ad, n, σ) μ H locs) {i : Nat} (hi : i + 4 ≤ L) (hL : L ≤ 2048) (hc : cells + 8 ≤ 601024) (hs : slots + 160 ≤ 7293034) (J : LSt → S3 → Prop)  (hsim : SS_day f ad n σ μ J) {ls : Array Slot} (hl : lv_has ls 7 [(0, .ref b), (1, .ref (ad 0)), (2, .ref (am 0)), (3, .ref o), (4, .int (nI i))]) (kk : ∀ (u1 : LSt) (μ1 : S3) (H1 : Heap) (locs1 : List Loc) (ls1 : Array Slot), J u1 μ1 → GW D cy s o am u1 μ1 H1 locs1 → lv_has ls1 7 [(0, .ref b), (1, .ref (ad 0)), (2, .ref (am 0)), (3, .ref o), (4, .int (nI i))] → W p l e room_1 s m #[Value.ref b] below meth c H1 locs1 (cells + 8) (slots + 160) Q (F0 m 1502 ls1 [])) : W p l e room_1 s m #[Value.ref b] below meth c H locs cells slots Q (F0 m 990 ls []) := by
  obtain ⟨hx, hb, hr, hml, hown, hts0, hX, hbl, hlocks, hgv⟩ := C0
  have hts : ∀ w ∈ wsL_law, w.before #[Value.ref b] s = true := fun w h => hts0 w (wsL_law_in w h)
  have S : CallFix p m c cL_law 7 s #[Value.ref b] wsL_law RL := ⟨hx, hb, hml, hown, hts⟩
  have hbA : ¬ lA9 s b := Nat.not_le.mpr hbl
  refine lv_aload_n hx hb dL_law_990 rfl (lv_at hl 1 rfl) ?_
  refine gc_T hw (va_runV (As := []) (rest := []) S (c_X3_day l D cy ad n σ _) (cwV 0 hts gL_law_X3_day rfl rfl rfl (by decide +kernel) ⟨Nat.le_of_ble_eq_true rfl, Nat.le_of_ble_eq_true rfl⟩) (gc_preV hw hg _) rfl rfl hl.1 rfl (lv_room (Nat.le_of_ble_eq_true rfl)) dL_law_991 ⟨k_1l hc (Nat.le_of_ble_eq_true rfl), k_1l hs (Nat.le_of_ble_eq_true rfl)⟩) (fun v τ H locs hp1 hw => ?_)
  obtain ⟨r1, rfl, hu1, hr1⟩ := hp1
  rw [hu1] at hw
  refine W.eq (g2 := F0 m 994 ls [.int r1]) rfl ?_
  refine lv_aload_n hx hb dL_law_994 rfl (lv_at hl 2 rfl) ?_
  refine gm_T hw (va_runV (As := []) (rest := [.int r1]) S (c_X4_day l D cy am μ  _) (cwV 0 hts gL_law_X4_day rfl rfl rfl (by decide +kernel) ⟨Nat.le_of_ble_eq_true rfl, Nat.le_of_ble_eq_true rfl⟩) (gm_preV hw _) rfl rfl hl.1 rfl (lv_room (Nat.le_of_ble_eq_true rfl)) dL_law_995 ⟨k_2l hc (Nat.le_of_ble_eq_true rfl), k_2l hs (Nat.le_of_ble_eq_true rfl)⟩) (fun v μ1 H locs hp2 hw => ?_)
  obtain ⟨b1, rfl, hp2⟩ := hp2
  refine W.eq (g2 := F0 m 998 ls [.int b1, .int r1]) rfl ?_
  have hs9 := hsim r1 b1 μ1 hr1 hp2
  refine lv_icmp_eq (tgt := 1502) hx hb dL_law_998 (by decide) (fun _ => ?_) (fun c9 => absurd hs9.1 c9)
  refine W.widen (k := cells + 8) (n := slots + 160) (k_2e (Nat.le_of_ble_eq_true rfl)) (k_2e (Nat.le_of_ble_eq_true rfl)) ?_
  exact kk _ _ _ _ _ hs9.2 hw (lv_sub hl [0, 1, 2, 3, 4] rfl)
abbrev SS_fund (f : Nat → Int64) (ad : Nat → Nat) (n : Nat) (σ μ : S3) (J : LSt → S3 → Prop) : Prop := ∀ (r b : Int32) (μ1 : S3), r = σ 19 0 0 → (fun r u => r = th0 μ 19 0 0 ∧ u = th0 μ) b μ1 → r = b ∧ J (f, ad, n, σ) μ1
set_option maxHeartbeats 2000000 in
set_option maxRecDepth 100000 in
theorem law_fund {p : Program} {l : Launch} {e : Env} {s : State} {m : MethodId} {below : List Frame} {meth : Method} {c : Code} {D : va_G} {cy : Nat → ClassId} {o : Nat} {am : Nat → Nat} {b L : Nat} {xs : Nat → Int32} {Q : State → Prop} {cells slots : Nat} (hl9 : l.stackTraces = false) (C0 : lw_At p s m meth c b L xs) (hg : GX s) {f : Nat → Int64} {ad : Nat → Nat} {n : Nat} {σ μ : S3} {H : Heap} {locs : List Loc} (hw : GW D cy s o am (f, ad, n, σ) μ H locs) {i : Nat} (hi : i + 4 ≤ L) (hL : L ≤ 2048) (hc : cells + 8 ≤ 601024) (hs : slots + 160 ≤ 7293034) (J : LSt → S3 → Prop)  (hsim : SS_fund f ad n σ μ J) {ls : Array Slot} (hl : lv_has ls 7 [(0, .ref b), (1, .ref (ad 0)), (2, .ref (am 0)), (3, .ref o), (4, .int (nI i))]) (kk : ∀ (u1 : LSt) (μ1 : S3) (H1 : Heap) (locs1 : List Loc) (ls1 : Array Slot), J u1 μ1 → GW D cy s o am u1 μ1 H1 locs1 → lv_has ls1 7 [(0, .ref b), (1, .ref (ad 0)), (2, .ref (am 0)), (3, .ref o), (4, .int (nI i))] → W p l e room_1 s m #[Value.ref b] below meth c H1 locs1 (cells + 8) (slots + 160) Q (F0 m 1502 ls1 [])) : W p l e room_1 s m #[Value.ref b] below meth c H locs cells slots Q (F0 m 1003 ls []) := by
  obtain ⟨hx, hb, hr, hml, hown, hts0, hX, hbl, hlocks, hgv⟩ := C0
  have hts : ∀ w ∈ wsL_law, w.before #[Value.ref b] s = true := fun w h => hts0 w (wsL_law_in w h)
  have S : CallFix p m c cL_law 7 s #[Value.ref b] wsL_law RL := ⟨hx, hb, hml, hown, hts⟩
  have hbA : ¬ lA9 s b := Nat.not_le.mpr hbl
  refine lv_aload_n hx hb dL_law_1003 rfl (lv_at hl 1 rfl) ?_
  refine gc_T hw (va_runV (As := []) (rest := []) S (c_X3_fund l D cy ad n σ _) (cwV 0 hts gL_law_X3_fund rfl rfl rfl (by decide +kernel) ⟨Nat.le_of_ble_eq_true rfl, Nat.le_of_ble_eq_true rfl⟩) (gc_preV hw hg _) rfl rfl hl.1 rfl (lv_room (Nat.le_of_ble_eq_true rfl)) dL_law_1004 ⟨k_1l hc (Nat.le_of_ble_eq_true rfl), k_1l hs (Nat.le_of_ble_eq_true rfl)⟩) (fun v τ H locs hp1 hw => ?_)
  obtain ⟨r1, rfl, hu1, hr1⟩ := hp1
  rw [hu1] at hw
  refine W.eq (g2 := F0 m 1007 ls [.int r1]) rfl ?_
  refine lv_aload_n hx hb dL_law_1007 rfl (lv_at hl 2 rfl) ?_
  refine gm_T hw (va_runV (As := []) (rest := [.int r1]) S (c_X4_fund l D cy am μ  _) (cwV 0 hts gL_law_X4_fund rfl rfl rfl (by decide +kernel) ⟨Nat.le_of_ble_eq_true rfl, Nat.le_of_ble_eq_true rfl⟩) (gm_preV hw _) rfl rfl hl.1 rfl (lv_room (Nat.le_of_ble_eq_true rfl)) dL_law_1008 ⟨k_2l hc (Nat.le_of_ble_eq_true rfl), k_2l hs (Nat.le_of_ble_eq_true rfl)⟩) (fun v μ1 H locs hp2 hw => ?_)
  obtain ⟨b1, rfl, hp2⟩ := hp2
  refine W.eq (g2 := F0 m 1011 ls [.int b1, .int r1]) rfl ?_
  have hs9 := hsim r1 b1 μ1 hr1 hp2
  refine lv_icmp_eq (tgt := 1502) hx hb dL_law_1011 (by decide) (fun _ => ?_) (fun c9 => absurd hs9.1 c9)
  refine W.widen (k := cells + 8) (n := slots + 160) (k_2e (Nat.le_of_ble_eq_true rfl)) (k_2e (Nat.le_of_ble_eq_true rfl)) ?_
  exact kk _ _ _ _ _ hs9.2 hw (lv_sub hl [0, 1, 2, 3, 4] rfl)
abbrev SS_owed (f : Nat → Int64) (ad : Nat → Nat) (n : Nat) (σ μ : S3) (J : LSt → S3 → Prop) : Prop := ∀ (x0 : Int32), SimI (lP1 f ad n σ xIO (e1 xIO (inI x0 n)) Int32.toInt64 (fun r u => inI x0 n ∧ u = σ ∧ r = sOwed σ x0.toNatClampNeg)) (mP1 μ (inI x0 (nm μ)) (owM (th0 μ) x0.toNatClampNeg) (th0 μ)) Int32.toInt64 J
set_option maxHeartbeats 2000000 in
set_option maxRecDepth 100000 in
theorem law_owed {p : Program} {l : Launch} {e : Env} {s : State} {m : MethodId} {below : List Frame} {meth : Method} {c : Code} {D : va_G} {cy : Nat → ClassId} {o : Nat} {am : Nat → Nat} {b L : Nat} {xs : Nat → Int32} {Q : State → Prop} {cells slots : Nat} (hl9 : l.stackTraces = false) (C0 : lw_At p s m meth c b L xs) (hg : GX s) {f : Nat → Int64} {ad : Nat → Nat} {n : Nat} {σ μ : S3} {H : Heap} {locs : List Loc} (hw : GW D cy s o am (f, ad, n, σ) μ H locs) {i : Nat} (hi : i + 4 ≤ L) (hL : L ≤ 2048) (hc : cells + 8 ≤ 601024) (hs : slots + 160 ≤ 7293034) (J : LSt → S3 → Prop) (hn : n ≤ 16) (hsim : SS_owed f ad n σ μ J) {ls : Array Slot} (hl : lv_has ls 7 [(0, .ref b), (1, .ref (ad 0)), (2, .ref (am 0)), (3, .ref o), (4, .int (nI i))]) (kk : ∀ (u1 : LSt) (μ1 : S3) (H1 : Heap) (locs1 : List Loc) (ls1 : Array Slot), J u1 μ1 → GW D cy s o am u1 μ1 H1 locs1 → lv_has ls1 7 [(0, .ref b), (1, .ref (ad 0)), (2, .ref (am 0)), (3, .ref o), (4, .int (nI i))] → W p l e room_1 s m #[Value.ref b] below meth c H1 locs1 (cells + 8) (slots + 160) Q (F0 m 1502 ls1 [])) : W p l e room_1 s m #[Value.ref b] below meth c H locs cells slots Q (F0 m 1016 ls []) := by
  obtain ⟨hx, hb, hr, hml, hown, hts0, hX, hbl, hlocks, hgv⟩ := C0
  have hts : ∀ w ∈ wsL_law, w.before #[Value.ref b] s = true := fun w h => hts0 w (wsL_law_in w h)
  have S : CallFix p m c cL_law 7 s #[Value.ref b] wsL_law RL := ⟨hx, hb, hml, hown, hts⟩
  have hbA : ¬ lA9 s b := Nat.not_le.mpr hbl
  obtain ⟨y1, ey1⟩ : ∃ y, y = xs (nI (i + 1)).toNatClampNeg := ⟨_, rfl⟩
  refine lv_aload_n hx hb dL_law_1016 rfl (lv_at hl 1 rfl) ?_
  refine lv_aload_n hx hb dL_law_1017 rfl (lv_at hl 0 rfl) ?_
  refine lv_iload hx hb dL_law_1018 (lv_at hl 4 rfl) ?_
  refine lv_iconst (v := 1) hx hb dL_law_1020 (by decide) ?_
  refine lv_iadd hx hb dL_law_1021 ?_
  rw [show nI i + 1 = nI (i + 1) from nI_add i 1]
  refine va_sld hx hb hX hbl hbA hw.2.2.2 (vp_in_nI (by omega) (by omega)) dL_law_1022 ?_
  rw [← ey1]
  refine lv_aload_n hx hb dL_law_1023 rfl (lv_at hl 3 rfl) ?_
  refine gl_T hw (vx_runSX (As := [.ref (ad 0), .int y1, .ref o]) (rest := []) S (c_L_owed l hl9 D cy o f ad n σ hn y1 _) (vx_cwSW 3 hts gL_law_L_owed rfl rfl rfl (by decide +kernel) ⟨Nat.le_of_ble_eq_true rfl, Nat.le_of_ble_eq_true rfl⟩) (gl_preS hw hg _) rfl rfl hl.1 rfl (lv_room (Nat.le_of_ble_eq_true rfl)) dL_law_1024 ⟨k_1l hc (Nat.le_of_ble_eq_true rfl), k_1l hs (Nat.le_of_ble_eq_true rfl)⟩) (fun r1 u1 H locs hp1 hw => ?_)
  refine lv_istore (lv' := [(5, .int r1), (0, .ref b), (1, .ref (ad 0)), (2, .ref (am 0)), (3, .ref o), (4, .int (nI i))]) hx hb dL_law_1027 hl (by decide) rfl (fun ls hl => ?_)
  refine lv_aload_n hx hb dL_law_1029 rfl (lv_at hl 3 rfl) ?_
  refine lv_aload_n hx hb dL_law_1030 rfl (lv_at hl 1 rfl) ?_
  refine lv_iload hx hb dL_law_1031 (lv_at hl 5 rfl) ?_
  refine lv_iconst (v := 1) hx hb dL_law_1033 (by decide) ?_
  refine lv_iadd hx hb dL_law_1034 ?_
  rw [show nI i + 1 = nI (i + 1) from nI_add i 1]
  refine va_sld hx hb hX hbl hbA hw.2.2.2 (vp_in_nI (by omega) (by omega)) dL_law_1035 ?_
  rw [← ey1]
  refine gm_T hw (va_runV (As := [.int y1]) (rest := []) S (c_X4_owed l D cy am μ y1 _) (cwV 1 hts gL_law_X4_owed rfl rfl rfl (by decide +kernel) ⟨Nat.le_of_ble_eq_true rfl, Nat.le_of_ble_eq_true rfl⟩) (gm_preV hw _) rfl rfl hl.1 rfl (lv_room (Nat.le_of_ble_eq_true rfl)) dL_law_1036 ⟨k_2l hc (Nat.le_of_ble_eq_true rfl), k_2l hs (Nat.le_of_ble_eq_true rfl)⟩) (fun v μ1 H locs hp2 hw => ?_)
  obtain ⟨b1, rfl, hp2⟩ := hp2
  refine W.eq (g2 := F0 m 1039 ls [.int b1]) rfl ?_
  have hs9 := hsim y1 r1 u1 b1 μ1 hp1 hp2
  refine lv_istore (lv' := [(6, .int b1), (5, .int r1), (0, .ref b), (1, .ref (ad 0)), (2, .ref (am 0)), (3, .ref o), (4, .int (nI i))]) hx hb dL_law_1039 hl (by decide) rfl (fun ls hl => ?_)
  refine lv_aload_n hx hb dL_law_1041 rfl (lv_at hl 4 rfl) ?_
  refine gm_T hw (va_runV (As := []) (rest := []) S (c_X4_thrown l D cy am μ1 _) (cwV 0 hts gL_law_X4_thrown rfl rfl rfl (by decide +kernel) ⟨Nat.le_of_ble_eq_true rfl, Nat.le_of_ble_eq_true rfl⟩) (gm_preV hw _) rfl rfl hl.1 rfl (lv_room (Nat.le_of_ble_eq_true rfl)) dL_law_1042 ⟨k_3l hc (Nat.le_of_ble_eq_true rfl), k_3l hs (Nat.le_of_ble_eq_true rfl)⟩) (fun v9 μ9 H locs hp3 hw => ?_)
  obtain ⟨r2, rfl, hu9, hr2⟩ := hp3
  rw [hu9] at hw
  refine W.eq (g2 := F0 m 1045 ls [.int r2]) rfl ?_
  refine lv_iload hx hb dL_law_1045 (lv_at hl 1 rfl) ?_
  refine lv_icmp_eq (tgt := 1052) hx hb dL_law_1047 (by decide) (fun _ => ?_) (fun c9 => absurd (hr2.trans hs9.1) c9)
  refine lv_iload hx hb dL_law_1052 (lv_at hl 1 rfl) ?_
  refine lv_if_ne (tgt := 1069) hx hb dL_law_1054 (by decide) (fun c8 => ?_) (fun c8 => ?_)
  · refine lv_goto (tgt := 1502) hx hb dL_law_1069 (by decide) ?_
    refine W.widen (k := cells + 8) (n := slots + 160) (k_3e (Nat.le_of_ble_eq_true rfl)) (k_3e (Nat.le_of_ble_eq_true rfl)) ?_
    exact kk _ _ _ _ _ hs9.2.2 hw (lv_sub hl [2, 3, 4, 5, 6] rfl)
  · refine lv_aload_n hx hb dL_law_1057 rfl (lv_at hl 5 rfl) ?_
    refine lv_iconst (v := 0) hx hb dL_law_1058 (by decide) ?_
    refine g_out hx hb hw dL_law_1059 ?_
    refine lv_iload hx hb dL_law_1060 (lv_at hl 0 rfl) ?_
    refine lv_i2l (v := b1.toInt64) hx hb dL_law_1062 rfl ?_
    refine W.lcmp hx hb dL_law_1063 ?_
    rw [show lg_cmp (u1.1 (0 : Int32).toNatClampNeg) (b1.toInt64) = 0 by rw [(hs9.2.1 c8)]; exact lg_self _]
    refine lv_if_eq (tgt := 1069) hx hb dL_law_1064 (by decide) (fun _ => ?_) (fun h => absurd rfl h)
    refine lv_goto (tgt := 1502) hx hb dL_law_1069 (by decide) ?_
    refine W.widen (k := cells + 8) (n := slots + 160) (k_3e (Nat.le_of_ble_eq_true rfl)) (k_3e (Nat.le_of_ble_eq_true rfl)) ?_
    exact kk _ _ _ _ _ hs9.2.2 hw (lv_sub hl [2, 3, 4, 5, 6] rfl)
abbrev SS_credit (f : Nat → Int64) (ad : Nat → Nat) (n : Nat) (σ μ : S3) (J : LSt → S3 → Prop) : Prop := ∀ (x0 : Int32), SimI (lP1 f ad n σ xIO (e1 xIO (inI x0 n)) Int32.toInt64 (fun r u => inI x0 n ∧ u = σ ∧ r = σ 5 x0.toNatClampNeg 0)) (mP1 μ (inI x0 (nm μ)) (th0 μ 5 x0.toNatClampNeg 0) (th0 μ)) Int32.toInt64 J
set_option maxHeartbeats 2000000 in
set_option maxRecDepth 100000 in
theorem law_credit {p : Program} {l : Launch} {e : Env} {s : State} {m : MethodId} {below : List Frame} {meth : Method} {c : Code} {D : va_G} {cy : Nat → ClassId} {o : Nat} {am : Nat → Nat} {b L : Nat} {xs : Nat → Int32} {Q : State → Prop} {cells slots : Nat} (hl9 : l.stackTraces = false) (C0 : lw_At p s m meth c b L xs) (hg : GX s) {f : Nat → Int64} {ad : Nat → Nat} {n : Nat} {σ μ : S3} {H : Heap} {locs : List Loc} (hw : GW D cy s o am (f, ad, n, σ) μ H locs) {i : Nat} (hi : i + 4 ≤ L) (hL : L ≤ 2048) (hc : cells + 8 ≤ 601024) (hs : slots + 160 ≤ 7293034) (J : LSt → S3 → Prop) (hn : n ≤ 16) (hsim : SS_credit f ad n σ μ J) {ls : Array Slot} (hl : lv_has ls 7 [(0, .ref b), (1, .ref (ad 0)), (2, .ref (am 0)), (3, .ref o), (4, .int (nI i))]) (kk : ∀ (u1 : LSt) (μ1 : S3) (H1 : Heap) (locs1 : List Loc) (ls1 : Array Slot), J u1 μ1 → GW D cy s o am u1 μ1 H1 locs1 → lv_has ls1 7 [(0, .ref b), (1, .ref (ad 0)), (2, .ref (am 0)), (3, .ref o), (4, .int (nI i))] → W p l e room_1 s m #[Value.ref b] below meth c H1 locs1 (cells + 8) (slots + 160) Q (F0 m 1502 ls1 [])) : W p l e room_1 s m #[Value.ref b] below meth c H locs cells slots Q (F0 m 1072 ls []) := by
  obtain ⟨hx, hb, hr, hml, hown, hts0, hX, hbl, hlocks, hgv⟩ := C0
  have hts : ∀ w ∈ wsL_law, w.before #[Value.ref b] s = true := fun w h => hts0 w (wsL_law_in w h)
  have S : CallFix p m c cL_law 7 s #[Value.ref b] wsL_law RL := ⟨hx, hb, hml, hown, hts⟩
  have hbA : ¬ lA9 s b := Nat.not_le.mpr hbl
  obtain ⟨y1, ey1⟩ : ∃ y, y = xs (nI (i + 1)).toNatClampNeg := ⟨_, rfl⟩
  refine lv_aload_n hx hb dL_law_1072 rfl (lv_at hl 1 rfl) ?_
  refine lv_aload_n hx hb dL_law_1073 rfl (lv_at hl 0 rfl) ?_
  refine lv_iload hx hb dL_law_1074 (lv_at hl 4 rfl) ?_
  refine lv_iconst (v := 1) hx hb dL_law_1076 (by decide) ?_
  refine lv_iadd hx hb dL_law_1077 ?_
  rw [show nI i + 1 = nI (i + 1) from nI_add i 1]
  refine va_sld hx hb hX hbl hbA hw.2.2.2 (vp_in_nI (by omega) (by omega)) dL_law_1078 ?_
  rw [← ey1]
  refine lv_aload_n hx hb dL_law_1079 rfl (lv_at hl 3 rfl) ?_
  refine gl_T hw (vx_runSX (As := [.ref (ad 0), .int y1, .ref o]) (rest := []) S (c_L_credit l hl9 D cy o f ad n σ hn y1 _) (vx_cwSW 3 hts gL_law_L_credit rfl rfl rfl (by decide +kernel) ⟨Nat.le_of_ble_eq_true rfl, Nat.le_of_ble_eq_true rfl⟩) (gl_preS hw hg _) rfl rfl hl.1 rfl (lv_room (Nat.le_of_ble_eq_true rfl)) dL_law_1080 ⟨k_1l hc (Nat.le_of_ble_eq_true rfl), k_1l hs (Nat.le_of_ble_eq_true rfl)⟩) (fun r1 u1 H locs hp1 hw => ?_)
  refine lv_istore (lv' := [(5, .int r1), (0, .ref b), (1, .ref (ad 0)), (2, .ref (am 0)), (3, .ref o), (4, .int (nI i))]) hx hb dL_law_1083 hl (by decide) rfl (fun ls hl => ?_)
  refine lv_aload_n hx hb dL_law_1085 rfl (lv_at hl 3 rfl) ?_
  refine lv_aload_n hx hb dL_law_1086 rfl (lv_at hl 1 rfl) ?_
  refine lv_iload hx hb dL_law_1087 (lv_at hl 5 rfl) ?_
  refine lv_iconst (v := 1) hx hb dL_law_1089 (by decide) ?_
  refine lv_iadd hx hb dL_law_1090 ?_
  rw [show nI i + 1 = nI (i + 1) from nI_add i 1]
  refine va_sld hx hb hX hbl hbA hw.2.2.2 (vp_in_nI (by omega) (by omega)) dL_law_1091 ?_
  rw [← ey1]
  refine gm_T hw (va_runV (As := [.int y1]) (rest := []) S (c_X4_credit l D cy am μ y1 _) (cwV 1 hts gL_law_X4_credit rfl rfl rfl (by decide +kernel) ⟨Nat.le_of_ble_eq_true rfl, Nat.le_of_ble_eq_true rfl⟩) (gm_preV hw _) rfl rfl hl.1 rfl (lv_room (Nat.le_of_ble_eq_true rfl)) dL_law_1092 ⟨k_2l hc (Nat.le_of_ble_eq_true rfl), k_2l hs (Nat.le_of_ble_eq_true rfl)⟩) (fun v μ1 H locs hp2 hw => ?_)
  obtain ⟨b1, rfl, hp2⟩ := hp2
  refine W.eq (g2 := F0 m 1095 ls [.int b1]) rfl ?_
  have hs9 := hsim y1 r1 u1 b1 μ1 hp1 hp2
  refine lv_istore (lv' := [(6, .int b1), (5, .int r1), (0, .ref b), (1, .ref (ad 0)), (2, .ref (am 0)), (3, .ref o), (4, .int (nI i))]) hx hb dL_law_1095 hl (by decide) rfl (fun ls hl => ?_)
  refine lv_aload_n hx hb dL_law_1097 rfl (lv_at hl 4 rfl) ?_
  refine gm_T hw (va_runV (As := []) (rest := []) S (c_X4_thrown l D cy am μ1 _) (cwV 0 hts gL_law_X4_thrown rfl rfl rfl (by decide +kernel) ⟨Nat.le_of_ble_eq_true rfl, Nat.le_of_ble_eq_true rfl⟩) (gm_preV hw _) rfl rfl hl.1 rfl (lv_room (Nat.le_of_ble_eq_true rfl)) dL_law_1098 ⟨k_3l hc (Nat.le_of_ble_eq_true rfl), k_3l hs (Nat.le_of_ble_eq_true rfl)⟩) (fun v9 μ9 H locs hp3 hw => ?_)
  obtain ⟨r2, rfl, hu9, hr2⟩ := hp3
  rw [hu9] at hw
  refine W.eq (g2 := F0 m 1101 ls [.int r2]) rfl ?_
  refine lv_iload hx hb dL_law_1101 (lv_at hl 1 rfl) ?_
  refine lv_icmp_eq (tgt := 1108) hx hb dL_law_1103 (by decide) (fun _ => ?_) (fun c9 => absurd (hr2.trans hs9.1) c9)
  refine lv_iload hx hb dL_law_1108 (lv_at hl 1 rfl) ?_
  refine lv_if_ne (tgt := 1125) hx hb dL_law_1110 (by decide) (fun c8 => ?_) (fun c8 => ?_)
  · refine lv_goto (tgt := 1502) hx hb dL_law_1125 (by decide) ?_
    refine W.widen (k := cells + 8) (n := slots + 160) (k_3e (Nat.le_of_ble_eq_true rfl)) (k_3e (Nat.le_of_ble_eq_true rfl)) ?_
    exact kk _ _ _ _ _ hs9.2.2 hw (lv_sub hl [2, 3, 4, 5, 6] rfl)
  · refine lv_aload_n hx hb dL_law_1113 rfl (lv_at hl 5 rfl) ?_
    refine lv_iconst (v := 0) hx hb dL_law_1114 (by decide) ?_
    refine g_out hx hb hw dL_law_1115 ?_
    refine lv_iload hx hb dL_law_1116 (lv_at hl 0 rfl) ?_
    refine lv_i2l (v := b1.toInt64) hx hb dL_law_1118 rfl ?_
    refine W.lcmp hx hb dL_law_1119 ?_
    rw [show lg_cmp (u1.1 (0 : Int32).toNatClampNeg) (b1.toInt64) = 0 by rw [(hs9.2.1 c8)]; exact lg_self _]
    refine lv_if_eq (tgt := 1125) hx hb dL_law_1120 (by decide) (fun _ => ?_) (fun h => absurd rfl h)
    refine lv_goto (tgt := 1502) hx hb dL_law_1125 (by decide) ?_
    refine W.widen (k := cells + 8) (n := slots + 160) (k_3e (Nat.le_of_ble_eq_true rfl)) (k_3e (Nat.le_of_ble_eq_true rfl)) ?_
    exact kk _ _ _ _ _ hs9.2.2 hw (lv_sub hl [2, 3, 4, 5, 6] rfl)
abbrev SS_laid (f : Nat → Int64) (ad : Nat → Nat) (n : Nat) (σ μ : S3) (J : LSt → S3 → Prop) : Prop := ∀ (x0 x1 : Int32), SimI (lP2 f ad n σ xIO xIS (e2 xIO xIS (inI x0 n ∧ endP σ x1) (¬ x1 < nI (fo σ))) Int32.toInt64 (fun r u => (inI x0 n ∧ endP σ x1) ∧ ¬ x1 < nI (fo σ) ∧ u = σ ∧ r = σ 8 x0.toNatClampNeg x1.toNatClampNeg)) (mP2 μ (inI x0 (nm μ) ∧ ¬ 60 < x1 ∧ ehP μ x1) (nI (fo μ) - 1 < x1) (th0 μ 8 x0.toNatClampNeg x1.toNatClampNeg) (th0 μ)) Int32.toInt64 J
set_option maxHeartbeats 2000000 in
set_option maxRecDepth 100000 in
theorem law_laid {p : Program} {l : Launch} {e : Env} {s : State} {m : MethodId} {below : List Frame} {meth : Method} {c : Code} {D : va_G} {cy : Nat → ClassId} {o : Nat} {am : Nat → Nat} {b L : Nat} {xs : Nat → Int32} {Q : State → Prop} {cells slots : Nat} (hl9 : l.stackTraces = false) (C0 : lw_At p s m meth c b L xs) (hg : GX s) {f : Nat → Int64} {ad : Nat → Nat} {n : Nat} {σ μ : S3} {H : Heap} {locs : List Loc} (hw : GW D cy s o am (f, ad, n, σ) μ H locs) {i : Nat} (hi : i + 4 ≤ L) (hL : L ≤ 2048) (hc : cells + 8 ≤ 601024) (hs : slots + 160 ≤ 7293034) (J : LSt → S3 → Prop) (hn : n ≤ 16) (hsim : SS_laid f ad n σ μ J) {ls : Array Slot} (hl : lv_has ls 7 [(0, .ref b), (1, .ref (ad 0)), (2, .ref (am 0)), (3, .ref o), (4, .int (nI i))]) (kk : ∀ (u1 : LSt) (μ1 : S3) (H1 : Heap) (locs1 : List Loc) (ls1 : Array Slot), J u1 μ1 → GW D cy s o am u1 μ1 H1 locs1 → lv_has ls1 7 [(0, .ref b), (1, .ref (ad 0)), (2, .ref (am 0)), (3, .ref o), (4, .int (nI i))] → W p l e room_1 s m #[Value.ref b] below meth c H1 locs1 (cells + 8) (slots + 160) Q (F0 m 1502 ls1 [])) : W p l e room_1 s m #[Value.ref b] below meth c H locs cells slots Q (F0 m 1128 ls []) := by
  obtain ⟨hx, hb, hr, hml, hown, hts0, hX, hbl, hlocks, hgv⟩ := C0
  have hts : ∀ w ∈ wsL_law, w.before #[Value.ref b] s = true := fun w h => hts0 w (wsL_law_in w h)
  have S : CallFix p m c cL_law 7 s #[Value.ref b] wsL_law RL := ⟨hx, hb, hml, hown, hts⟩
  have hbA : ¬ lA9 s b := Nat.not_le.mpr hbl
  obtain ⟨y1, ey1⟩ : ∃ y, y = xs (nI (i + 1)).toNatClampNeg := ⟨_, rfl⟩
  obtain ⟨y2, ey2⟩ : ∃ y, y = xs (nI (i + 2)).toNatClampNeg := ⟨_, rfl⟩
  refine lv_aload_n hx hb dL_law_1128 rfl (lv_at hl 1 rfl) ?_
  refine lv_aload_n hx hb dL_law_1129 rfl (lv_at hl 0 rfl) ?_
  refine lv_iload hx hb dL_law_1130 (lv_at hl 4 rfl) ?_
  refine lv_iconst (v := 1) hx hb dL_law_1132 (by decide) ?_
  refine lv_iadd hx hb dL_law_1133 ?_
  rw [show nI i + 1 = nI (i + 1) from nI_add i 1]
  refine va_sld hx hb hX hbl hbA hw.2.2.2 (vp_in_nI (by omega) (by omega)) dL_law_1134 ?_
  rw [← ey1]
  refine lv_aload_n hx hb dL_law_1135 rfl (lv_at hl 0 rfl) ?_
  refine lv_iload hx hb dL_law_1136 (lv_at hl 4 rfl) ?_
  refine lv_iconst (v := 2) hx hb dL_law_1138 (by decide) ?_
  refine lv_iadd hx hb dL_law_1139 ?_
  rw [show nI i + 2 = nI (i + 2) from nI_add i 2]
  refine va_sld hx hb hX hbl hbA hw.2.2.2 (vp_in_nI (by omega) (by omega)) dL_law_1140 ?_
  rw [← ey2]
  refine lv_aload_n hx hb dL_law_1141 rfl (lv_at hl 3 rfl) ?_
  refine gl_T hw (vx_runSX (As := [.ref (ad 0), .int y1, .int y2, .ref o]) (rest := []) S (c_L_laid l hl9 D cy o f ad n σ hn y1 y2 _) (vx_cwSW 4 hts gL_law_L_laid rfl rfl rfl (by decide +kernel) ⟨Nat.le_of_ble_eq_true rfl, Nat.le_of_ble_eq_true rfl⟩) (gl_preS hw hg _) rfl rfl hl.1 rfl (lv_room (Nat.le_of_ble_eq_true rfl)) dL_law_1142 ⟨k_1l hc (Nat.le_of_ble_eq_true rfl), k_1l hs (Nat.le_of_ble_eq_true rfl)⟩) (fun r1 u1 H locs hp1 hw => ?_)
  refine lv_istore (lv' := [(5, .int r1), (0, .ref b), (1, .ref (ad 0)), (2, .ref (am 0)), (3, .ref o), (4, .int (nI i))]) hx hb dL_law_1145 hl (by decide) rfl (fun ls hl => ?_)
  refine lv_aload_n hx hb dL_law_1147 rfl (lv_at hl 3 rfl) ?_
  refine lv_aload_n hx hb dL_law_1148 rfl (lv_at hl 1 rfl) ?_
  refine lv_iload hx hb dL_law_1149 (lv_at hl 5 rfl) ?_
  refine lv_iconst (v := 1) hx hb dL_law_1151 (by decide) ?_
  refine lv_iadd hx hb dL_law_1152 ?_
  rw [show nI i + 1 = nI (i + 1) from nI_add i 1]
  refine va_sld hx hb hX hbl hbA hw.2.2.2 (vp_in_nI (by omega) (by omega)) dL_law_1153 ?_
  rw [← ey1]
  refine lv_aload_n hx hb dL_law_1154 rfl (lv_at hl 1 rfl) ?_
  refine lv_iload hx hb dL_law_1155 (lv_at hl 5 rfl) ?_
  refine lv_iconst (v := 2) hx hb dL_law_1157 (by decide) ?_
  refine lv_iadd hx hb dL_law_1158 ?_
  rw [show nI i + 2 = nI (i + 2) from nI_add i 2]
  refine va_sld hx hb hX hbl hbA hw.2.2.2 (vp_in_nI (by omega) (by omega)) dL_law_1159 ?_
  rw [← ey2]
  refine gm_T hw (va_runV (As := [.int y1, .int y2]) (rest := []) S (c_X4_laid l D cy am μ y1 y2 _) (cwV 2 hts gL_law_X4_laid rfl rfl rfl (by decide +kernel) ⟨Nat.le_of_ble_eq_true rfl, Nat.le_of_ble_eq_true rfl⟩) (gm_preV hw _) rfl rfl hl.1 rfl (lv_room (Nat.le_of_ble_eq_true rfl)) dL_law_1160 ⟨k_2l hc (Nat.le_of_ble_eq_true rfl), k_2l hs (Nat.le_of_ble_eq_true rfl)⟩) (fun v μ1 H locs hp2 hw => ?_)
  obtain ⟨b1, rfl, hp2⟩ := hp2
  refine W.eq (g2 := F0 m 1163 ls [.int b1]) rfl ?_
  have hs9 := hsim y1 y2 r1 u1 b1 μ1 hp1 hp2
  refine lv_istore (lv' := [(6, .int b1), (5, .int r1), (0, .ref b), (1, .ref (ad 0)), (2, .ref (am 0)), (3, .ref o), (4, .int (nI i))]) hx hb dL_law_1163 hl (by decide) rfl (fun ls hl => ?_)
  refine lv_aload_n hx hb dL_law_1165 rfl (lv_at hl 4 rfl) ?_
  refine gm_T hw (va_runV (As := []) (rest := []) S (c_X4_thrown l D cy am μ1 _) (cwV 0 hts gL_law_X4_thrown rfl rfl rfl (by decide +kernel) ⟨Nat.le_of_ble_eq_true rfl, Nat.le_of_ble_eq_true rfl⟩) (gm_preV hw _) rfl rfl hl.1 rfl (lv_room (Nat.le_of_ble_eq_true rfl)) dL_law_1166 ⟨k_3l hc (Nat.le_of_ble_eq_true rfl), k_3l hs (Nat.le_of_ble_eq_true rfl)⟩) (fun v9 μ9 H locs hp3 hw => ?_)
  obtain ⟨r2, rfl, hu9, hr2⟩ := hp3
  rw [hu9] at hw
  refine W.eq (g2 := F0 m 1169 ls [.int r2]) rfl ?_
  refine lv_iload hx hb dL_law_1169 (lv_at hl 1 rfl) ?_
  refine lv_icmp_eq (tgt := 1176) hx hb dL_law_1171 (by decide) (fun _ => ?_) (fun c9 => absurd (hr2.trans hs9.1) c9)
  refine lv_iload hx hb dL_law_1176 (lv_at hl 1 rfl) ?_
  refine lv_if_ne (tgt := 1193) hx hb dL_law_1178 (by decide) (fun c8 => ?_) (fun c8 => ?_)
  · refine lv_goto (tgt := 1502) hx hb dL_law_1193 (by decide) ?_
    refine W.widen (k := cells + 8) (n := slots + 160) (k_3e (Nat.le_of_ble_eq_true rfl)) (k_3e (Nat.le_of_ble_eq_true rfl)) ?_
    exact kk _ _ _ _ _ hs9.2.2 hw (lv_sub hl [2, 3, 4, 5, 6] rfl)
  · refine lv_aload_n hx hb dL_law_1181 rfl (lv_at hl 5 rfl) ?_
    refine lv_iconst (v := 0) hx hb dL_law_1182 (by decide) ?_
    refine g_out hx hb hw dL_law_1183 ?_
    refine lv_iload hx hb dL_law_1184 (lv_at hl 0 rfl) ?_
    refine lv_i2l (v := b1.toInt64) hx hb dL_law_1186 rfl ?_
    refine W.lcmp hx hb dL_law_1187 ?_
    rw [show lg_cmp (u1.1 (0 : Int32).toNatClampNeg) (b1.toInt64) = 0 by rw [(hs9.2.1 c8)]; exact lg_self _]
    refine lv_if_eq (tgt := 1193) hx hb dL_law_1188 (by decide) (fun _ => ?_) (fun h => absurd rfl h)
    refine lv_goto (tgt := 1502) hx hb dL_law_1193 (by decide) ?_
    refine W.widen (k := cells + 8) (n := slots + 160) (k_3e (Nat.le_of_ble_eq_true rfl)) (k_3e (Nat.le_of_ble_eq_true rfl)) ?_
    exact kk _ _ _ _ _ hs9.2.2 hw (lv_sub hl [2, 3, 4, 5, 6] rfl)
abbrev SS_laidFor (f : Nat → Int64) (ad : Nat → Nat) (n : Nat) (σ μ : S3) (J : LSt → S3 → Prop) : Prop := ∀ (x0 x1 : Int32), SimI (lP1 f ad n σ xIO (e1 xIO (inI x0 4 ∧ endP σ x1)) Int32.toInt64 (fun r u => (inI x0 4 ∧ endP σ x1) ∧ u = σ ∧ r = σ 9 x0.toNatClampNeg x1.toNatClampNeg)) (mP1 μ (inI x0 4 ∧ ¬ 60 < x1 ∧ ehP μ x1) (th0 μ 9 x0.toNatClampNeg x1.toNatClampNeg) (th0 μ)) Int32.toInt64 J
set_option maxHeartbeats 2000000 in
set_option maxRecDepth 100000 in
theorem law_laidFor {p : Program} {l : Launch} {e : Env} {s : State} {m : MethodId} {below : List Frame} {meth : Method} {c : Code} {D : va_G} {cy : Nat → ClassId} {o : Nat} {am : Nat → Nat} {b L : Nat} {xs : Nat → Int32} {Q : State → Prop} {cells slots : Nat} (hl9 : l.stackTraces = false) (C0 : lw_At p s m meth c b L xs) (hg : GX s) {f : Nat → Int64} {ad : Nat → Nat} {n : Nat} {σ μ : S3} {H : Heap} {locs : List Loc} (hw : GW D cy s o am (f, ad, n, σ) μ H locs) {i : Nat} (hi : i + 4 ≤ L) (hL : L ≤ 2048) (hc : cells + 8 ≤ 601024) (hs : slots + 160 ≤ 7293034) (J : LSt → S3 → Prop)  (hsim : SS_laidFor f ad n σ μ J) {ls : Array Slot} (hl : lv_has ls 7 [(0, .ref b), (1, .ref (ad 0)), (2, .ref (am 0)), (3, .ref o), (4, .int (nI i))]) (kk : ∀ (u1 : LSt) (μ1 : S3) (H1 : Heap) (locs1 : List Loc) (ls1 : Array Slot), J u1 μ1 → GW D cy s o am u1 μ1 H1 locs1 → lv_has ls1 7 [(0, .ref b), (1, .ref (ad 0)), (2, .ref (am 0)), (3, .ref o), (4, .int (nI i))] → W p l e room_1 s m #[Value.ref b] below meth c H1 locs1 (cells + 8) (slots + 160) Q (F0 m 1502 ls1 [])) : W p l e room_1 s m #[Value.ref b] below meth c H locs cells slots Q (F0 m 1196 ls []) := by
  obtain ⟨hx, hb, hr, hml, hown, hts0, hX, hbl, hlocks, hgv⟩ := C0
  have hts : ∀ w ∈ wsL_law, w.before #[Value.ref b] s = true := fun w h => hts0 w (wsL_law_in w h)
  have S : CallFix p m c cL_law 7 s #[Value.ref b] wsL_law RL := ⟨hx, hb, hml, hown, hts⟩
  have hbA : ¬ lA9 s b := Nat.not_le.mpr hbl
  obtain ⟨y1, ey1⟩ : ∃ y, y = xs (nI (i + 1)).toNatClampNeg := ⟨_, rfl⟩
  obtain ⟨y2, ey2⟩ : ∃ y, y = xs (nI (i + 2)).toNatClampNeg := ⟨_, rfl⟩
  refine lv_aload_n hx hb dL_law_1196 rfl (lv_at hl 1 rfl) ?_
  refine lv_aload_n hx hb dL_law_1197 rfl (lv_at hl 0 rfl) ?_
  refine lv_iload hx hb dL_law_1198 (lv_at hl 4 rfl) ?_
  refine lv_iconst (v := 1) hx hb dL_law_1200 (by decide) ?_
  refine lv_iadd hx hb dL_law_1201 ?_
  rw [show nI i + 1 = nI (i + 1) from nI_add i 1]
  refine va_sld hx hb hX hbl hbA hw.2.2.2 (vp_in_nI (by omega) (by omega)) dL_law_1202 ?_
  rw [← ey1]
  refine lv_aload_n hx hb dL_law_1203 rfl (lv_at hl 0 rfl) ?_
  refine lv_iload hx hb dL_law_1204 (lv_at hl 4 rfl) ?_
  refine lv_iconst (v := 2) hx hb dL_law_1206 (by decide) ?_
  refine lv_iadd hx hb dL_law_1207 ?_
  rw [show nI i + 2 = nI (i + 2) from nI_add i 2]
  refine va_sld hx hb hX hbl hbA hw.2.2.2 (vp_in_nI (by omega) (by omega)) dL_law_1208 ?_
  rw [← ey2]
  refine lv_aload_n hx hb dL_law_1209 rfl (lv_at hl 3 rfl) ?_
  refine gl_T hw (vx_runSX (As := [.ref (ad 0), .int y1, .int y2, .ref o]) (rest := []) S (c_L_laidFor l hl9 D cy o f ad n σ y1 y2 _) (vx_cwSW 4 hts gL_law_L_laidFor rfl rfl rfl (by decide +kernel) ⟨Nat.le_of_ble_eq_true rfl, Nat.le_of_ble_eq_true rfl⟩) (gl_preS hw hg _) rfl rfl hl.1 rfl (lv_room (Nat.le_of_ble_eq_true rfl)) dL_law_1210 ⟨k_1l hc (Nat.le_of_ble_eq_true rfl), k_1l hs (Nat.le_of_ble_eq_true rfl)⟩) (fun r1 u1 H locs hp1 hw => ?_)
  refine lv_istore (lv' := [(5, .int r1), (0, .ref b), (1, .ref (ad 0)), (2, .ref (am 0)), (3, .ref o), (4, .int (nI i))]) hx hb dL_law_1213 hl (by decide) rfl (fun ls hl => ?_)
  refine lv_aload_n hx hb dL_law_1215 rfl (lv_at hl 3 rfl) ?_
  refine lv_aload_n hx hb dL_law_1216 rfl (lv_at hl 1 rfl) ?_
  refine lv_iload hx hb dL_law_1217 (lv_at hl 5 rfl) ?_
  refine lv_iconst (v := 1) hx hb dL_law_1219 (by decide) ?_
  refine lv_iadd hx hb dL_law_1220 ?_
  rw [show nI i + 1 = nI (i + 1) from nI_add i 1]
  refine va_sld hx hb hX hbl hbA hw.2.2.2 (vp_in_nI (by omega) (by omega)) dL_law_1221 ?_
  rw [← ey1]
  refine lv_aload_n hx hb dL_law_1222 rfl (lv_at hl 1 rfl) ?_
  refine lv_iload hx hb dL_law_1223 (lv_at hl 5 rfl) ?_
  refine lv_iconst (v := 2) hx hb dL_law_1225 (by decide) ?_
  refine lv_iadd hx hb dL_law_1226 ?_
  rw [show nI i + 2 = nI (i + 2) from nI_add i 2]
  refine va_sld hx hb hX hbl hbA hw.2.2.2 (vp_in_nI (by omega) (by omega)) dL_law_1227 ?_
  rw [← ey2]
  refine gm_T hw (va_runV (As := [.int y1, .int y2]) (rest := []) S (c_X4_laidFor l D cy am μ y1 y2 _) (cwV 2 hts gL_law_X4_laidFor rfl rfl rfl (by decide +kernel) ⟨Nat.le_of_ble_eq_true rfl, Nat.le_of_ble_eq_true rfl⟩) (gm_preV hw _) rfl rfl hl.1 rfl (lv_room (Nat.le_of_ble_eq_true rfl)) dL_law_1228 ⟨k_2l hc (Nat.le_of_ble_eq_true rfl), k_2l hs (Nat.le_of_ble_eq_true rfl)⟩) (fun v μ1 H locs hp2 hw => ?_)
  obtain ⟨b1, rfl, hp2⟩ := hp2
  refine W.eq (g2 := F0 m 1231 ls [.int b1]) rfl ?_
  have hs9 := hsim y1 y2 r1 u1 b1 μ1 hp1 hp2
  refine lv_istore (lv' := [(6, .int b1), (5, .int r1), (0, .ref b), (1, .ref (ad 0)), (2, .ref (am 0)), (3, .ref o), (4, .int (nI i))]) hx hb dL_law_1231 hl (by decide) rfl (fun ls hl => ?_)
  refine lv_aload_n hx hb dL_law_1233 rfl (lv_at hl 4 rfl) ?_
  refine gm_T hw (va_runV (As := []) (rest := []) S (c_X4_thrown l D cy am μ1 _) (cwV 0 hts gL_law_X4_thrown rfl rfl rfl (by decide +kernel) ⟨Nat.le_of_ble_eq_true rfl, Nat.le_of_ble_eq_true rfl⟩) (gm_preV hw _) rfl rfl hl.1 rfl (lv_room (Nat.le_of_ble_eq_true rfl)) dL_law_1234 ⟨k_3l hc (Nat.le_of_ble_eq_true rfl), k_3l hs (Nat.le_of_ble_eq_true rfl)⟩) (fun v9 μ9 H locs hp3 hw => ?_)
  obtain ⟨r2, rfl, hu9, hr2⟩ := hp3
  rw [hu9] at hw
  refine W.eq (g2 := F0 m 1237 ls [.int r2]) rfl ?_
  refine lv_iload hx hb dL_law_1237 (lv_at hl 1 rfl) ?_
  refine lv_icmp_eq (tgt := 1244) hx hb dL_law_1239 (by decide) (fun _ => ?_) (fun c9 => absurd (hr2.trans hs9.1) c9)
  refine lv_iload hx hb dL_law_1244 (lv_at hl 1 rfl) ?_
  refine lv_if_ne (tgt := 1261) hx hb dL_law_1246 (by decide) (fun c8 => ?_) (fun c8 => ?_)
  · refine lv_goto (tgt := 1502) hx hb dL_law_1261 (by decide) ?_
    refine W.widen (k := cells + 8) (n := slots + 160) (k_3e (Nat.le_of_ble_eq_true rfl)) (k_3e (Nat.le_of_ble_eq_true rfl)) ?_
    exact kk _ _ _ _ _ hs9.2.2 hw (lv_sub hl [2, 3, 4, 5, 6] rfl)
  · refine lv_aload_n hx hb dL_law_1249 rfl (lv_at hl 5 rfl) ?_
    refine lv_iconst (v := 0) hx hb dL_law_1250 (by decide) ?_
    refine g_out hx hb hw dL_law_1251 ?_
    refine lv_iload hx hb dL_law_1252 (lv_at hl 0 rfl) ?_
    refine lv_i2l (v := b1.toInt64) hx hb dL_law_1254 rfl ?_
    refine W.lcmp hx hb dL_law_1255 ?_
    rw [show lg_cmp (u1.1 (0 : Int32).toNatClampNeg) (b1.toInt64) = 0 by rw [(hs9.2.1 c8)]; exact lg_self _]
    refine lv_if_eq (tgt := 1261) hx hb dL_law_1256 (by decide) (fun _ => ?_) (fun h => absurd rfl h)
    refine lv_goto (tgt := 1502) hx hb dL_law_1261 (by decide) ?_
    refine W.widen (k := cells + 8) (n := slots + 160) (k_3e (Nat.le_of_ble_eq_true rfl)) (k_3e (Nat.le_of_ble_eq_true rfl)) ?_
    exact kk _ _ _ _ _ hs9.2.2 hw (lv_sub hl [2, 3, 4, 5, 6] rfl)
abbrev SS_hasStanding (f : Nat → Int64) (ad : Nat → Nat) (n : Nat) (σ μ : S3) (J : LSt → S3 → Prop) : Prop := ∀ (x0 : Int32), SimI (lP1 f ad n σ xIO (e1 xIO (inI x0 n)) z64 (fun r u => inI x0 n ∧ u = σ ∧ r = stI σ x0.toNatClampNeg (σ 18 0 0))) (mP1 μ (inI x0 (nm μ)) (stmI (th0 μ) x0.toNatClampNeg) (th0 μ)) z64 J
set_option maxHeartbeats 2000000 in
set_option maxRecDepth 100000 in
theorem law_hasStanding {p : Program} {l : Launch} {e : Env} {s : State} {m : MethodId} {below : List Frame} {meth : Method} {c : Code} {D : va_G} {cy : Nat → ClassId} {o : Nat} {am : Nat → Nat} {b L : Nat} {xs : Nat → Int32} {Q : State → Prop} {cells slots : Nat} (hl9 : l.stackTraces = false) (C0 : lw_At p s m meth c b L xs) (hg : GX s) {f : Nat → Int64} {ad : Nat → Nat} {n : Nat} {σ μ : S3} {H : Heap} {locs : List Loc} (hw : GW D cy s o am (f, ad, n, σ) μ H locs) {i : Nat} (hi : i + 4 ≤ L) (hL : L ≤ 2048) (hc : cells + 8 ≤ 601024) (hs : slots + 160 ≤ 7293034) (J : LSt → S3 → Prop) (hn : n ≤ 16) (hsim : SS_hasStanding f ad n σ μ J) {ls : Array Slot} (hl : lv_has ls 7 [(0, .ref b), (1, .ref (ad 0)), (2, .ref (am 0)), (3, .ref o), (4, .int (nI i))]) (kk : ∀ (u1 : LSt) (μ1 : S3) (H1 : Heap) (locs1 : List Loc) (ls1 : Array Slot), J u1 μ1 → GW D cy s o am u1 μ1 H1 locs1 → lv_has ls1 7 [(0, .ref b), (1, .ref (ad 0)), (2, .ref (am 0)), (3, .ref o), (4, .int (nI i))] → W p l e room_1 s m #[Value.ref b] below meth c H1 locs1 (cells + 8) (slots + 160) Q (F0 m 1502 ls1 [])) : W p l e room_1 s m #[Value.ref b] below meth c H locs cells slots Q (F0 m 1264 ls []) := by
  obtain ⟨hx, hb, hr, hml, hown, hts0, hX, hbl, hlocks, hgv⟩ := C0
  have hts : ∀ w ∈ wsL_law, w.before #[Value.ref b] s = true := fun w h => hts0 w (wsL_law_in w h)
  have S : CallFix p m c cL_law 7 s #[Value.ref b] wsL_law RL := ⟨hx, hb, hml, hown, hts⟩
  have hbA : ¬ lA9 s b := Nat.not_le.mpr hbl
  obtain ⟨y1, ey1⟩ : ∃ y, y = xs (nI (i + 1)).toNatClampNeg := ⟨_, rfl⟩
  refine lv_aload_n hx hb dL_law_1264 rfl (lv_at hl 1 rfl) ?_
  refine lv_aload_n hx hb dL_law_1265 rfl (lv_at hl 0 rfl) ?_
  refine lv_iload hx hb dL_law_1266 (lv_at hl 4 rfl) ?_
  refine lv_iconst (v := 1) hx hb dL_law_1268 (by decide) ?_
  refine lv_iadd hx hb dL_law_1269 ?_
  rw [show nI i + 1 = nI (i + 1) from nI_add i 1]
  refine va_sld hx hb hX hbl hbA hw.2.2.2 (vp_in_nI (by omega) (by omega)) dL_law_1270 ?_
  rw [← ey1]
  refine lv_aload_n hx hb dL_law_1271 rfl (lv_at hl 3 rfl) ?_
  refine gl_T hw (vx_runSX (As := [.ref (ad 0), .int y1, .ref o]) (rest := []) S (c_L_hasStanding l hl9 D cy o f ad n σ hn y1 _) (vx_cwSW 3 hts gL_law_L_hasStanding rfl rfl rfl (by decide +kernel) ⟨Nat.le_of_ble_eq_true rfl, Nat.le_of_ble_eq_true rfl⟩) (gl_preS hw hg _) rfl rfl hl.1 rfl (lv_room (Nat.le_of_ble_eq_true rfl)) dL_law_1272 ⟨k_1l hc (Nat.le_of_ble_eq_true rfl), k_1l hs (Nat.le_of_ble_eq_true rfl)⟩) (fun r1 u1 H locs hp1 hw => ?_)
  refine lv_istore (lv' := [(5, .int r1), (0, .ref b), (1, .ref (ad 0)), (2, .ref (am 0)), (3, .ref o), (4, .int (nI i))]) hx hb dL_law_1275 hl (by decide) rfl (fun ls hl => ?_)
  refine lv_aload_n hx hb dL_law_1277 rfl (lv_at hl 3 rfl) ?_
  refine lv_aload_n hx hb dL_law_1278 rfl (lv_at hl 1 rfl) ?_
  refine lv_iload hx hb dL_law_1279 (lv_at hl 5 rfl) ?_
  refine lv_iconst (v := 1) hx hb dL_law_1281 (by decide) ?_
  refine lv_iadd hx hb dL_law_1282 ?_
  rw [show nI i + 1 = nI (i + 1) from nI_add i 1]
  refine va_sld hx hb hX hbl hbA hw.2.2.2 (vp_in_nI (by omega) (by omega)) dL_law_1283 ?_
  rw [← ey1]
  refine gm_T hw (va_runV (As := [.int y1]) (rest := []) S (c_X4_hasStanding l D cy am μ y1 _) (cwV 1 hts gL_law_X4_hasStanding rfl rfl rfl (by decide +kernel) ⟨Nat.le_of_ble_eq_true rfl, Nat.le_of_ble_eq_true rfl⟩) (gm_preV hw _) rfl rfl hl.1 rfl (lv_room (Nat.le_of_ble_eq_true rfl)) dL_law_1284 ⟨k_2l hc (Nat.le_of_ble_eq_true rfl), k_2l hs (Nat.le_of_ble_eq_true rfl)⟩) (fun v μ1 H locs hp2 hw => ?_)
  obtain ⟨b1, rfl, hp2⟩ := hp2
  refine W.eq (g2 := F0 m 1287 ls [.int b1]) rfl ?_
  have hs9 := hsim y1 r1 u1 b1 μ1 hp1 hp2
  refine lv_istore (lv' := [(6, .int b1), (5, .int r1), (0, .ref b), (1, .ref (ad 0)), (2, .ref (am 0)), (3, .ref o), (4, .int (nI i))]) hx hb dL_law_1287 hl (by decide) rfl (fun ls hl => ?_)
  refine lv_aload_n hx hb dL_law_1289 rfl (lv_at hl 4 rfl) ?_
  refine gm_T hw (va_runV (As := []) (rest := []) S (c_X4_thrown l D cy am μ1 _) (cwV 0 hts gL_law_X4_thrown rfl rfl rfl (by decide +kernel) ⟨Nat.le_of_ble_eq_true rfl, Nat.le_of_ble_eq_true rfl⟩) (gm_preV hw _) rfl rfl hl.1 rfl (lv_room (Nat.le_of_ble_eq_true rfl)) dL_law_1290 ⟨k_3l hc (Nat.le_of_ble_eq_true rfl), k_3l hs (Nat.le_of_ble_eq_true rfl)⟩) (fun v9 μ9 H locs hp3 hw => ?_)
  obtain ⟨r2, rfl, hu9, hr2⟩ := hp3
  rw [hu9] at hw
  refine W.eq (g2 := F0 m 1293 ls [.int r2]) rfl ?_
  refine lv_iload hx hb dL_law_1293 (lv_at hl 1 rfl) ?_
  refine lv_icmp_eq (tgt := 1300) hx hb dL_law_1295 (by decide) (fun _ => ?_) (fun c9 => absurd (hr2.trans hs9.1) c9)
  refine lv_iload hx hb dL_law_1300 (lv_at hl 1 rfl) ?_
  refine lv_if_ne (tgt := 1324) hx hb dL_law_1302 (by decide) (fun c8 => ?_) (fun c8 => ?_)
  · refine lv_goto (tgt := 1502) hx hb dL_law_1324 (by decide) ?_
    refine W.widen (k := cells + 8) (n := slots + 160) (k_3e (Nat.le_of_ble_eq_true rfl)) (k_3e (Nat.le_of_ble_eq_true rfl)) ?_
    exact kk _ _ _ _ _ hs9.2.2 hw (lv_sub hl [2, 3, 4, 5, 6] rfl)
  · refine lv_aload_n hx hb dL_law_1305 rfl (lv_at hl 5 rfl) ?_
    refine lv_iconst (v := 0) hx hb dL_law_1306 (by decide) ?_
    refine g_out hx hb hw dL_law_1307 ?_
    refine lv_iload hx hb dL_law_1308 (lv_at hl 0 rfl) ?_
    refine lv_if_eq (tgt := 1317) hx hb dL_law_1310 (by decide) (fun c7 => ?_) (fun c7 => ?_)
    · refine lv_lconst (v := 0) hx hb dL_law_1317 (by decide) ?_
      refine W.lcmp hx hb dL_law_1318 ?_
      rw [show lg_cmp (u1.1 (0 : Int32).toNatClampNeg) (0) = 0 by rw [(hs9.2.1 c8).trans (if_pos c7)]; exact lg_self _]
      refine lv_if_eq (tgt := 1324) hx hb dL_law_1319 (by decide) (fun _ => ?_) (fun h => absurd rfl h)
      refine lv_goto (tgt := 1502) hx hb dL_law_1324 (by decide) ?_
      refine W.widen (k := cells + 8) (n := slots + 160) (k_3e (Nat.le_of_ble_eq_true rfl)) (k_3e (Nat.le_of_ble_eq_true rfl)) ?_
      exact kk _ _ _ _ _ hs9.2.2 hw (lv_sub hl [2, 3, 4, 5, 6] rfl)
    · refine lv_lconst (v := 1) hx hb dL_law_1313 (by decide) ?_
      refine lv_goto (tgt := 1318) hx hb dL_law_1314 (by decide) ?_
      refine W.lcmp hx hb dL_law_1318 ?_
      rw [show lg_cmp (u1.1 (0 : Int32).toNatClampNeg) (1) = 0 by rw [(hs9.2.1 c8).trans (if_neg c7)]; exact lg_self _]
      refine lv_if_eq (tgt := 1324) hx hb dL_law_1319 (by decide) (fun _ => ?_) (fun h => absurd rfl h)
      refine lv_goto (tgt := 1502) hx hb dL_law_1324 (by decide) ?_
      refine W.widen (k := cells + 8) (n := slots + 160) (k_3e (Nat.le_of_ble_eq_true rfl)) (k_3e (Nat.le_of_ble_eq_true rfl)) ?_
      exact kk _ _ _ _ _ hs9.2.2 hw (lv_sub hl [2, 3, 4, 5, 6] rfl)
abbrev SS_strikePay (f : Nat → Int64) (ad : Nat → Nat) (n : Nat) (σ μ : S3) (J : LSt → S3 → Prop) : Prop := ∀ (x0 : Int32), SimI (lP1 f ad n σ xIO (e1 xIO (inI x0 n)) Int32.toInt64 (fun r u => inI x0 n ∧ u = σ ∧ r = σ 6 x0.toNatClampNeg 0)) (mP1 μ (inI x0 (nm μ)) (th0 μ 6 x0.toNatClampNeg 0) (th0 μ)) Int32.toInt64 J
set_option maxHeartbeats 2000000 in
set_option maxRecDepth 100000 in
theorem law_strikePay {p : Program} {l : Launch} {e : Env} {s : State} {m : MethodId} {below : List Frame} {meth : Method} {c : Code} {D : va_G} {cy : Nat → ClassId} {o : Nat} {am : Nat → Nat} {b L : Nat} {xs : Nat → Int32} {Q : State → Prop} {cells slots : Nat} (hl9 : l.stackTraces = false) (C0 : lw_At p s m meth c b L xs) (hg : GX s) {f : Nat → Int64} {ad : Nat → Nat} {n : Nat} {σ μ : S3} {H : Heap} {locs : List Loc} (hw : GW D cy s o am (f, ad, n, σ) μ H locs) {i : Nat} (hi : i + 4 ≤ L) (hL : L ≤ 2048) (hc : cells + 8 ≤ 601024) (hs : slots + 160 ≤ 7293034) (J : LSt → S3 → Prop) (hn : n ≤ 16) (hsim : SS_strikePay f ad n σ μ J) {ls : Array Slot} (hl : lv_has ls 7 [(0, .ref b), (1, .ref (ad 0)), (2, .ref (am 0)), (3, .ref o), (4, .int (nI i))]) (kk : ∀ (u1 : LSt) (μ1 : S3) (H1 : Heap) (locs1 : List Loc) (ls1 : Array Slot), J u1 μ1 → GW D cy s o am u1 μ1 H1 locs1 → lv_has ls1 7 [(0, .ref b), (1, .ref (ad 0)), (2, .ref (am 0)), (3, .ref o), (4, .int (nI i))] → W p l e room_1 s m #[Value.ref b] below meth c H1 locs1 (cells + 8) (slots + 160) Q (F0 m 1502 ls1 [])) : W p l e room_1 s m #[Value.ref b] below meth c H locs cells slots Q (F0 m 1327 ls []) := by
  obtain ⟨hx, hb, hr, hml, hown, hts0, hX, hbl, hlocks, hgv⟩ := C0
  have hts : ∀ w ∈ wsL_law, w.before #[Value.ref b] s = true := fun w h => hts0 w (wsL_law_in w h)
  have S : CallFix p m c cL_law 7 s #[Value.ref b] wsL_law RL := ⟨hx, hb, hml, hown, hts⟩
  have hbA : ¬ lA9 s b := Nat.not_le.mpr hbl
  obtain ⟨y1, ey1⟩ : ∃ y, y = xs (nI (i + 1)).toNatClampNeg := ⟨_, rfl⟩
  refine lv_aload_n hx hb dL_law_1327 rfl (lv_at hl 1 rfl) ?_
  refine lv_aload_n hx hb dL_law_1328 rfl (lv_at hl 0 rfl) ?_
  refine lv_iload hx hb dL_law_1329 (lv_at hl 4 rfl) ?_
  refine lv_iconst (v := 1) hx hb dL_law_1331 (by decide) ?_
  refine lv_iadd hx hb dL_law_1332 ?_
  rw [show nI i + 1 = nI (i + 1) from nI_add i 1]
  refine va_sld hx hb hX hbl hbA hw.2.2.2 (vp_in_nI (by omega) (by omega)) dL_law_1333 ?_
  rw [← ey1]
  refine lv_aload_n hx hb dL_law_1334 rfl (lv_at hl 3 rfl) ?_
  refine gl_T hw (vx_runSX (As := [.ref (ad 0), .int y1, .ref o]) (rest := []) S (c_L_strikePay l hl9 D cy o f ad n σ hn y1 _) (vx_cwSW 3 hts gL_law_L_strikePay rfl rfl rfl (by decide +kernel) ⟨Nat.le_of_ble_eq_true rfl, Nat.le_of_ble_eq_true rfl⟩) (gl_preS hw hg _) rfl rfl hl.1 rfl (lv_room (Nat.le_of_ble_eq_true rfl)) dL_law_1335 ⟨k_1l hc (Nat.le_of_ble_eq_true rfl), k_1l hs (Nat.le_of_ble_eq_true rfl)⟩) (fun r1 u1 H locs hp1 hw => ?_)
  refine lv_istore (lv' := [(5, .int r1), (0, .ref b), (1, .ref (ad 0)), (2, .ref (am 0)), (3, .ref o), (4, .int (nI i))]) hx hb dL_law_1338 hl (by decide) rfl (fun ls hl => ?_)
  refine lv_aload_n hx hb dL_law_1340 rfl (lv_at hl 3 rfl) ?_
  refine lv_aload_n hx hb dL_law_1341 rfl (lv_at hl 1 rfl) ?_
  refine lv_iload hx hb dL_law_1342 (lv_at hl 5 rfl) ?_
  refine lv_iconst (v := 1) hx hb dL_law_1344 (by decide) ?_
  refine lv_iadd hx hb dL_law_1345 ?_
  rw [show nI i + 1 = nI (i + 1) from nI_add i 1]
  refine va_sld hx hb hX hbl hbA hw.2.2.2 (vp_in_nI (by omega) (by omega)) dL_law_1346 ?_
  rw [← ey1]
  refine gm_T hw (va_runV (As := [.int y1]) (rest := []) S (c_X4_strikePay l D cy am μ y1 _) (cwV 1 hts gL_law_X4_strikePay rfl rfl rfl (by decide +kernel) ⟨Nat.le_of_ble_eq_true rfl, Nat.le_of_ble_eq_true rfl⟩) (gm_preV hw _) rfl rfl hl.1 rfl (lv_room (Nat.le_of_ble_eq_true rfl)) dL_law_1347 ⟨k_2l hc (Nat.le_of_ble_eq_true rfl), k_2l hs (Nat.le_of_ble_eq_true rfl)⟩) (fun v μ1 H locs hp2 hw => ?_)
  obtain ⟨b1, rfl, hp2⟩ := hp2
  refine W.eq (g2 := F0 m 1350 ls [.int b1]) rfl ?_
  have hs9 := hsim y1 r1 u1 b1 μ1 hp1 hp2
  refine lv_istore (lv' := [(6, .int b1), (5, .int r1), (0, .ref b), (1, .ref (ad 0)), (2, .ref (am 0)), (3, .ref o), (4, .int (nI i))]) hx hb dL_law_1350 hl (by decide) rfl (fun ls hl => ?_)
  refine lv_aload_n hx hb dL_law_1352 rfl (lv_at hl 4 rfl) ?_
  refine gm_T hw (va_runV (As := []) (rest := []) S (c_X4_thrown l D cy am μ1 _) (cwV 0 hts gL_law_X4_thrown rfl rfl rfl (by decide +kernel) ⟨Nat.le_of_ble_eq_true rfl, Nat.le_of_ble_eq_true rfl⟩) (gm_preV hw _) rfl rfl hl.1 rfl (lv_room (Nat.le_of_ble_eq_true rfl)) dL_law_1353 ⟨k_3l hc (Nat.le_of_ble_eq_true rfl), k_3l hs (Nat.le_of_ble_eq_true rfl)⟩) (fun v9 μ9 H locs hp3 hw => ?_)
  obtain ⟨r2, rfl, hu9, hr2⟩ := hp3
  rw [hu9] at hw
  refine W.eq (g2 := F0 m 1356 ls [.int r2]) rfl ?_
  refine lv_iload hx hb dL_law_1356 (lv_at hl 1 rfl) ?_
  refine lv_icmp_eq (tgt := 1363) hx hb dL_law_1358 (by decide) (fun _ => ?_) (fun c9 => absurd (hr2.trans hs9.1) c9)
  refine lv_iload hx hb dL_law_1363 (lv_at hl 1 rfl) ?_
  refine lv_if_ne (tgt := 1380) hx hb dL_law_1365 (by decide) (fun c8 => ?_) (fun c8 => ?_)
  · refine lv_goto (tgt := 1502) hx hb dL_law_1380 (by decide) ?_
    refine W.widen (k := cells + 8) (n := slots + 160) (k_3e (Nat.le_of_ble_eq_true rfl)) (k_3e (Nat.le_of_ble_eq_true rfl)) ?_
    exact kk _ _ _ _ _ hs9.2.2 hw (lv_sub hl [2, 3, 4, 5, 6] rfl)
  · refine lv_aload_n hx hb dL_law_1368 rfl (lv_at hl 5 rfl) ?_
    refine lv_iconst (v := 0) hx hb dL_law_1369 (by decide) ?_
    refine g_out hx hb hw dL_law_1370 ?_
    refine lv_iload hx hb dL_law_1371 (lv_at hl 0 rfl) ?_
    refine lv_i2l (v := b1.toInt64) hx hb dL_law_1373 rfl ?_
    refine W.lcmp hx hb dL_law_1374 ?_
    rw [show lg_cmp (u1.1 (0 : Int32).toNatClampNeg) (b1.toInt64) = 0 by rw [(hs9.2.1 c8)]; exact lg_self _]
    refine lv_if_eq (tgt := 1380) hx hb dL_law_1375 (by decide) (fun _ => ?_) (fun h => absurd rfl h)
    refine lv_goto (tgt := 1502) hx hb dL_law_1380 (by decide) ?_
    refine W.widen (k := cells + 8) (n := slots + 160) (k_3e (Nat.le_of_ble_eq_true rfl)) (k_3e (Nat.le_of_ble_eq_true rfl)) ?_
    exact kk _ _ _ _ _ hs9.2.2 hw (lv_sub hl [2, 3, 4, 5, 6] rfl)
abbrev SS_delegates (f : Nat → Int64) (ad : Nat → Nat) (n : Nat) (σ μ : S3) (J : LSt → S3 → Prop) : Prop := ∀ (x0 : Int32), SimI (lP1 f ad n σ xIO (e1 xIO (inI x0 4)) Int32.toInt64 (fun r u => inI x0 4 ∧ u = σ ∧ r = σ 16 x0.toNatClampNeg 0)) (mP1 μ (inI x0 4) (th0 μ 16 x0.toNatClampNeg 0) (th0 μ)) Int32.toInt64 J
set_option maxHeartbeats 2000000 in
set_option maxRecDepth 100000 in
theorem law_delegates {p : Program} {l : Launch} {e : Env} {s : State} {m : MethodId} {below : List Frame} {meth : Method} {c : Code} {D : va_G} {cy : Nat → ClassId} {o : Nat} {am : Nat → Nat} {b L : Nat} {xs : Nat → Int32} {Q : State → Prop} {cells slots : Nat} (hl9 : l.stackTraces = false) (C0 : lw_At p s m meth c b L xs) (hg : GX s) {f : Nat → Int64} {ad : Nat → Nat} {n : Nat} {σ μ : S3} {H : Heap} {locs : List Loc} (hw : GW D cy s o am (f, ad, n, σ) μ H locs) {i : Nat} (hi : i + 4 ≤ L) (hL : L ≤ 2048) (hc : cells + 8 ≤ 601024) (hs : slots + 160 ≤ 7293034) (J : LSt → S3 → Prop)  (hsim : SS_delegates f ad n σ μ J) {ls : Array Slot} (hl : lv_has ls 7 [(0, .ref b), (1, .ref (ad 0)), (2, .ref (am 0)), (3, .ref o), (4, .int (nI i))]) (kk : ∀ (u1 : LSt) (μ1 : S3) (H1 : Heap) (locs1 : List Loc) (ls1 : Array Slot), J u1 μ1 → GW D cy s o am u1 μ1 H1 locs1 → lv_has ls1 7 [(0, .ref b), (1, .ref (ad 0)), (2, .ref (am 0)), (3, .ref o), (4, .int (nI i))] → W p l e room_1 s m #[Value.ref b] below meth c H1 locs1 (cells + 8) (slots + 160) Q (F0 m 1502 ls1 [])) : W p l e room_1 s m #[Value.ref b] below meth c H locs cells slots Q (F0 m 1383 ls []) := by
  obtain ⟨hx, hb, hr, hml, hown, hts0, hX, hbl, hlocks, hgv⟩ := C0
  have hts : ∀ w ∈ wsL_law, w.before #[Value.ref b] s = true := fun w h => hts0 w (wsL_law_in w h)
  have S : CallFix p m c cL_law 7 s #[Value.ref b] wsL_law RL := ⟨hx, hb, hml, hown, hts⟩
  have hbA : ¬ lA9 s b := Nat.not_le.mpr hbl
  obtain ⟨y1, ey1⟩ : ∃ y, y = xs (nI (i + 1)).toNatClampNeg := ⟨_, rfl⟩
  refine lv_aload_n hx hb dL_law_1383 rfl (lv_at hl 1 rfl) ?_
  refine lv_aload_n hx hb dL_law_1384 rfl (lv_at hl 0 rfl) ?_
  refine lv_iload hx hb dL_law_1385 (lv_at hl 4 rfl) ?_
  refine lv_iconst (v := 1) hx hb dL_law_1387 (by decide) ?_
  refine lv_iadd hx hb dL_law_1388 ?_
  rw [show nI i + 1 = nI (i + 1) from nI_add i 1]
  refine va_sld hx hb hX hbl hbA hw.2.2.2 (vp_in_nI (by omega) (by omega)) dL_law_1389 ?_
  rw [← ey1]
  refine lv_aload_n hx hb dL_law_1390 rfl (lv_at hl 3 rfl) ?_
  refine gl_T hw (vx_runSX (As := [.ref (ad 0), .int y1, .ref o]) (rest := []) S (c_L_delegates l hl9 D cy o f ad n σ y1 _) (vx_cwSW 3 hts gL_law_L_delegates rfl rfl rfl (by decide +kernel) ⟨Nat.le_of_ble_eq_true rfl, Nat.le_of_ble_eq_true rfl⟩) (gl_preS hw hg _) rfl rfl hl.1 rfl (lv_room (Nat.le_of_ble_eq_true rfl)) dL_law_1391 ⟨k_1l hc (Nat.le_of_ble_eq_true rfl), k_1l hs (Nat.le_of_ble_eq_true rfl)⟩) (fun r1 u1 H locs hp1 hw => ?_)
  refine lv_istore (lv' := [(5, .int r1), (0, .ref b), (1, .ref (ad 0)), (2, .ref (am 0)), (3, .ref o), (4, .int (nI i))]) hx hb dL_law_1394 hl (by decide) rfl (fun ls hl => ?_)
  refine lv_aload_n hx hb dL_law_1396 rfl (lv_at hl 3 rfl) ?_
  refine lv_aload_n hx hb dL_law_1397 rfl (lv_at hl 1 rfl) ?_
  refine lv_iload hx hb dL_law_1398 (lv_at hl 5 rfl) ?_
  refine lv_iconst (v := 1) hx hb dL_law_1400 (by decide) ?_
  refine lv_iadd hx hb dL_law_1401 ?_
  rw [show nI i + 1 = nI (i + 1) from nI_add i 1]
  refine va_sld hx hb hX hbl hbA hw.2.2.2 (vp_in_nI (by omega) (by omega)) dL_law_1402 ?_
  rw [← ey1]
  refine gm_T hw (va_runV (As := [.int y1]) (rest := []) S (c_X4_delegates l D cy am μ y1 _) (cwV 1 hts gL_law_X4_delegates rfl rfl rfl (by decide +kernel) ⟨Nat.le_of_ble_eq_true rfl, Nat.le_of_ble_eq_true rfl⟩) (gm_preV hw _) rfl rfl hl.1 rfl (lv_room (Nat.le_of_ble_eq_true rfl)) dL_law_1403 ⟨k_2l hc (Nat.le_of_ble_eq_true rfl), k_2l hs (Nat.le_of_ble_eq_true rfl)⟩) (fun v μ1 H locs hp2 hw => ?_)
  obtain ⟨b1, rfl, hp2⟩ := hp2
  refine W.eq (g2 := F0 m 1406 ls [.int b1]) rfl ?_
  have hs9 := hsim y1 r1 u1 b1 μ1 hp1 hp2
  refine lv_istore (lv' := [(6, .int b1), (5, .int r1), (0, .ref b), (1, .ref (ad 0)), (2, .ref (am 0)), (3, .ref o), (4, .int (nI i))]) hx hb dL_law_1406 hl (by decide) rfl (fun ls hl => ?_)
  refine lv_aload_n hx hb dL_law_1408 rfl (lv_at hl 4 rfl) ?_
  refine gm_T hw (va_runV (As := []) (rest := []) S (c_X4_thrown l D cy am μ1 _) (cwV 0 hts gL_law_X4_thrown rfl rfl rfl (by decide +kernel) ⟨Nat.le_of_ble_eq_true rfl, Nat.le_of_ble_eq_true rfl⟩) (gm_preV hw _) rfl rfl hl.1 rfl (lv_room (Nat.le_of_ble_eq_true rfl)) dL_law_1409 ⟨k_3l hc (Nat.le_of_ble_eq_true rfl), k_3l hs (Nat.le_of_ble_eq_true rfl)⟩) (fun v9 μ9 H locs hp3 hw => ?_)
  obtain ⟨r2, rfl, hu9, hr2⟩ := hp3
  rw [hu9] at hw
  refine W.eq (g2 := F0 m 1412 ls [.int r2]) rfl ?_
  refine lv_iload hx hb dL_law_1412 (lv_at hl 1 rfl) ?_
  refine lv_icmp_eq (tgt := 1419) hx hb dL_law_1414 (by decide) (fun _ => ?_) (fun c9 => absurd (hr2.trans hs9.1) c9)
  refine lv_iload hx hb dL_law_1419 (lv_at hl 1 rfl) ?_
  refine lv_if_ne (tgt := 1436) hx hb dL_law_1421 (by decide) (fun c8 => ?_) (fun c8 => ?_)
  · refine lv_goto (tgt := 1502) hx hb dL_law_1436 (by decide) ?_
    refine W.widen (k := cells + 8) (n := slots + 160) (k_3e (Nat.le_of_ble_eq_true rfl)) (k_3e (Nat.le_of_ble_eq_true rfl)) ?_
    exact kk _ _ _ _ _ hs9.2.2 hw (lv_sub hl [2, 3, 4, 5, 6] rfl)
  · refine lv_aload_n hx hb dL_law_1424 rfl (lv_at hl 5 rfl) ?_
    refine lv_iconst (v := 0) hx hb dL_law_1425 (by decide) ?_
    refine g_out hx hb hw dL_law_1426 ?_
    refine lv_iload hx hb dL_law_1427 (lv_at hl 0 rfl) ?_
    refine lv_i2l (v := b1.toInt64) hx hb dL_law_1429 rfl ?_
    refine W.lcmp hx hb dL_law_1430 ?_
    rw [show lg_cmp (u1.1 (0 : Int32).toNatClampNeg) (b1.toInt64) = 0 by rw [(hs9.2.1 c8)]; exact lg_self _]
    refine lv_if_eq (tgt := 1436) hx hb dL_law_1431 (by decide) (fun _ => ?_) (fun h => absurd rfl h)
    refine lv_goto (tgt := 1502) hx hb dL_law_1436 (by decide) ?_
    refine W.widen (k := cells + 8) (n := slots + 160) (k_3e (Nat.le_of_ble_eq_true rfl)) (k_3e (Nat.le_of_ble_eq_true rfl)) ?_
    exact kk _ _ _ _ _ hs9.2.2 hw (lv_sub hl [2, 3, 4, 5, 6] rfl)
abbrev SS_isOut (f : Nat → Int64) (ad : Nat → Nat) (n : Nat) (σ μ : S3) (J : LSt → S3 → Prop) : Prop := ∀ (x0 : Int32), SimI (lP1 f ad n σ xIO (e1 xIO (inI x0 4)) z64 (fun r u => inI x0 4 ∧ u = σ ∧ r = σ 14 x0.toNatClampNeg 0)) (mP1 μ (inI x0 4) (if th0 μ 14 x0.toNatClampNeg 0 = 0 then 0 else 1) (th0 μ)) z64 J
set_option maxHeartbeats 2000000 in
set_option maxRecDepth 100000 in
theorem law_isOut {p : Program} {l : Launch} {e : Env} {s : State} {m : MethodId} {below : List Frame} {meth : Method} {c : Code} {D : va_G} {cy : Nat → ClassId} {o : Nat} {am : Nat → Nat} {b L : Nat} {xs : Nat → Int32} {Q : State → Prop} {cells slots : Nat} (hl9 : l.stackTraces = false) (C0 : lw_At p s m meth c b L xs) (hg : GX s) {f : Nat → Int64} {ad : Nat → Nat} {n : Nat} {σ μ : S3} {H : Heap} {locs : List Loc} (hw : GW D cy s o am (f, ad, n, σ) μ H locs) {i : Nat} (hi : i + 4 ≤ L) (hL : L ≤ 2048) (hc : cells + 8 ≤ 601024) (hs : slots + 160 ≤ 7293034) (J : LSt → S3 → Prop) (h14 : ∀ b, b < 4 → σ 14 b 0 = 0 ∨ σ 14 b 0 = 1) (hsim : SS_isOut f ad n σ μ J) {ls : Array Slot} (hl : lv_has ls 7 [(0, .ref b), (1, .ref (ad 0)), (2, .ref (am 0)), (3, .ref o), (4, .int (nI i))]) (kk : ∀ (u1 : LSt) (μ1 : S3) (H1 : Heap) (locs1 : List Loc) (ls1 : Array Slot), J u1 μ1 → GW D cy s o am u1 μ1 H1 locs1 → lv_has ls1 7 [(0, .ref b), (1, .ref (ad 0)), (2, .ref (am 0)), (3, .ref o), (4, .int (nI i))] → W p l e room_1 s m #[Value.ref b] below meth c H1 locs1 (cells + 8) (slots + 160) Q (F0 m 1502 ls1 [])) : W p l e room_1 s m #[Value.ref b] below meth c H locs cells slots Q (F0 m 1439 ls []) := by
  obtain ⟨hx, hb, hr, hml, hown, hts0, hX, hbl, hlocks, hgv⟩ := C0
  have hts : ∀ w ∈ wsL_law, w.before #[Value.ref b] s = true := fun w h => hts0 w (wsL_law_in w h)
  have S : CallFix p m c cL_law 7 s #[Value.ref b] wsL_law RL := ⟨hx, hb, hml, hown, hts⟩
  have hbA : ¬ lA9 s b := Nat.not_le.mpr hbl
  obtain ⟨y1, ey1⟩ : ∃ y, y = xs (nI (i + 1)).toNatClampNeg := ⟨_, rfl⟩
  refine lv_aload_n hx hb dL_law_1439 rfl (lv_at hl 1 rfl) ?_
  refine lv_aload_n hx hb dL_law_1440 rfl (lv_at hl 0 rfl) ?_
  refine lv_iload hx hb dL_law_1441 (lv_at hl 4 rfl) ?_
  refine lv_iconst (v := 1) hx hb dL_law_1443 (by decide) ?_
  refine lv_iadd hx hb dL_law_1444 ?_
  rw [show nI i + 1 = nI (i + 1) from nI_add i 1]
  refine va_sld hx hb hX hbl hbA hw.2.2.2 (vp_in_nI (by omega) (by omega)) dL_law_1445 ?_
  rw [← ey1]
  refine lv_aload_n hx hb dL_law_1446 rfl (lv_at hl 3 rfl) ?_
  refine gl_T hw (vx_runSX (As := [.ref (ad 0), .int y1, .ref o]) (rest := []) S (c_L_isOut l hl9 D cy o f ad n σ h14 y1 _) (vx_cwSW 3 hts gL_law_L_isOut rfl rfl rfl (by decide +kernel) ⟨Nat.le_of_ble_eq_true rfl, Nat.le_of_ble_eq_true rfl⟩) (gl_preS hw hg _) rfl rfl hl.1 rfl (lv_room (Nat.le_of_ble_eq_true rfl)) dL_law_1447 ⟨k_1l hc (Nat.le_of_ble_eq_true rfl), k_1l hs (Nat.le_of_ble_eq_true rfl)⟩) (fun r1 u1 H locs hp1 hw => ?_)
  refine lv_istore (lv' := [(5, .int r1), (0, .ref b), (1, .ref (ad 0)), (2, .ref (am 0)), (3, .ref o), (4, .int (nI i))]) hx hb dL_law_1450 hl (by decide) rfl (fun ls hl => ?_)
  refine lv_aload_n hx hb dL_law_1452 rfl (lv_at hl 3 rfl) ?_
  refine lv_aload_n hx hb dL_law_1453 rfl (lv_at hl 1 rfl) ?_
  refine lv_iload hx hb dL_law_1454 (lv_at hl 5 rfl) ?_
  refine lv_iconst (v := 1) hx hb dL_law_1456 (by decide) ?_
  refine lv_iadd hx hb dL_law_1457 ?_
  rw [show nI i + 1 = nI (i + 1) from nI_add i 1]
  refine va_sld hx hb hX hbl hbA hw.2.2.2 (vp_in_nI (by omega) (by omega)) dL_law_1458 ?_
  rw [← ey1]
  refine gm_T hw (va_runV (As := [.int y1]) (rest := []) S (c_X4_isOut l D cy am μ y1 _) (cwV 1 hts gL_law_X4_isOut rfl rfl rfl (by decide +kernel) ⟨Nat.le_of_ble_eq_true rfl, Nat.le_of_ble_eq_true rfl⟩) (gm_preV hw _) rfl rfl hl.1 rfl (lv_room (Nat.le_of_ble_eq_true rfl)) dL_law_1459 ⟨k_2l hc (Nat.le_of_ble_eq_true rfl), k_2l hs (Nat.le_of_ble_eq_true rfl)⟩) (fun v μ1 H locs hp2 hw => ?_)
  obtain ⟨b1, rfl, hp2⟩ := hp2
  refine W.eq (g2 := F0 m 1462 ls [.int b1]) rfl ?_
  have hs9 := hsim y1 r1 u1 b1 μ1 hp1 hp2
  refine lv_istore (lv' := [(6, .int b1), (5, .int r1), (0, .ref b), (1, .ref (ad 0)), (2, .ref (am 0)), (3, .ref o), (4, .int (nI i))]) hx hb dL_law_1462 hl (by decide) rfl (fun ls hl => ?_)
  refine lv_aload_n hx hb dL_law_1464 rfl (lv_at hl 4 rfl) ?_
  refine gm_T hw (va_runV (As := []) (rest := []) S (c_X4_thrown l D cy am μ1 _) (cwV 0 hts gL_law_X4_thrown rfl rfl rfl (by decide +kernel) ⟨Nat.le_of_ble_eq_true rfl, Nat.le_of_ble_eq_true rfl⟩) (gm_preV hw _) rfl rfl hl.1 rfl (lv_room (Nat.le_of_ble_eq_true rfl)) dL_law_1465 ⟨k_3l hc (Nat.le_of_ble_eq_true rfl), k_3l hs (Nat.le_of_ble_eq_true rfl)⟩) (fun v9 μ9 H locs hp3 hw => ?_)
  obtain ⟨r2, rfl, hu9, hr2⟩ := hp3
  rw [hu9] at hw
  refine W.eq (g2 := F0 m 1468 ls [.int r2]) rfl ?_
  refine lv_iload hx hb dL_law_1468 (lv_at hl 1 rfl) ?_
  refine lv_icmp_eq (tgt := 1475) hx hb dL_law_1470 (by decide) (fun _ => ?_) (fun c9 => absurd (hr2.trans hs9.1) c9)
  refine lv_iload hx hb dL_law_1475 (lv_at hl 1 rfl) ?_
  refine lv_if_ne (tgt := 1499) hx hb dL_law_1477 (by decide) (fun c8 => ?_) (fun c8 => ?_)
  · refine lv_goto (tgt := 1502) hx hb dL_law_1499 (by decide) ?_
    refine W.widen (k := cells + 8) (n := slots + 160) (k_3e (Nat.le_of_ble_eq_true rfl)) (k_3e (Nat.le_of_ble_eq_true rfl)) ?_
    exact kk _ _ _ _ _ hs9.2.2 hw (lv_sub hl [2, 3, 4, 5, 6] rfl)
  · refine lv_aload_n hx hb dL_law_1480 rfl (lv_at hl 5 rfl) ?_
    refine lv_iconst (v := 0) hx hb dL_law_1481 (by decide) ?_
    refine g_out hx hb hw dL_law_1482 ?_
    refine lv_iload hx hb dL_law_1483 (lv_at hl 0 rfl) ?_
    refine lv_if_eq (tgt := 1492) hx hb dL_law_1485 (by decide) (fun c7 => ?_) (fun c7 => ?_)
    · refine lv_lconst (v := 0) hx hb dL_law_1492 (by decide) ?_
      refine W.lcmp hx hb dL_law_1493 ?_
      rw [show lg_cmp (u1.1 (0 : Int32).toNatClampNeg) (0) = 0 by rw [(hs9.2.1 c8).trans (if_pos c7)]; exact lg_self _]
      refine lv_if_eq (tgt := 1499) hx hb dL_law_1494 (by decide) (fun _ => ?_) (fun h => absurd rfl h)
      refine lv_goto (tgt := 1502) hx hb dL_law_1499 (by decide) ?_
      refine W.widen (k := cells + 8) (n := slots + 160) (k_3e (Nat.le_of_ble_eq_true rfl)) (k_3e (Nat.le_of_ble_eq_true rfl)) ?_
      exact kk _ _ _ _ _ hs9.2.2 hw (lv_sub hl [2, 3, 4, 5, 6] rfl)
    · refine lv_lconst (v := 1) hx hb dL_law_1488 (by decide) ?_
      refine lv_goto (tgt := 1493) hx hb dL_law_1489 (by decide) ?_
      refine W.lcmp hx hb dL_law_1493 ?_
      rw [show lg_cmp (u1.1 (0 : Int32).toNatClampNeg) (1) = 0 by rw [(hs9.2.1 c8).trans (if_neg c7)]; exact lg_self _]
      refine lv_if_eq (tgt := 1499) hx hb dL_law_1494 (by decide) (fun _ => ?_) (fun h => absurd rfl h)
      refine lv_goto (tgt := 1502) hx hb dL_law_1499 (by decide) ?_
      refine W.widen (k := cells + 8) (n := slots + 160) (k_3e (Nat.le_of_ble_eq_true rfl)) (k_3e (Nat.le_of_ble_eq_true rfl)) ?_
      exact kk _ _ _ _ _ hs9.2.2 hw (lv_sub hl [2, 3, 4, 5, 6] rfl)
