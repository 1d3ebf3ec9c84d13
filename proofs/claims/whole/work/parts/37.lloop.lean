/-! ===== the law's loop ===== -/
theorem hd_lt {L i : Nat} (hL : L ≤ 2048) (hi : i ≤ 2048) : (nI L - 4 < nI i) ↔ L < i + 4 := by
  rw [Int32.lt_iff_toInt_lt, show (4 : Int32) = nI 4 from rfl, pk_sub_toInt (by omega) (by omega), nI_toInt (by omega)]
  omega
set_option maxHeartbeats 2000000 in
set_option maxRecDepth 100000 in
theorem law_loop {p : Program} {l : Launch} {e : Env} {s : State} {m : MethodId} {below : List Frame} {meth : Method} {c : Code} {D : va_G} {cy : Nat → ClassId} {o : Nat} {am : Nat → Nat} {b L : Nat} {xs : Nat → Int32} {C S9 : Nat} (hl9 : l.stackTraces = false) (hL : L ≤ 2048) (C0 : lw_At p s m meth c b L xs) (hg : GX s) (hC : C + 8 * 512 ≤ 601024) (hS9 : S9 + 160 * 512 ≤ 7293034) :
    ∀ (N k : Nat), k ≤ 512 → 513 ≤ k + N → ∀ (u : LSt) (μ : S3) (H : Heap) (locs : List Loc) (ls : Array Slot) (a0 : Nat), JJ k a0 u μ → GW D cy s o am u μ H locs → lv_has ls 7 [(0, .ref b), (1, .ref a0), (2, .ref (am 0)), (3, .ref o), (4, .int (nI (4 * k)))] → W p l e room_1 s m #[Value.ref b] below meth c H locs (C + 8 * k) (S9 + 160 * k) (lw_Z below #[Value.ref b] s) (F0 m 23 ls []) := by
  intro N
  induction N with
  | zero => intro k h1 h2; omega
  | succ N ih =>
    intro k h1 h2 u μ H locs ls a0 hJ hw hl
    obtain ⟨f, ad, n, σ⟩ := u
    obtain ⟨hI, rfl⟩ := hJ
    have hI : Inv k n σ μ := hI
    obtain ⟨hx, hb, hr, hml, hown, hts0, hX, hbl, hlocks, hgv⟩ := id C0
    have hbA : ¬ lA9 s b := Nat.not_le.mpr hbl
    have hb : c.code = cL_law := hb
    refine lv_iload hx hb dL_law_23 (lv_at hl 4 rfl) ?_
    refine lv_aload_n hx hb dL_law_25 rfl (lv_at hl 0 rfl) ?_
    refine va_slen hx hb hX hbl hbA hw.2.2.2 dL_law_26 ?_
    refine lv_iconst (v := 4) hx hb dL_law_27 (by decide) ?_
    refine lv_isub hx hb dL_law_28 ?_
    refine lv_icmp_gt (tgt := 1508) hx hb dL_law_29 (by decide) (fun c1 => ?_) (fun c1 => ?_)
    · refine lv_iconst (v := 1) hx hb dL_law_1508 (by decide) ?_
      refine va_forget (fun q hq => hw.2.2.2.2.2 q hq) ?_
      refine W.widen (k := 601024) (n := 7293034) (by omega) (by omega) ?_
      exact lw_ret hx hb hr hlocks dL_law_1509
    · have c2 : ¬ (nI L - 4 < nI (4 * k)) := c1
      rw [hd_lt hL (by omega)] at c2
      have hk : k < 512 := by omega
      have KK : ∀ (u1 : LSt) (μ1 : S3) (H1 : Heap) (locs1 : List Loc) (ls1 : Array Slot), JJ (k + 1) (ad 0) u1 μ1 → GW D cy s o am u1 μ1 H1 locs1 → lv_has ls1 7 [(0, .ref b), (1, .ref (ad 0)), (2, .ref (am 0)), (3, .ref o), (4, .int (nI (4 * k)))] → W p l e room_1 s m #[Value.ref b] below meth c H1 locs1 (C + 8 * k + 8) (S9 + 160 * k + 160) (lw_Z below #[Value.ref b] s) (F0 m 1502 ls1 []) := by
        intro u1 μ1 H1 locs1 ls1 hJ1 hw1 hl1
        refine lv_iinc (v := nI (4 * (k + 1))) (lv' := [(4, .int (nI (4 * (k + 1)))), (0, .ref b), (1, .ref (ad 0)), (2, .ref (am 0)), (3, .ref o)]) hx hb dL_law_1502 hl1 (k := 4) rfl (nI_add (4 * k) 4) (by decide) rfl (fun ls hl => ?_)
        refine lv_goto (tgt := 23) hx hb dL_law_1505 (by decide) ?_
        refine W.widen (k := C + 8 * (k + 1)) (n := S9 + 160 * (k + 1)) (by omega) (by omega) ?_
        exact ih (k + 1) (by omega) (by omega) u1 μ1 H1 locs1 ls (ad 0) hJ1 hw1 (lv_sub hl [1, 2, 3, 4, 0] rfl)
      refine lv_aload_n hx hb dL_law_32 rfl (lv_at hl 0 rfl) ?_
      refine lv_iload hx hb dL_law_33 (lv_at hl 4 rfl) ?_
      refine va_sld hx hb hX hbl hbA hw.2.2.2 (vp_in_nI (by omega) (by omega)) dL_law_35 ?_
      refine lv_bipush (v := 31) hx hb dL_law_36 (by decide) ?_
      refine lv_iand hx hb dL_law_38 ?_
      obtain ⟨j, hj, ej⟩ := pk_andE (xs (nI (4 * k)).toNatClampNeg) (m := 31) 5 (by decide)
      rw [ej]
      rcases (show j = 0 ∨ j = 1 ∨ j = 2 ∨ j = 3 ∨ j = 4 ∨ j = 5 ∨ j = 6 ∨ j = 7 ∨ j = 8 ∨ j = 9 ∨ j = 10 ∨ j = 11 ∨ j = 12 ∨ j = 13 ∨ j = 14 ∨ j = 15 ∨ j = 16 ∨ j = 17 ∨ j = 18 ∨ j = 19 ∨ j = 20 ∨ j = 21 ∨ j = 22 ∨ 23 ≤ j by omega) with rfl | rfl | rfl | rfl | rfl | rfl | rfl | rfl | rfl | rfl | rfl | rfl | rfl | rfl | rfl | rfl | rfl | rfl | rfl | rfl | rfl | rfl | rfl | h23
      · refine lv_tableIn (off := 105) (tgt := 144) hx hb dL_law_39 (by decide) (by decide) rfl (by decide) ?_
        exact law_setDues hl9 C0 hg hw (i := 4 * k) (by omega) hL (by omega) (by omega) (JJ (k + 1) (ad 0))  (sim_setDues hk hI) hl KK
      · refine lv_tableIn (off := 173) (tgt := 212) hx hb dL_law_39 (by decide) (by decide) rfl (by decide) ?_
        exact law_setStrikePay hl9 C0 hg hw (i := 4 * k) (by omega) hL (by omega) (by omega) (JJ (k + 1) (ad 0))  (sim_setStrikePay hk hI) hl KK
      · refine lv_tableIn (off := 229) (tgt := 268) hx hb dL_law_39 (by decide) (by decide) rfl (by decide) ?_
        exact law_join hl9 C0 hg hw (i := 4 * k) (by omega) hL (by omega) (by omega) (JJ (k + 1) (ad 0)) hI.n16 (hI.fr _ (Nat.le_refl _)) (sim_join hk hI) hl KK
      · refine lv_tableIn (off := 297) (tgt := 336) hx hb dL_law_39 (by decide) (by decide) rfl (by decide) ?_
        exact law_move hl9 C0 hg hw (i := 4 * k) (by omega) hL (by omega) (by omega) (JJ (k + 1) (ad 0)) hI.n16 (sim_move hk hI) hl KK
      · refine lv_tableIn (off := 357) (tgt := 396) hx hb dL_law_39 (by decide) (by decide) rfl (by decide) ?_
        exact law_leave hl9 C0 hg hw (i := 4 * k) (by omega) hL (by omega) (by omega) (JJ (k + 1) (ad 0)) hI.n16 (fun i _ => hI.z4 i) (fun i _ => hI.z4m i) (sim_leave hk hI) hl KK
      · refine lv_tableIn (off := 448) (tgt := 487) hx hb dL_law_39 (by decide) (by decide) rfl (by decide) ?_
        exact law_quit hl9 C0 hg hw (i := 4 * k) (by omega) hL (by omega) (by omega) (JJ (k + 1) (ad 0)) hI.n16 (sim_quit hk hI) hl KK
      · refine lv_tableIn (off := 504) (tgt := 543) hx hb dL_law_39 (by decide) (by decide) rfl (by decide) ?_
        exact law_pay hl9 C0 hg hw (i := 4 * k) (by omega) hL (by omega) (by omega) (JJ (k + 1) (ad 0)) hI.n16 (sim_pay hk hI) hl KK
      · refine lv_tableIn (off := 572) (tgt := 611) hx hb dL_law_39 (by decide) (by decide) rfl (by decide) ?_
        exact law_open hl9 C0 hg hw (i := 4 * k) (by omega) hL (by omega) (by omega) (JJ (k + 1) (ad 0))  (sim_open hk hI) hl KK
      · refine lv_tableIn (off := 628) (tgt := 667) hx hb dL_law_39 (by decide) (by decide) rfl (by decide) ?_
        exact law_vote hl9 C0 hg hw (i := 4 * k) (by omega) hL (by omega) (by omega) (JJ (k + 1) (ad 0)) hI.n16 (sim_vote hk hI) hl KK
      · refine lv_tableIn (off := 712) (tgt := 751) hx hb dL_law_39 (by decide) (by decide) rfl (by decide) ?_
        exact law_close hl9 C0 hg hw (i := 4 * k) (by omega) hL (by omega) (by omega) (JJ (k + 1) (ad 0))  (sim_close hk hI) hl KK
      · refine lv_tableIn (off := 775) (tgt := 814) hx hb dL_law_39 (by decide) (by decide) rfl (by decide) ?_
        exact law_strike hl9 C0 hg hw (i := 4 * k) (by omega) hL (by omega) (by omega) (JJ (k + 1) (ad 0))  (sim_strike hk hI) hl KK
      · refine lv_tableIn (off := 839) (tgt := 878) hx hb dL_law_39 (by decide) (by decide) rfl (by decide) ?_
        exact law_advance hl9 C0 hg hw (i := 4 * k) (by omega) hL (by omega) (by omega) (JJ (k + 1) (ad 0))  (sim_advance hk hI) hl KK
      · refine lv_tableIn (off := 895) (tgt := 934) hx hb dL_law_39 (by decide) (by decide) rfl (by decide) ?_
        exact law_fold hl9 C0 hg hw (i := 4 * k) (by omega) hL (by omega) (by omega) (JJ (k + 1) (ad 0))  (sim_fold hk hI) hl KK
      · refine lv_tableIn (off := 951) (tgt := 990) hx hb dL_law_39 (by decide) (by decide) rfl (by decide) ?_
        exact law_day hl9 C0 hg hw (i := 4 * k) (by omega) hL (by omega) (by omega) (JJ (k + 1) (ad 0))  (sim_day hk hI) hl KK
      · refine lv_tableIn (off := 964) (tgt := 1003) hx hb dL_law_39 (by decide) (by decide) rfl (by decide) ?_
        exact law_fund hl9 C0 hg hw (i := 4 * k) (by omega) hL (by omega) (by omega) (JJ (k + 1) (ad 0))  (sim_fund hk hI) hl KK
      · refine lv_tableIn (off := 977) (tgt := 1016) hx hb dL_law_39 (by decide) (by decide) rfl (by decide) ?_
        exact law_owed hl9 C0 hg hw (i := 4 * k) (by omega) hL (by omega) (by omega) (JJ (k + 1) (ad 0)) hI.n16 (sim_owed hk hI) hl KK
      · refine lv_tableIn (off := 1033) (tgt := 1072) hx hb dL_law_39 (by decide) (by decide) rfl (by decide) ?_
        exact law_credit hl9 C0 hg hw (i := 4 * k) (by omega) hL (by omega) (by omega) (JJ (k + 1) (ad 0)) hI.n16 (sim_credit hk hI) hl KK
      · refine lv_tableIn (off := 1089) (tgt := 1128) hx hb dL_law_39 (by decide) (by decide) rfl (by decide) ?_
        exact law_laid hl9 C0 hg hw (i := 4 * k) (by omega) hL (by omega) (by omega) (JJ (k + 1) (ad 0)) hI.n16 (sim_laid hk hI) hl KK
      · refine lv_tableIn (off := 1157) (tgt := 1196) hx hb dL_law_39 (by decide) (by decide) rfl (by decide) ?_
        exact law_laidFor hl9 C0 hg hw (i := 4 * k) (by omega) hL (by omega) (by omega) (JJ (k + 1) (ad 0))  (sim_laidFor hk hI) hl KK
      · refine lv_tableIn (off := 1225) (tgt := 1264) hx hb dL_law_39 (by decide) (by decide) rfl (by decide) ?_
        exact law_hasStanding hl9 C0 hg hw (i := 4 * k) (by omega) hL (by omega) (by omega) (JJ (k + 1) (ad 0)) hI.n16 (sim_hasStanding hk hI) hl KK
      · refine lv_tableIn (off := 1288) (tgt := 1327) hx hb dL_law_39 (by decide) (by decide) rfl (by decide) ?_
        exact law_strikePay hl9 C0 hg hw (i := 4 * k) (by omega) hL (by omega) (by omega) (JJ (k + 1) (ad 0)) hI.n16 (sim_strikePay hk hI) hl KK
      · refine lv_tableIn (off := 1344) (tgt := 1383) hx hb dL_law_39 (by decide) (by decide) rfl (by decide) ?_
        exact law_delegates hl9 C0 hg hw (i := 4 * k) (by omega) hL (by omega) (by omega) (JJ (k + 1) (ad 0))  (sim_delegates hk hI) hl KK
      · refine lv_tableIn (off := 1400) (tgt := 1439) hx hb dL_law_39 (by decide) (by decide) rfl (by decide) ?_
        exact law_isOut hl9 C0 hg hw (i := 4 * k) (by omega) hL (by omega) (by omega) (JJ (k + 1) (ad 0)) (fun b _ => hI.z14 b) (sim_isOut hk hI) hl KK
      · refine lv_tableOut (tgt := 1502) hx hb dL_law_39 (Or.inr ?_) (by decide) ?_
        · rw [nI_toInt (by omega)]
          omega
        · refine W.widen (k := C + 8 * k + 8) (n := S9 + 160 * k + 160) (by omega) (by omega) ?_
          exact KK (f, ad, n, σ) μ H locs ls ⟨sim_none hI, rfl⟩ hw hl
