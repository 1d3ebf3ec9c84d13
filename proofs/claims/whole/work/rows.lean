section
-- ===== PART A: goes FIRST, ahead of the names: the tables' words, and 'selects' of the private methods out of them =====
/-- a private method of a class that the tables say can be made, by its rows of tables_1 -/
def lw_okq (q : MethodName × Nat) : Prop := (q.1.cls ≠ "java/lang/invoke/MethodHandle" ∧ q.1.cls ≠ "java/lang/invoke/VarHandle") ∧ Cond.instantiable q.1.cls q.2 ∈ tables_1 ∧ Cond.privateMethod q.1 ∈ tables_1 ∧ Cond.instanceMethod q.1 ∈ tables_1
theorem lw_p0 : lw_okq (⟨"UnionOffice", "bandAt", "(I)LUnionOffice$Band;"⟩, 8) := ⟨⟨by decide +kernel, by decide +kernel⟩, List.mem_of_getElem? (i := 15) (by decide +kernel), List.mem_of_getElem? (i := 116) (by decide +kernel), List.mem_of_getElem? (i := 117) (by decide +kernel)⟩
theorem lw_p1 : lw_okq (⟨"java/lang/Throwable", "fillInStackTrace", "(I)Ljava/lang/Throwable;"⟩, 6) := ⟨⟨by decide +kernel, by decide +kernel⟩, List.mem_of_getElem? (i := 158) (by decide +kernel), List.mem_of_getElem? (i := 156) (by decide +kernel), List.mem_of_getElem? (i := 157) (by decide +kernel)⟩
theorem lw_p2 : lw_okq (⟨"UnionOffice", "checkRange", "(III)V"⟩, 8) := ⟨⟨by decide +kernel, by decide +kernel⟩, List.mem_of_getElem? (i := 15) (by decide +kernel), List.mem_of_getElem? (i := 189) (by decide +kernel), List.mem_of_getElem? (i := 190) (by decide +kernel)⟩
theorem lw_p3 : lw_okq (⟨"UnionOffice", "branchAt", "(I)LUnionOffice$Branch;"⟩, 8) := ⟨⟨by decide +kernel, by decide +kernel⟩, List.mem_of_getElem? (i := 15) (by decide +kernel), List.mem_of_getElem? (i := 224) (by decide +kernel), List.mem_of_getElem? (i := 225) (by decide +kernel)⟩
theorem lw_p4 : lw_okq (⟨"UnionOffice", "memberAt", "(I)LUnionOffice$Member;"⟩, 8) := ⟨⟨by decide +kernel, by decide +kernel⟩, List.mem_of_getElem? (i := 15) (by decide +kernel), List.mem_of_getElem? (i := 295) (by decide +kernel), List.mem_of_getElem? (i := 296) (by decide +kernel)⟩
theorem lw_p5 : lw_okq (⟨"UnionOffice", "checkNotLeft", "(LUnionOffice$Member;)V"⟩, 8) := ⟨⟨by decide +kernel, by decide +kernel⟩, List.mem_of_getElem? (i := 15) (by decide +kernel), List.mem_of_getElem? (i := 300) (by decide +kernel), List.mem_of_getElem? (i := 301) (by decide +kernel)⟩
theorem lw_p6 : lw_okq (⟨"UnionOffice$Member", "sumOwed", "()I"⟩, 10) := ⟨⟨by decide +kernel, by decide +kernel⟩, List.mem_of_getElem? (i := 244) (by decide +kernel), List.mem_of_getElem? (i := 319) (by decide +kernel), List.mem_of_getElem? (i := 320) (by decide +kernel)⟩
theorem lw_p7 : lw_okq (⟨"UnionOffice$Member", "takeIn", "(I)I"⟩, 10) := ⟨⟨by decide +kernel, by decide +kernel⟩, List.mem_of_getElem? (i := 244) (by decide +kernel), List.mem_of_getElem? (i := 331) (by decide +kernel), List.mem_of_getElem? (i := 332) (by decide +kernel)⟩
theorem lw_p8 : lw_okq (⟨"UnionOffice$Member", "layLeftOver", "()I"⟩, 10) := ⟨⟨by decide +kernel, by decide +kernel⟩, List.mem_of_getElem? (i := 244) (by decide +kernel), List.mem_of_getElem? (i := 335) (by decide +kernel), List.mem_of_getElem? (i := 336) (by decide +kernel)⟩
theorem lw_p9 : lw_okq (⟨"UnionOffice$Member", "skipSettled", "()V"⟩, 10) := ⟨⟨by decide +kernel, by decide +kernel⟩, List.mem_of_getElem? (i := 244) (by decide +kernel), List.mem_of_getElem? (i := 342) (by decide +kernel), List.mem_of_getElem? (i := 343) (by decide +kernel)⟩
theorem lw_p10 : lw_okq (⟨"UnionOffice$Branch", "beginBallot", "()V"⟩, 7) := ⟨⟨by decide +kernel, by decide +kernel⟩, List.mem_of_getElem? (i := 37) (by decide +kernel), List.mem_of_getElem? (i := 354) (by decide +kernel), List.mem_of_getElem? (i := 355) (by decide +kernel)⟩
theorem lw_p11 : lw_okq (⟨"UnionOffice", "countStanding", "(LUnionOffice$Branch;)I"⟩, 8) := ⟨⟨by decide +kernel, by decide +kernel⟩, List.mem_of_getElem? (i := 15) (by decide +kernel), List.mem_of_getElem? (i := 358) (by decide +kernel), List.mem_of_getElem? (i := 359) (by decide +kernel)⟩
theorem lw_p12 : lw_okq (⟨"UnionOffice$Member", "standsOn", "(I)Z"⟩, 10) := ⟨⟨by decide +kernel, by decide +kernel⟩, List.mem_of_getElem? (i := 244) (by decide +kernel), List.mem_of_getElem? (i := 362) (by decide +kernel), List.mem_of_getElem? (i := 363) (by decide +kernel)⟩
theorem lw_p13 : lw_okq (⟨"UnionOffice$Branch", "hasVoteOf", "(LUnionOffice$Member;)Z"⟩, 7) := ⟨⟨by decide +kernel, by decide +kernel⟩, List.mem_of_getElem? (i := 37) (by decide +kernel), List.mem_of_getElem? (i := 373) (by decide +kernel), List.mem_of_getElem? (i := 374) (by decide +kernel)⟩
theorem lw_p14 : lw_okq (⟨"UnionOffice$Member", "bit", "()I"⟩, 10) := ⟨⟨by decide +kernel, by decide +kernel⟩, List.mem_of_getElem? (i := 244) (by decide +kernel), List.mem_of_getElem? (i := 377) (by decide +kernel), List.mem_of_getElem? (i := 378) (by decide +kernel)⟩
theorem lw_p15 : lw_okq (⟨"UnionOffice$Branch", "takeVote", "(LUnionOffice$Member;Z)V"⟩, 7) := ⟨⟨by decide +kernel, by decide +kernel⟩, List.mem_of_getElem? (i := 37) (by decide +kernel), List.mem_of_getElem? (i := 382) (by decide +kernel), List.mem_of_getElem? (i := 383) (by decide +kernel)⟩
def lw_privs_1 : List (MethodName × Nat) := [(⟨"UnionOffice", "bandAt", "(I)LUnionOffice$Band;"⟩, 8), (⟨"java/lang/Throwable", "fillInStackTrace", "(I)Ljava/lang/Throwable;"⟩, 6), (⟨"UnionOffice", "checkRange", "(III)V"⟩, 8), (⟨"UnionOffice", "branchAt", "(I)LUnionOffice$Branch;"⟩, 8), (⟨"UnionOffice", "memberAt", "(I)LUnionOffice$Member;"⟩, 8), (⟨"UnionOffice", "checkNotLeft", "(LUnionOffice$Member;)V"⟩, 8), (⟨"UnionOffice$Member", "sumOwed", "()I"⟩, 10), (⟨"UnionOffice$Member", "takeIn", "(I)I"⟩, 10), (⟨"UnionOffice$Member", "layLeftOver", "()I"⟩, 10), (⟨"UnionOffice$Member", "skipSettled", "()V"⟩, 10), (⟨"UnionOffice$Branch", "beginBallot", "()V"⟩, 7), (⟨"UnionOffice", "countStanding", "(LUnionOffice$Branch;)I"⟩, 8), (⟨"UnionOffice$Member", "standsOn", "(I)Z"⟩, 10), (⟨"UnionOffice$Branch", "hasVoteOf", "(LUnionOffice$Member;)Z"⟩, 7), (⟨"UnionOffice$Member", "bit", "()I"⟩, 10), (⟨"UnionOffice$Branch", "takeVote", "(LUnionOffice$Member;Z)V"⟩, 7)]
theorem lw_r1 : ∀ q ∈ lw_privs_1, lw_okq q := List.forall_mem_cons.mpr ⟨lw_p0, List.forall_mem_cons.mpr ⟨lw_p1, List.forall_mem_cons.mpr ⟨lw_p2, List.forall_mem_cons.mpr ⟨lw_p3, List.forall_mem_cons.mpr ⟨lw_p4, List.forall_mem_cons.mpr ⟨lw_p5, List.forall_mem_cons.mpr ⟨lw_p6, List.forall_mem_cons.mpr ⟨lw_p7, List.forall_mem_cons.mpr ⟨lw_p8, List.forall_mem_cons.mpr ⟨lw_p9, List.forall_mem_cons.mpr ⟨lw_p10, List.forall_mem_cons.mpr ⟨lw_p11, List.forall_mem_cons.mpr ⟨lw_p12, List.forall_mem_cons.mpr ⟨lw_p13, List.forall_mem_cons.mpr ⟨lw_p14, List.forall_mem_cons.mpr ⟨lw_p15, fun _ h => absurd h List.not_mem_nil⟩⟩⟩⟩⟩⟩⟩⟩⟩⟩⟩⟩⟩⟩⟩⟩
theorem lw_p16 : lw_okq (⟨"UnionOffice$Branch", "countVotes", "()I"⟩, 7) := ⟨⟨by decide +kernel, by decide +kernel⟩, List.mem_of_getElem? (i := 37) (by decide +kernel), List.mem_of_getElem? (i := 386) (by decide +kernel), List.mem_of_getElem? (i := 387) (by decide +kernel)⟩
theorem lw_p17 : lw_okq (⟨"UnionOffice$Branch", "endBallot", "(I)V"⟩, 7) := ⟨⟨by decide +kernel, by decide +kernel⟩, List.mem_of_getElem? (i := 37) (by decide +kernel), List.mem_of_getElem? (i := 404) (by decide +kernel), List.mem_of_getElem? (i := 405) (by decide +kernel)⟩
theorem lw_p18 : lw_okq (⟨"UnionOffice$Branch", "canBeCalledOut", "()Z"⟩, 7) := ⟨⟨by decide +kernel, by decide +kernel⟩, List.mem_of_getElem? (i := 37) (by decide +kernel), List.mem_of_getElem? (i := 416) (by decide +kernel), List.mem_of_getElem? (i := 417) (by decide +kernel)⟩
theorem lw_p19 : lw_okq (⟨"UnionOffice", "endDay", "()V"⟩, 8) := ⟨⟨by decide +kernel, by decide +kernel⟩, List.mem_of_getElem? (i := 15) (by decide +kernel), List.mem_of_getElem? (i := 429) (by decide +kernel), List.mem_of_getElem? (i := 430) (by decide +kernel)⟩
theorem lw_p20 : lw_okq (⟨"UnionOffice", "payStrikers", "()V"⟩, 8) := ⟨⟨by decide +kernel, by decide +kernel⟩, List.mem_of_getElem? (i := 15) (by decide +kernel), List.mem_of_getElem? (i := 433) (by decide +kernel), List.mem_of_getElem? (i := 434) (by decide +kernel)⟩
theorem lw_p21 : lw_okq (⟨"UnionOffice", "chargeDues", "(I)V"⟩, 8) := ⟨⟨by decide +kernel, by decide +kernel⟩, List.mem_of_getElem? (i := 15) (by decide +kernel), List.mem_of_getElem? (i := 437) (by decide +kernel), List.mem_of_getElem? (i := 438) (by decide +kernel)⟩
theorem lw_p22 : lw_okq (⟨"UnionOffice$Member", "charge", "(I)I"⟩, 10) := ⟨⟨by decide +kernel, by decide +kernel⟩, List.mem_of_getElem? (i := 244) (by decide +kernel), List.mem_of_getElem? (i := 441) (by decide +kernel), List.mem_of_getElem? (i := 442) (by decide +kernel)⟩
theorem lw_p23 : lw_okq (⟨"UnionOffice", "countDelegates", "()V"⟩, 8) := ⟨⟨by decide +kernel, by decide +kernel⟩, List.mem_of_getElem? (i := 15) (by decide +kernel), List.mem_of_getElem? (i := 445) (by decide +kernel), List.mem_of_getElem? (i := 446) (by decide +kernel)⟩
theorem lw_p24 : lw_okq (⟨"UnionOffice", "hasEnded", "(I)Z"⟩, 8) := ⟨⟨by decide +kernel, by decide +kernel⟩, List.mem_of_getElem? (i := 15) (by decide +kernel), List.mem_of_getElem? (i := 456) (by decide +kernel), List.mem_of_getElem? (i := 457) (by decide +kernel)⟩
theorem lw_p25 : lw_okq (⟨"UnionOffice", "sumLaidOn", "(I)I"⟩, 8) := ⟨⟨by decide +kernel, by decide +kernel⟩, List.mem_of_getElem? (i := 15) (by decide +kernel), List.mem_of_getElem? (i := 461) (by decide +kernel), List.mem_of_getElem? (i := 462) (by decide +kernel)⟩
theorem lw_p26 : lw_okq (⟨"UnionOffice", "checkEnded", "(I)V"⟩, 8) := ⟨⟨by decide +kernel, by decide +kernel⟩, List.mem_of_getElem? (i := 15) (by decide +kernel), List.mem_of_getElem? (i := 486) (by decide +kernel), List.mem_of_getElem? (i := 487) (by decide +kernel)⟩
theorem lw_p27 : lw_okq (⟨"UnionOfficeModel", "isMember", "(I)Z"⟩, 23) := ⟨⟨by decide +kernel, by decide +kernel⟩, List.mem_of_getElem? (i := 527) (by decide +kernel), List.mem_of_getElem? (i := 634) (by decide +kernel), List.mem_of_getElem? (i := 635) (by decide +kernel)⟩
theorem lw_p28 : lw_okq (⟨"UnionOfficeModel", "owedBy", "(I)I"⟩, 23) := ⟨⟨by decide +kernel, by decide +kernel⟩, List.mem_of_getElem? (i := 527) (by decide +kernel), List.mem_of_getElem? (i := 646) (by decide +kernel), List.mem_of_getElem? (i := 647) (by decide +kernel)⟩
theorem lw_p29 : lw_okq (⟨"UnionOfficeModel", "lay", "(I)V"⟩, 23) := ⟨⟨by decide +kernel, by decide +kernel⟩, List.mem_of_getElem? (i := 527) (by decide +kernel), List.mem_of_getElem? (i := 655) (by decide +kernel), List.mem_of_getElem? (i := 656) (by decide +kernel)⟩
theorem lw_p30 : lw_okq (⟨"UnionOfficeModel", "standing", "(I)I"⟩, 23) := ⟨⟨by decide +kernel, by decide +kernel⟩, List.mem_of_getElem? (i := 527) (by decide +kernel), List.mem_of_getElem? (i := 663) (by decide +kernel), List.mem_of_getElem? (i := 664) (by decide +kernel)⟩
theorem lw_p31 : lw_okq (⟨"UnionOfficeModel", "stands", "(I)Z"⟩, 23) := ⟨⟨by decide +kernel, by decide +kernel⟩, List.mem_of_getElem? (i := 527) (by decide +kernel), List.mem_of_getElem? (i := 667) (by decide +kernel), List.mem_of_getElem? (i := 668) (by decide +kernel)⟩
def lw_privs_2 : List (MethodName × Nat) := [(⟨"UnionOffice$Branch", "countVotes", "()I"⟩, 7), (⟨"UnionOffice$Branch", "endBallot", "(I)V"⟩, 7), (⟨"UnionOffice$Branch", "canBeCalledOut", "()Z"⟩, 7), (⟨"UnionOffice", "endDay", "()V"⟩, 8), (⟨"UnionOffice", "payStrikers", "()V"⟩, 8), (⟨"UnionOffice", "chargeDues", "(I)V"⟩, 8), (⟨"UnionOffice$Member", "charge", "(I)I"⟩, 10), (⟨"UnionOffice", "countDelegates", "()V"⟩, 8), (⟨"UnionOffice", "hasEnded", "(I)Z"⟩, 8), (⟨"UnionOffice", "sumLaidOn", "(I)I"⟩, 8), (⟨"UnionOffice", "checkEnded", "(I)V"⟩, 8), (⟨"UnionOfficeModel", "isMember", "(I)Z"⟩, 23), (⟨"UnionOfficeModel", "owedBy", "(I)I"⟩, 23), (⟨"UnionOfficeModel", "lay", "(I)V"⟩, 23), (⟨"UnionOfficeModel", "standing", "(I)I"⟩, 23), (⟨"UnionOfficeModel", "stands", "(I)Z"⟩, 23)]
theorem lw_r2 : ∀ q ∈ lw_privs_2, lw_okq q := List.forall_mem_cons.mpr ⟨lw_p16, List.forall_mem_cons.mpr ⟨lw_p17, List.forall_mem_cons.mpr ⟨lw_p18, List.forall_mem_cons.mpr ⟨lw_p19, List.forall_mem_cons.mpr ⟨lw_p20, List.forall_mem_cons.mpr ⟨lw_p21, List.forall_mem_cons.mpr ⟨lw_p22, List.forall_mem_cons.mpr ⟨lw_p23, List.forall_mem_cons.mpr ⟨lw_p24, List.forall_mem_cons.mpr ⟨lw_p25, List.forall_mem_cons.mpr ⟨lw_p26, List.forall_mem_cons.mpr ⟨lw_p27, List.forall_mem_cons.mpr ⟨lw_p28, List.forall_mem_cons.mpr ⟨lw_p29, List.forall_mem_cons.mpr ⟨lw_p30, List.forall_mem_cons.mpr ⟨lw_p31, fun _ h => absurd h List.not_mem_nil⟩⟩⟩⟩⟩⟩⟩⟩⟩⟩⟩⟩⟩⟩⟩⟩
theorem lw_p32 : lw_okq (⟨"UnionOfficeModel", "payStrikes", "()V"⟩, 23) := ⟨⟨by decide +kernel, by decide +kernel⟩, List.mem_of_getElem? (i := 527) (by decide +kernel), List.mem_of_getElem? (i := 687) (by decide +kernel), List.mem_of_getElem? (i := 688) (by decide +kernel)⟩
theorem lw_p33 : lw_okq (⟨"UnionOfficeModel", "takeDues", "()V"⟩, 23) := ⟨⟨by decide +kernel, by decide +kernel⟩, List.mem_of_getElem? (i := 527) (by decide +kernel), List.mem_of_getElem? (i := 691) (by decide +kernel), List.mem_of_getElem? (i := 692) (by decide +kernel)⟩
theorem lw_p34 : lw_okq (⟨"UnionOfficeModel", "hasEnded", "(I)Z"⟩, 23) := ⟨⟨by decide +kernel, by decide +kernel⟩, List.mem_of_getElem? (i := 527) (by decide +kernel), List.mem_of_getElem? (i := 699) (by decide +kernel), List.mem_of_getElem? (i := 700) (by decide +kernel)⟩
theorem lw_p35 : lw_okq (⟨"UnionOfficeModel", "asksFor", "(I)Z"⟩, 23) := ⟨⟨by decide +kernel, by decide +kernel⟩, List.mem_of_getElem? (i := 527) (by decide +kernel), List.mem_of_getElem? (i := 715) (by decide +kernel), List.mem_of_getElem? (i := 716) (by decide +kernel)⟩
def lw_privs_3 : List (MethodName × Nat) := [(⟨"UnionOfficeModel", "payStrikes", "()V"⟩, 23), (⟨"UnionOfficeModel", "takeDues", "()V"⟩, 23), (⟨"UnionOfficeModel", "hasEnded", "(I)Z"⟩, 23), (⟨"UnionOfficeModel", "asksFor", "(I)Z"⟩, 23)]
theorem lw_r3 : ∀ q ∈ lw_privs_3, lw_okq q := List.forall_mem_cons.mpr ⟨lw_p32, List.forall_mem_cons.mpr ⟨lw_p33, List.forall_mem_cons.mpr ⟨lw_p34, List.forall_mem_cons.mpr ⟨lw_p35, fun _ h => absurd h List.not_mem_nil⟩⟩⟩⟩
def lw_privs : List (MethodName × Nat) := lw_privs_1 ++ (lw_privs_2 ++ (lw_privs_3))
def lw_tbl : List Cond := k2_sels lw_privs ++ tables_1
theorem lw_privs_ok : ∀ q ∈ lw_privs, lw_okq q := by
  show ∀ q ∈ lw_privs_1 ++ (lw_privs_2 ++ (lw_privs_3)), lw_okq q
  exact List.forall_mem_append.mpr ⟨lw_r1, List.forall_mem_append.mpr ⟨lw_r2, lw_r3⟩⟩
end
section
/-! ===== BEGIN words of one list among another's, by their places ===== -/
theorem goodIn_r {big : List Cond} (ws : List Cond) (ps : List Nat) (hp : ws = ps.filterMap (fun i => big[i]?)) (h : ws.all goodWord = true) : GoodIn big ws := by
  intro w hw
  have h1 := List.all_eq_true.mp h w hw
  rw [hp] at hw
  obtain ⟨i, -, hi⟩ := List.mem_filterMap.mp hw
  have hm : w ∈ big := by first | exact List.mem_of_getElem? hi | exact List.getElem?_mem hi
  exact ⟨hm, good_of_word h1⟩
theorem goodIn_app {big a b : List Cond} (ha : GoodIn big a) (hb : GoodIn big b) : GoodIn big (a ++ b) := fun w h => (List.mem_append.mp h).elim (ha w) (hb w)
theorem goodIn_ca {big a b : List Cond} {c : Cond} (ha : GoodIn big (c :: a)) (hb : GoodIn big b) : GoodIn big (c :: (a ++ b)) := fun w h => (List.mem_cons.mp h).elim (fun e => ha w (List.mem_cons.mpr (Or.inl e))) (fun h => (List.mem_append.mp h).elim (fun h => ha w (List.mem_cons.mpr (Or.inr h))) (hb w))
theorem goodIn_sub {big ws : List Cond} (hm : ∀ w ∈ ws, w ∈ big) (h : ws.all goodWord = true) : GoodIn big ws := fun w hw => ⟨hm w hw, good_of_word (List.all_eq_true.mp h w hw)⟩
/-! ===== END ===== -/

/-! ===== BEGIN exceptions that leave a method, and their catching by the caller (launches without stack traces) ===== -/
section VXA
/-! The laws vx_back, vx_callV, vx_callS, vx_callSW, vx_throw0, vx_throwS follow proofs of the library, with one case more: JvmDerived/Free/Laws.lean (Back.of_free), Shelf42/LK1.lean (callV, callS), Shelf/KitTraced.lean (throwNew0V, throwNewS). -/
/-- where a method has thrown q: the class by its name, the cell, what was written, the world -/
def vx_T (XC : String → State → State → Prop) (st : State) (q : Addr) (t : State) (mc ms : Nat) (free : Addr → Prop) : Prop :=
  ∃ (E : String) (ce : Cell) (L : List Loc), XC E st t ∧ t.heap[q]? = some ce ∧ ce.vm = .none ∧ st.vm.findClass E = some ce.cls ∧ st.WarmedH t.vm ∧ st.sameButNew ({ t with vm := st.vm } : State) L mc ms ∧ ∀ z ∈ L, free z.base
def vx_Q (Qc : Array Value → State → Outcome → State → Prop) (XC : String → State → State → Prop) (mc ms : Nat) (free : Addr → Prop) : Array Value → State → Outcome → State → Prop := fun a st o t =>
  (Qc a st o t ∧ ∃ L, FrameEnd st o t L mc ms ∧ ∀ q ∈ L, free q.base) ∨ ∃ q, o = .threw q ∧ vx_T XC st q t mc ms free
/-- a callee that returns or throws -/
def vx_Met (l : Launch) (y : MethodName) (ws : List Cond) (rm : Room) (Pc : Array Value → State → Prop) (Qc : Array Value → State → Outcome → State → Prop) (XC : String → State → State → Prop) (mc ms : Nat) (free : Addr → Prop) : Prop :=
  MetFree l y (headSpec ws rm) Pc (fun _ _ _ _ _ => True) (vx_Q Qc XC mc ms free)
def vx_Post (XC : String → State → State → Prop) (mc ms : Nat) (free : Addr → Prop) : Pt → Array Value → Addr → Pt → Prop := fun A a q B =>
  ∃ (g : JFrame) (mk : MethodId) (t : State) (L : List Loc) (E : String) (ce : Cell), B.U.heap = t.heap ∧ B.U.vm = t.vm ∧ XC E (A.U.calling g mk a) t ∧ t.heap[q]? = some ce ∧ ce.vm = .none ∧ A.U.vm.findClass E = some ce.cls ∧ B.locs = A.locs ++ L ∧ (∀ z ∈ L, free z.base) ∧ B.cells = A.cells + mc ∧ B.slots = A.slots + ms
def vx_Back (l : Launch) (R : Room) (p : Program) (e : Env) (below : List Frame) (s : State) (sargs : Array Value) (y : MethodName) (len W9 : Nat)
    (Pre : Pt → Array Value → Prop) (Post : Pt → Array Value → Option Value → Pt → Prop) (PostX : Pt → Array Value → Addr → Pt → Prop) : Prop :=
  ∀ (m : MethodId) (meth : Method) (c : Code) (A : Pt) (g : JFrame) (ig : Instr) (mk : MethodId) (a : Array Value),
    Stand p l e R s m sargs below meth c A.U A.locs A.cells A.slots → g.method = m → g.locals.size = c.maxLocals → decode c.code g.pc = .ok (ig, len) →
    2 * g.monitorRoom + (g.stack.map fun v => v.category).sum ≤ W9 → A.U.methodNamed? y = some mk → Pre A a →
    (∃ (v : Option Value) (B : Pt), Stand p l e R s m sargs below meth c B.U B.locs B.cells B.slots ∧ Post A a v B ∧
      Steps p.tables e below (doInvoke e (A.U.setTop g) [] mk a).1 (B.U.setTop { g with pc := g.pc + len, stack := v.toList ++ g.stack })) ∨
    (∃ (q : Addr) (B : Pt), Stand p l e R s m sargs below meth c B.U B.locs B.cells B.slots ∧ PostX A a q B ∧
      Steps p.tables e below (doInvoke e (A.U.setTop g) [] mk a).1 ((B.U.setTop g).pushFrame (.throwing q)))
section Payer
variable {l : Launch} {R : Room} {p : Program} {e : Env} {below : List Frame} {s : State} {sargs : Array Value} {y : MethodName} {len W9 : Nat}
theorem vx_back {ws : List Cond} {rm : Room} {Pc : Array Value → State → Prop} {Qc : Array Value → State → Outcome → State → Prop} {XC : String → State → State → Prop} {mc ms : Nat} {free : Addr → Prop} {bytes : ByteArray} {maxL : Nat} {ret : Option FieldType}
    (hM : vx_Met l y ws rm Pc Qc XC mc ms free) (hblind : FrameBlind Pc) (hrc : rm.cells = mc) (hrs : rm.slots = ms)
    (hframes : rm.frames + 1 ≤ R.frames) (hlocals : W9 + (maxL + 11) + rm.locals ≤ R.locals)
    (hws : ∀ w ∈ ws, ∀ a' U, s.WarmedH U.vm → w.before a' U = true) (hcode : Cond.code y bytes maxL ret ∈ ws) (hinit : ∀ a' U, s.WarmedH U.vm → (Cond.initialized y.cls).before a' U = true) :
    vx_Back l R p e below s sargs y len W9 (PreOf R mc ms Pc) (PostOf Qc mc ms free) (vx_Post XC mc ms free) := by
  intro m meth c A g ig mk a X hg hsize hdg hW hn hp
  have h1 : (headSpec ws rm).pre.before a A.U = true := atoms_intro fun w hw => hws w hw _ _ X.warmed
  have h2 : (Cond.code y bytes maxL ret).before a A.U = true := hws _ hcode _ _ X.warmed
  have h3 : (Cond.initialized y.cls).before a A.U = true := hinit _ _ X.warmed
  have h4 : A.cells + (headSpec ws rm).room.cells ≤ R.cells := by rw [show (headSpec ws rm).room.cells = mc from hrc]; exact hp.1
  have h5 : A.slots + (headSpec ws rm).room.slots ≤ R.slots := by rw [show (headSpec ws rm).room.slots = ms from hrs]; exact hp.2.1
  have hPc : Pc a (A.U.calling g mk a) := hblind _ _ _ _ hp.2.2
  obtain ⟨U, Ls, c0, s0⟩ := A
  dsimp only [Pt.U, Pt.locs, Pt.cells, Pt.slots] at h1 h2 h3 h4 h5 X hn hPc ⊢
  obtain ⟨methY, cY, hmY, hcY, -, hlY, -, -, -, -⟩ := Cond.code_spec hn h2
  obtain ⟨kY, hkY, -⟩ := className_of_methodNamed hn
  have hinitY : kY.init = .initialized := Cond.initialized_spec (findClass_of_methodNamed hn) hkY h3
  have h : At U g.method c below := by rw [hg]; exact X.here
  have hlocals9 : W9 + (maxL + 11) + (headSpec ws rm).room.locals ≤ R.locals := hlocals
  have happ : (headSpec ws rm).appliesLoose y e.platform (U.calling g mk a) = true :=
    Spec.appliesLoose_calling (g := g) h hdg hn hkY hinitY
      (X.room_calling (g := g) (R' := (headSpec ws rm).room) hsize hmY hcY hframes (by rw [hlY]; omega) h4 h5) h1
  obtain ⟨mid, hmid⟩ := h.above
  have hfr : (U.setTop g).frames = (.java g :: mid) ++ below := by rw [State.frames_setTop' g h.top, hmid]; rfl
  obtain ⟨o, s₂, hsteps, -, hend, hq⟩ := Steps.callFree hM p X.admits X.cas X.clock (acts := []) hfr happ hPc trivial
  have hq' : vx_Q Qc XC mc ms free a (U.calling g mk a) o s₂ := hq
  rw [State.frames_setTop' g h.top] at hend
  obtain ⟨g₀, hg0⟩ := Option.isSome_iff_exists.mp h.top
  obtain ⟨r, hr⟩ := State.topJava?_eq_some.mp hg0
  have hr' : (({ U with heap := s₂.heap, slotsUsed := s₂.slotsUsed } : State).setVm s₂.vm).frames = .java g₀ :: r := hr
  rcases hq' with ⟨hqc, L, hfe, hL⟩ | ⟨q, rfl, E, ce, L, hx, hce, hcv, hcl, hW₂, hsm, hL⟩
  · obtain ⟨⟨v, rfl⟩, hW₂, e2, q2, q3, q4, q5, q6⟩ := id hfe
    have e3 : s₂ = ({ (U.calling g mk a).setFrames s₂.frames with heap := s₂.heap, slotsUsed := s₂.slotsUsed } : State).setVm s₂.vm := by
      have : s₂ = ({ s₂ with vm := (U.calling g mk a).vm } : State).setVm s₂.vm := rfl
      rw [e2] at this
      exact this
    obtain ⟨c₂, i₂, len₂, hc₂, hd₂, hf₂⟩ := hend
    have hW' : U.WarmedH s₂.vm := hW₂
    have hcc : c₂ = c := by
      have h1 : s₂.code? g.method = U.code? g.method := by
        rw [State.code?_eq, State.code?_eq, hW'.alike.method?]
      exact Option.some.inj (hc₂.symm.trans (h1.trans h.code))
    subst hcc
    have hlen : len₂ = len := by rw [hdg] at hd₂; cases hd₂; rfl
    subst hlen
    have hs₂ : s₂ = (({ U with heap := s₂.heap, slotsUsed := s₂.slotsUsed } : State).setVm s₂.vm).setTop { g with pc := g.pc + len₂, stack := v.toList ++ g.stack } := by
      refine e3.trans ?_
      rw [hf₂, State.calling_eq h.top, State.setFrames_setFrames, State.setTop_of_frames _ hr', hr]
      rfl
    have hsame : U.sameButNew ({ U with heap := s₂.heap, slotsUsed := s₂.slotsUsed } : State) L mc ms := by
      refine ⟨?_, q2, q3, q4, q5, q6⟩
      obtain ⟨t, ht, -⟩ := State.frames_cons hr
      show ({ U with heap := s₂.heap, slotsUsed := s₂.slotsUsed } : State) = { U.setFrames U.frames with heap := s₂.heap, slotsUsed := s₂.slotsUsed }
      rw [State.setFrames_self ht]
    subst hg
    refine Or.inl ⟨v, ⟨(({ U with heap := s₂.heap, slotsUsed := s₂.slotsUsed } : State).setVm s₂.vm), Ls ++ L, c0 + mc, s0 + ms⟩,
      ⟨X.admits, X.cas, X.clock, X.frames, X.room, X.hears, X.method, X.code, (X.here.setHeapUsed s₂.heap s₂.slotsUsed).setVm hW'.alike, X.tail, State.WarmedH.trans X.warmed hW', X.limits, X.bytes, X.same.trans (hsame.setVm s.vm)⟩,
      ⟨g, mk, s₂, L, rfl, rfl, hqc, rfl, hL, rfl, rfl⟩, ?_⟩
    show Steps p.tables e below _ ((({ U with heap := s₂.heap, slotsUsed := s₂.slotsUsed } : State).setVm s₂.vm).setTop { g with pc := g.pc + len₂, stack := v.toList ++ g.stack })
    rw [← hs₂]
    exact hsteps
  · obtain ⟨e2, q2, q3, q4, q5, q6⟩ := id hsm
    have e3 : s₂ = ({ (U.calling g mk a).setFrames s₂.frames with heap := s₂.heap, slotsUsed := s₂.slotsUsed } : State).setVm s₂.vm := by
      have : s₂ = ({ s₂ with vm := (U.calling g mk a).vm } : State).setVm s₂.vm := rfl
      rw [e2] at this
      exact this
    have hf₂ : s₂.frames = .throwing q :: .java g :: U.frames.tail := hend
    have hW' : U.WarmedH s₂.vm := hW₂
    have hs₂ : s₂ = ((({ U with heap := s₂.heap, slotsUsed := s₂.slotsUsed } : State).setVm s₂.vm).setTop g).pushFrame (.throwing q) := by
      refine e3.trans ?_
      rw [hf₂, State.calling_eq h.top, State.setFrames_setFrames, State.pushFrame, State.frames_setTop _ hr', State.setTop_of_frames _ hr', State.setFrames_setFrames, hr]
      rfl
    have hsame : U.sameButNew ({ U with heap := s₂.heap, slotsUsed := s₂.slotsUsed } : State) L mc ms := by
      refine ⟨?_, q2, q3, q4, q5, q6⟩
      obtain ⟨t, ht, -⟩ := State.frames_cons hr
      show ({ U with heap := s₂.heap, slotsUsed := s₂.slotsUsed } : State) = { U.setFrames U.frames with heap := s₂.heap, slotsUsed := s₂.slotsUsed }
      rw [State.setFrames_self ht]
    subst hg
    refine Or.inr ⟨q, ⟨(({ U with heap := s₂.heap, slotsUsed := s₂.slotsUsed } : State).setVm s₂.vm), Ls ++ L, c0 + mc, s0 + ms⟩,
      ⟨X.admits, X.cas, X.clock, X.frames, X.room, X.hears, X.method, X.code, (X.here.setHeapUsed s₂.heap s₂.slotsUsed).setVm hW'.alike, X.tail, State.WarmedH.trans X.warmed hW', X.limits, X.bytes, X.same.trans (hsame.setVm s.vm)⟩,
      ⟨g, mk, s₂, L, E, ce, rfl, rfl, hx, hce, hcv, hcl, rfl, hL, rfl, rfl⟩, ?_⟩
    show Steps p.tables e below _ (((({ U with heap := s₂.heap, slotsUsed := s₂.slotsUsed } : State).setVm s₂.vm).setTop g).pushFrame (.throwing q))
    rw [← hs₂]
    exact hsteps
end Payer
section Calls
variable {p : Program} {l : Launch} {e : Env} {R : Room} {s : State} {m : MethodId} {args : Array Value} {below : List Frame} {meth : Method} {c : Code} {T : State} {locs : List Loc} {cells slots : Nat}
theorem vx_callV (X : Stand p l e R s m args below meth c T locs cells slots) (hexec : p.tables.exec = Jvm.exec) {own C : String} {index : Nat} {y : MethodName} {bytes : ByteArray} {maxL : Nat} {ret : Option FieldType}
    (hown : s.vm.findClass own = some m.cls) (hlink : (Cond.methodLink own index y).before args s = true) (hinst : (Cond.instanceMethod y).before args s = true) (hsel : (Cond.selects C y y).before args s = true)
    (hcode : (Cond.code y bytes maxL ret).before args s = true) (hy : y.cls ≠ "java/lang/invoke/MethodHandle" ∧ y.cls ≠ "java/lang/invoke/VarHandle")
    {W9 : Nat} {Pre : Pt → Array Value → Prop} {Post : Pt → Array Value → Option Value → Pt → Prop} {PostX : Pt → Array Value → Addr → Pt → Prop} (hK : vx_Back l R p e below s args y 3 W9 Pre Post PostX)
    {b : Addr} {cellB : Cell} (hcell : T.heap[b]? = some cellB) (hobj : cellB.vm.isStatics = false) (hcls : s.vm.findClass C = some cellB.cls)
    {g : JFrame} (hg : g.method = m) (hsize : g.locals.size = c.maxLocals) {argsL rest : List Value} (hlen : ∀ sig, parseMethodDescriptor y.desc = some sig → argsL.length = sig.parameters.length)
    (hstack : g.stack = argsL.reverse ++ .ref b :: rest) (hW : 2 * g.monitorRoom + (rest.map fun v => v.category).sum ≤ W9) (hdg : decode c.code g.pc = .ok (.invokevirtual index, 3))
    (hpre : ∀ vm₁, s.WarmedH vm₁ → Pre ⟨T.setVm vm₁, locs, cells, slots⟩ (Value.ref b :: argsL).toArray) :
    (∃ (v : Option Value) (vm₁ : Vm) (B : Pt), s.WarmedH vm₁ ∧ Stand p l e R s m args below meth c B.U B.locs B.cells B.slots ∧ Post ⟨T.setVm vm₁, locs, cells, slots⟩ (Value.ref b :: argsL).toArray v B ∧
      ∀ target, Steps p.tables e below (B.U.setTop { g with pc := g.pc + 3, stack := v.toList ++ rest }) target → Steps p.tables e below (T.setTop g) target) ∨
    (∃ (q : Addr) (vm₁ : Vm) (B : Pt), s.WarmedH vm₁ ∧ Stand p l e R s m args below meth c B.U B.locs B.cells B.slots ∧ PostX ⟨T.setVm vm₁, locs, cells, slots⟩ (Value.ref b :: argsL).toArray q B ∧
      Steps p.tables e below (T.setTop g) ((B.U.setTop { g with stack := rest }).pushFrame (.throwing q))) := by
  obtain ⟨mk, methM, hnamed, hmethM, hstM, habM⟩ := Cond.instanceMethod_spec hinst
  obtain ⟨methM', cM, hmethM', -, -, -, -, -, -, hsigM⟩ := Cond.code_spec hnamed hcode
  cases hmethM.symm.trans hmethM'
  obtain ⟨c2, r2, m2, q1, q2, q3, q4, kP, hkP, hkPi⟩ := Cond.selects_spec hsel
  cases hcls.symm.trans q1
  cases (State.methodFound?_of_named hnamed hy).symm.trans q2
  cases hnamed.symm.trans q3
  have hselP : selectMethod e.platform s.vm cellB.cls mk = .method mk := by rw [Launch.admits_selectMethod X.admits]; exact q4
  obtain ⟨vm₁, X₁, hstep₁⟩ := X.invokevirtual hexec hown hlink hnamed hmethM hstM hkP hkPi hy (a := b) (cell := cellB) hcell
    (fun z h => by rw [h] at hobj; cases hobj) hselP hmethM habM hkP hkPi (g := g) hg (argsL := argsL) (rest := rest) (hlen _ hsigM) hstack hdg
  rcases hK m meth c ⟨T.setVm vm₁, locs, cells, slots⟩ { g with stack := rest } (.invokevirtual index) mk (Value.ref b :: argsL).toArray X₁ hg hsize hdg hW (X₁.named hnamed) (hpre vm₁ X₁.warmed) with ⟨v, B, X', hpost, hsteps⟩ | ⟨q, B, X', hpost, hsteps⟩
  · exact Or.inl ⟨v, vm₁, B, X₁.warmed, X', hpost, fun target h => hstep₁ _ fun acts => by rw [doInvoke_state]; exact hsteps.trans h⟩
  · exact Or.inr ⟨q, vm₁, B, X₁.warmed, X', hpost, hstep₁ _ fun acts => by rw [doInvoke_state]; exact hsteps⟩
theorem vx_callS (X : Stand p l e R s m args below meth c T locs cells slots) (hexec : p.tables.exec = Jvm.exec) {own : String} {index : Nat} {y : MethodName} {bytes : ByteArray} {maxL : Nat} {ret : Option FieldType}
    (hown : s.vm.findClass own = some m.cls) (hlink : (Cond.methodLink own index y).before args s = true) (hstat : (Cond.static y).before args s = true) (hinit : (Cond.initialized y.cls).before args s = true)
    (hcode : (Cond.code y bytes maxL ret).before args s = true) (hy : y.cls ≠ "java/lang/invoke/MethodHandle" ∧ y.cls ≠ "java/lang/invoke/VarHandle")
    {W9 : Nat} {Pre : Pt → Array Value → Prop} {Post : Pt → Array Value → Option Value → Pt → Prop} {PostX : Pt → Array Value → Addr → Pt → Prop} (hK : vx_Back l R p e below s args y 3 W9 Pre Post PostX)
    {g : JFrame} (hg : g.method = m) (hsize : g.locals.size = c.maxLocals) {argsL rest : List Value} (hlen : ∀ sig, parseMethodDescriptor y.desc = some sig → argsL.length = sig.parameters.length)
    (hstack : g.stack = argsL.reverse ++ rest) (hW : 2 * g.monitorRoom + (rest.map fun v => v.category).sum ≤ W9) (hdg : decode c.code g.pc = .ok (.invokestatic index, 3))
    (hpre : ∀ vm₁, s.WarmedH vm₁ → Pre ⟨T.setVm vm₁, locs, cells, slots⟩ argsL.toArray) :
    (∃ (v : Option Value) (vm₁ : Vm) (B : Pt), s.WarmedH vm₁ ∧ Stand p l e R s m args below meth c B.U B.locs B.cells B.slots ∧ Post ⟨T.setVm vm₁, locs, cells, slots⟩ argsL.toArray v B ∧
      ∀ target, Steps p.tables e below (B.U.setTop { g with pc := g.pc + 3, stack := v.toList ++ rest }) target → Steps p.tables e below (T.setTop g) target) ∨
    (∃ (q : Addr) (vm₁ : Vm) (B : Pt), s.WarmedH vm₁ ∧ Stand p l e R s m args below meth c B.U B.locs B.cells B.slots ∧ PostX ⟨T.setVm vm₁, locs, cells, slots⟩ argsL.toArray q B ∧
      Steps p.tables e below (T.setTop g) ((B.U.setTop { g with stack := rest }).pushFrame (.throwing q))) := by
  obtain ⟨mk, hnamed⟩ := Cond.code_named hcode
  obtain ⟨methM, cM, hmethM, -, -, -, -, -, -, hsigM⟩ := Cond.code_spec hnamed hcode
  have hstatic : methM.isStatic = true := Cond.static_spec hnamed hmethM hstat
  obtain ⟨kP, hkP, -⟩ := className_of_methodNamed hnamed
  have hinitP : kP.init = .initialized := Cond.initialized_spec (findClass_of_methodNamed hnamed) hkP hinit
  obtain ⟨vm₁, X₁, hstep₁⟩ := X.invokestatic hexec hown hlink hnamed hmethM hstatic hkP hinitP hy (g := g) hg (argsL := argsL) (rest := rest) (hlen _ hsigM) hstack hdg
  rcases hK m meth c ⟨T.setVm vm₁, locs, cells, slots⟩ { g with stack := rest } (.invokestatic index) mk argsL.toArray X₁ hg hsize hdg hW (X₁.named hnamed) (hpre vm₁ X₁.warmed) with ⟨v, B, X', hpost, hsteps⟩ | ⟨q, B, X', hpost, hsteps⟩
  · exact Or.inl ⟨v, vm₁, B, X₁.warmed, X', hpost, fun target h => hstep₁ _ fun acts => by rw [doInvoke_state]; exact hsteps.trans h⟩
  · exact Or.inr ⟨q, vm₁, B, X₁.warmed, X', hpost, hstep₁ _ fun acts => by rw [doInvoke_state]; exact hsteps⟩
end Calls
theorem vx_cls {s : State} {T : State} {vm₁ : Vm} {E : String} {k : ClassId} (hW : s.WarmedH vm₁) (h : (T.setVm vm₁).vm.findClass E = some k) : s.vm.findClass E = some k := by
  have h1 : vm₁.findClass E = some k := h
  rw [hW.alike.findClass] at h1
  exact h1
/-- the method's frame g, with q thrown over it -/
def vx_W (p : Program) (l : Launch) (e : Env) (R : Room) (s : State) (m : MethodId) (args : Array Value) (below : List Frame) (meth : Method) (c : Code) (H : Heap) (locs : List Loc) (cells slots : Nat) (Q : State → Prop) (g : JFrame) (q : Addr) : Prop :=
  ∀ T : State, T.heap = H → Stand p l e R s m args below meth c T locs cells slots → ∃ t, Steps p.tables e below ((T.setTop g).pushFrame (.throwing q)) t ∧ Q t
def vx_Run (p : Program) (l : Launch) (e : Env) (R : Room) (s : State) (m : MethodId) (args : Array Value) (below : List Frame) (meth : Method) (c : Code) (H : Heap) (locs : List Loc) (cells slots mc ms : Nat) (g : JFrame) (rest : List Value) (Qa : State → Outcome → State → Prop) (XC : String → State → State → Prop) (free : Addr → Prop) : Prop :=
  ∀ T : State, T.heap = H → Stand p l e R s m args below meth c T locs cells slots →
    (∃ (v : Option Value) (st₀ t T' : State) (L : List Loc), st₀.heap = H ∧ Stand p l e R s m args below meth c T' (locs ++ L) (cells + mc) (slots + ms) ∧ (∀ q ∈ L, free q.base) ∧ T'.heap = t.heap ∧ T'.vm = t.vm ∧ Qa st₀ (.returned v) t ∧
      Goes p e below T g T' { g with pc := g.pc + 3, stack := v.toList ++ rest }) ∨
    (∃ (q : Addr) (st₀ t T' : State) (L : List Loc) (E : String) (ce : Cell), st₀.heap = H ∧ Stand p l e R s m args below meth c T' (locs ++ L) (cells + mc) (slots + ms) ∧ (∀ z ∈ L, free z.base) ∧ T'.heap = t.heap ∧ T'.vm = t.vm ∧ XC E st₀ t ∧ t.heap[q]? = some ce ∧ ce.vm = .none ∧ s.vm.findClass E = some ce.cls ∧
      Steps p.tables e below (T.setTop g) ((T'.setTop { g with stack := rest }).pushFrame (.throwing q)))
def vx_X {S : Type} (px : S → Prop) (B : String → S → State → Prop) (A : Nat → Prop) : String → State → State → Prop := fun E st t => ∃ u : S, px u ∧ B E u t ∧ va_F A st t
section Runs
variable {p : Program} {l : Launch} {e : Env} {R : Room} {s : State} {m : MethodId} {args : Array Value} {below : List Frame} {meth : Method} {c : Code} {H : Heap} {locs : List Loc} {cells slots : Nat}
variable {y : MethodName} {bytes cc : ByteArray} {maxL nL mc ms n index : Nat} {ret : Option FieldType} {ws : List Cond} {rm : Room} {Pc : Array Value → State → Prop} {Qc : Array Value → State → Outcome → State → Prop} {XC : String → State → State → Prop} {free : Addr → Prop} {Ts : List Cond} {own C : String} {b : Addr} {As rest : List Value} {g : JFrame}
theorem vx_callBack (cb : CallB R s args own index y bytes maxL ret ws rm mc ms n) (hM : vx_Met l y ws rm Pc Qc XC mc ms free) (hbl : FrameBlind Pc) : vx_Back l R p e below s args y 3 8 (PreOf R mc ms Pc) (PostOf Qc mc ms free) (vx_Post XC mc ms free) := by
  obtain ⟨hrc, hrs, hfr, hlo, hws, hcw, -, hini, -⟩ := cb
  exact vx_back (bytes := bytes) (maxL := maxL) (ret := ret) hM hbl hrc hrs hfr hlo hws hcw (fun a' U hW => word_at hW (Or.inl (by first | rfl | simp [Cond.onTables, Cond.keeps, Cond.steady])) hini)
theorem vx_runV (S : CallFix p m c cc nL s args Ts own) (hM : vx_Met l y ws rm Pc Qc XC mc ms free) (cw : CallW R s args own C index y bytes maxL ret ws rm mc ms n) (hp : PreV s H C b Pc As)
    (hg : g.method = m) (hn : As.length = n) (hsize : g.locals.size = nL) (hstack : g.stack = As.reverse ++ .ref b :: rest) (hW : 2 * g.monitorRoom + (rest.map fun v => v.category).sum ≤ 8) (hdg : decode cc g.pc = .ok (.invokevirtual index, 3)) (hf : cells + mc ≤ R.cells ∧ slots + ms ≤ R.slots) :
    vx_Run p l e R s m args below meth c H locs cells slots mc ms g rest (Qc (Value.ref b :: As).toArray) XC free := by
  have hK : vx_Back l R p e below s args y 3 8 (PreOf R mc ms Pc) (PostOf Qc mc ms free) (vx_Post XC mc ms free) := vx_callBack cw.1 hM hp.1
  obtain ⟨⟨-, -, -, -, -, -, hcode, -, hy, hlen, hl⟩, hin, hse⟩ := cw
  obtain ⟨hx, hb, hml, ho, -⟩ := S
  obtain ⟨-, ⟨cellB, hcB, hoB, hclB⟩, hPc⟩ := hp
  intro T hT X
  rcases vx_callV X hx (C := C) (bytes := bytes) (maxL := maxL) (ret := ret) ho hl hin hse hcode hy hK (by rw [hT]; exact hcB) hoB hclB hg (hsize.trans hml.symm) (argsL := As) (rest := rest) (fun sig h => hn.trans (hlen sig h)) hstack hW (by rw [hb]; exact hdg)
    (fun vm₁ hW₁ => ⟨hf.1, hf.2, hPc (T.setVm vm₁) hT hW₁⟩) with ⟨v, vm₁, ⟨U', l2, c2, s2⟩, hW₁, X', ⟨g', mk, t, L, e1, e2, hq, h1, hL, h2, h3⟩, st⟩ | ⟨q, vm₁, ⟨U', l2, c2, s2⟩, hW₁, X', ⟨g', mk, t, L, E, ce, e1, e2, hq, hce, hcv, hcl, h1, hL, h2, h3⟩, st⟩
  · dsimp only [Pt.U, Pt.locs, Pt.cells, Pt.slots] at X' e1 e2 h1 h2 h3 st
    subst h1; subst h2; subst h3
    exact Or.inl ⟨v, (T.setVm vm₁).calling g' mk (Value.ref b :: As).toArray, t, U', L, hT, X', hL, e1, e2, hq, st⟩
  · dsimp only [Pt.U, Pt.locs, Pt.cells, Pt.slots] at X' e1 e2 h1 h2 h3 st hcl
    subst h1; subst h2; subst h3
    exact Or.inr ⟨q, (T.setVm vm₁).calling g' mk (Value.ref b :: As).toArray, t, U', L, E, ce, hT, X', hL, e1, e2, hq, hce, hcv, vx_cls hW₁ hcl, st⟩
theorem vx_runS (S : CallFix p m c cc nL s args Ts own) (hM : vx_Met l y ws rm Pc Qc XC mc ms free) (cw : CallB R s args own index y bytes maxL ret ws rm mc ms n ∧ (Cond.static y).before args s = true) (hp : PreS s H Pc As)
    (hg : g.method = m) (hn : As.length = n) (hsize : g.locals.size = nL) (hstack : g.stack = As.reverse ++ rest) (hW : 2 * g.monitorRoom + (rest.map fun v => v.category).sum ≤ 8) (hdg : decode cc g.pc = .ok (.invokestatic index, 3)) (hf : cells + mc ≤ R.cells ∧ slots + ms ≤ R.slots) :
    vx_Run p l e R s m args below meth c H locs cells slots mc ms g rest (Qc As.toArray) XC free := by
  have hK : vx_Back l R p e below s args y 3 8 (PreOf R mc ms Pc) (PostOf Qc mc ms free) (vx_Post XC mc ms free) := vx_callBack cw.1 hM hp.1
  obtain ⟨⟨-, -, -, -, -, -, hcode, hini, hy, hlen, hl⟩, hstt⟩ := cw
  obtain ⟨hx, hb, hml, ho, -⟩ := S
  intro T hT X
  rcases vx_callS X hx (bytes := bytes) (maxL := maxL) (ret := ret) ho hl hstt hini hcode hy hK hg (hsize.trans hml.symm) (argsL := As) (rest := rest) (fun sig h => hn.trans (hlen sig h)) hstack hW (by rw [hb]; exact hdg)
    (fun vm₁ hW₁ => ⟨hf.1, hf.2, hp.2 (T.setVm vm₁) hT hW₁⟩) with ⟨v, vm₁, ⟨U', l2, c2, s2⟩, hW₁, X', ⟨g', mk, t, L, e1, e2, hq, h1, hL, h2, h3⟩, st⟩ | ⟨q, vm₁, ⟨U', l2, c2, s2⟩, hW₁, X', ⟨g', mk, t, L, E, ce, e1, e2, hq, hce, hcv, hcl, h1, hL, h2, h3⟩, st⟩
  · dsimp only [Pt.U, Pt.locs, Pt.cells, Pt.slots] at X' e1 e2 h1 h2 h3 st
    subst h1; subst h2; subst h3
    exact Or.inl ⟨v, (T.setVm vm₁).calling g' mk As.toArray, t, U', L, hT, X', hL, e1, e2, hq, st⟩
  · dsimp only [Pt.U, Pt.locs, Pt.cells, Pt.slots] at X' e1 e2 h1 h2 h3 st hcl
    subst h1; subst h2; subst h3
    exact Or.inr ⟨q, (T.setVm vm₁).calling g' mk As.toArray, t, U', L, E, ce, hT, X', hL, e1, e2, hq, hce, hcv, vx_cls hW₁ hcl, st⟩
end Runs
section Rows
variable {p : Program} {l : Launch} {e : Env} {R : Room} {s : State} {m : MethodId} {args : Array Value} {below : List Frame} {meth : Method} {c : Code} {H : Heap} {locs : List Loc} {cells slots : Nat} {Q : State → Prop}
variable {mc ms : Nat} {free : Addr → Prop} {A0 A1 : Nat → Prop} {H0 : Heap} {a : Array Value} {pc : Nat} {ls : Array Slot} {st0 rest : List Value}
theorem vx_keep {st₀ t T' : State} {L : List Loc} (h0 : st₀.heap = H) (e1 : T'.heap = t.heap) (hS : va_S A0 H0 H locs) (hA : ∀ q, q < H.size → A1 q → A0 q) (hf : ∀ q, free q → A0 q) (hL : ∀ q ∈ L, free q.base) (hF : va_F A1 st₀ t) :
    H.size ≤ T'.heap.size ∧ (∀ q : Nat, q < H.size → ¬ A1 q → T'.heap[q]? = H[q]?) ∧ va_S A0 H0 T'.heap (locs ++ L) := by
  obtain ⟨hz, hk⟩ := hF
  rw [h0] at hz hk
  exact ⟨by rw [e1]; exact hz, fun q h1 h2 => by rw [e1]; exact hk q h1 h2,
    ⟨Nat.le_trans hS.1 (by rw [e1]; exact hz), fun q h1 h2 => by rw [e1, hk q (Nat.lt_of_lt_of_le h1 hS.1) (fun z => h2 (hA q (Nat.lt_of_lt_of_le h1 hS.1) z))]; exact hS.2.1 q h1 h2, fun q hq => by
      rcases List.mem_append.mp hq with h | h
      · exact hS.2.2 q h
      · exact hf _ (hL q h)⟩⟩
theorem vx_calli {S SX : Type} {post : Int32 → S → Prop} {px : SX → Prop} {B : S → State → Prop} {BX : String → SX → State → Prop} {AX : Nat → Prop} (hr : vx_Run p l e R s m args below meth c H locs cells slots mc ms (F0 m pc ls st0) rest (va_Qi post B A1 a) (vx_X px BX AX) free) (hS : va_S A0 H0 H locs) (hA : ∀ q, q < H.size → A1 q → A0 q) (hf : ∀ q, free q → A0 q) (hAX : ∀ q, q < H.size → AX q → A0 q)
    (kx : ∀ (E : String) (ce : Cell) (q9 : Addr) (u : SX) (t : State) (H1 : Heap) (locs1 : List Loc), t.heap = H1 → s.vm.Alike t.vm → px u → BX E u t → H.size ≤ H1.size → (∀ q : Nat, q < H.size → ¬ AX q → H1[q]? = H[q]?) → va_S A0 H0 H1 locs1 → H1[q9]? = some ce → ce.vm = .none → s.vm.findClass E = some ce.cls → vx_W p l e R s m args below meth c H1 locs1 (cells + mc) (slots + ms) Q (F0 m pc ls rest) q9)
    (kk : ∀ (r : Int32) (u : S) (t : State) (H1 : Heap) (locs1 : List Loc), t.heap = H1 → s.vm.Alike t.vm → post r u → B u t → H.size ≤ H1.size → (∀ q : Nat, q < H.size → ¬ A1 q → H1[q]? = H[q]?) → va_S A0 H0 H1 locs1 → W p l e R s m args below meth c H1 locs1 (cells + mc) (slots + ms) Q (F0 m (pc + 3) ls (.int r :: rest))) : W p l e R s m args below meth c H locs cells slots Q (F0 m pc ls st0) := by
  intro T hT X
  rcases hr T hT X with ⟨v, st₀, t, T', L, h0, X', hL, e1, e2, ⟨⟨r, u, hv, hp, hb⟩, hF⟩, st⟩ | ⟨q, st₀, t, T', L, E, ce, h0, X', hL, e1, e2, ⟨u, hp, hb, hF⟩, hce, hcv, hcl, st⟩
  · cases hv
    obtain ⟨k1, k2, k3⟩ := vx_keep h0 e1 hS hA hf hL hF
    obtain ⟨t2, a1, b1⟩ := kk r u t T'.heap (locs ++ L) e1.symm (by rw [← e2]; exact X'.warmed.alike) hp hb k1 k2 k3 T' rfl X'
    exact ⟨t2, st t2 a1, b1⟩
  · obtain ⟨k1, k2, k3⟩ := vx_keep h0 e1 hS hAX hf hL hF
    obtain ⟨t2, a1, b1⟩ := kx E ce q u t T'.heap (locs ++ L) e1.symm (by rw [← e2]; exact X'.warmed.alike) hp hb k1 k2 k3 (by rw [e1]; exact hce) hcv hcl T' rfl X'
    exact ⟨t2, st.trans a1, b1⟩
theorem vx_calll {S SX : Type} {post : Int64 → S → Prop} {px : SX → Prop} {B : S → State → Prop} {BX : String → SX → State → Prop} {AX : Nat → Prop} (hr : vx_Run p l e R s m args below meth c H locs cells slots mc ms (F0 m pc ls st0) rest (va_Ql post B A1 a) (vx_X px BX AX) free) (hS : va_S A0 H0 H locs) (hA : ∀ q, q < H.size → A1 q → A0 q) (hf : ∀ q, free q → A0 q) (hAX : ∀ q, q < H.size → AX q → A0 q)
    (kx : ∀ (E : String) (ce : Cell) (q9 : Addr) (u : SX) (t : State) (H1 : Heap) (locs1 : List Loc), t.heap = H1 → s.vm.Alike t.vm → px u → BX E u t → H.size ≤ H1.size → (∀ q : Nat, q < H.size → ¬ AX q → H1[q]? = H[q]?) → va_S A0 H0 H1 locs1 → H1[q9]? = some ce → ce.vm = .none → s.vm.findClass E = some ce.cls → vx_W p l e R s m args below meth c H1 locs1 (cells + mc) (slots + ms) Q (F0 m pc ls rest) q9)
    (kk : ∀ (r : Int64) (u : S) (t : State) (H1 : Heap) (locs1 : List Loc), t.heap = H1 → s.vm.Alike t.vm → post r u → B u t → H.size ≤ H1.size → (∀ q : Nat, q < H.size → ¬ A1 q → H1[q]? = H[q]?) → va_S A0 H0 H1 locs1 → W p l e R s m args below meth c H1 locs1 (cells + mc) (slots + ms) Q (F0 m (pc + 3) ls (.long r :: rest))) : W p l e R s m args below meth c H locs cells slots Q (F0 m pc ls st0) := by
  intro T hT X
  rcases hr T hT X with ⟨v, st₀, t, T', L, h0, X', hL, e1, e2, ⟨⟨r, u, hv, hp, hb⟩, hF⟩, st⟩ | ⟨q, st₀, t, T', L, E, ce, h0, X', hL, e1, e2, ⟨u, hp, hb, hF⟩, hce, hcv, hcl, st⟩
  · cases hv
    obtain ⟨k1, k2, k3⟩ := vx_keep h0 e1 hS hA hf hL hF
    obtain ⟨t2, a1, b1⟩ := kk r u t T'.heap (locs ++ L) e1.symm (by rw [← e2]; exact X'.warmed.alike) hp hb k1 k2 k3 T' rfl X'
    exact ⟨t2, st t2 a1, b1⟩
  · obtain ⟨k1, k2, k3⟩ := vx_keep h0 e1 hS hAX hf hL hF
    obtain ⟨t2, a1, b1⟩ := kx E ce q u t T'.heap (locs ++ L) e1.symm (by rw [← e2]; exact X'.warmed.alike) hp hb k1 k2 k3 (by rw [e1]; exact hce) hcv hcl T' rfl X'
    exact ⟨t2, st.trans a1, b1⟩
theorem vx_callf {S SX : Type} {post : UInt32 → S → Prop} {px : SX → Prop} {B : S → State → Prop} {BX : String → SX → State → Prop} {AX : Nat → Prop} (hr : vx_Run p l e R s m args below meth c H locs cells slots mc ms (F0 m pc ls st0) rest (va_Qf post B A1 a) (vx_X px BX AX) free) (hS : va_S A0 H0 H locs) (hA : ∀ q, q < H.size → A1 q → A0 q) (hf : ∀ q, free q → A0 q) (hAX : ∀ q, q < H.size → AX q → A0 q)
    (kx : ∀ (E : String) (ce : Cell) (q9 : Addr) (u : SX) (t : State) (H1 : Heap) (locs1 : List Loc), t.heap = H1 → s.vm.Alike t.vm → px u → BX E u t → H.size ≤ H1.size → (∀ q : Nat, q < H.size → ¬ AX q → H1[q]? = H[q]?) → va_S A0 H0 H1 locs1 → H1[q9]? = some ce → ce.vm = .none → s.vm.findClass E = some ce.cls → vx_W p l e R s m args below meth c H1 locs1 (cells + mc) (slots + ms) Q (F0 m pc ls rest) q9)
    (kk : ∀ (r : UInt32) (u : S) (t : State) (H1 : Heap) (locs1 : List Loc), t.heap = H1 → s.vm.Alike t.vm → post r u → B u t → H.size ≤ H1.size → (∀ q : Nat, q < H.size → ¬ A1 q → H1[q]? = H[q]?) → va_S A0 H0 H1 locs1 → W p l e R s m args below meth c H1 locs1 (cells + mc) (slots + ms) Q (F0 m (pc + 3) ls (.float r :: rest))) : W p l e R s m args below meth c H locs cells slots Q (F0 m pc ls st0) := by
  intro T hT X
  rcases hr T hT X with ⟨v, st₀, t, T', L, h0, X', hL, e1, e2, ⟨⟨r, u, hv, hp, hb⟩, hF⟩, st⟩ | ⟨q, st₀, t, T', L, E, ce, h0, X', hL, e1, e2, ⟨u, hp, hb, hF⟩, hce, hcv, hcl, st⟩
  · cases hv
    obtain ⟨k1, k2, k3⟩ := vx_keep h0 e1 hS hA hf hL hF
    obtain ⟨t2, a1, b1⟩ := kk r u t T'.heap (locs ++ L) e1.symm (by rw [← e2]; exact X'.warmed.alike) hp hb k1 k2 k3 T' rfl X'
    exact ⟨t2, st t2 a1, b1⟩
  · obtain ⟨k1, k2, k3⟩ := vx_keep h0 e1 hS hAX hf hL hF
    obtain ⟨t2, a1, b1⟩ := kx E ce q u t T'.heap (locs ++ L) e1.symm (by rw [← e2]; exact X'.warmed.alike) hp hb k1 k2 k3 (by rw [e1]; exact hce) hcv hcl T' rfl X'
    exact ⟨t2, st.trans a1, b1⟩
theorem vx_calld {S SX : Type} {post : UInt64 → S → Prop} {px : SX → Prop} {B : S → State → Prop} {BX : String → SX → State → Prop} {AX : Nat → Prop} (hr : vx_Run p l e R s m args below meth c H locs cells slots mc ms (F0 m pc ls st0) rest (va_Qd post B A1 a) (vx_X px BX AX) free) (hS : va_S A0 H0 H locs) (hA : ∀ q, q < H.size → A1 q → A0 q) (hf : ∀ q, free q → A0 q) (hAX : ∀ q, q < H.size → AX q → A0 q)
    (kx : ∀ (E : String) (ce : Cell) (q9 : Addr) (u : SX) (t : State) (H1 : Heap) (locs1 : List Loc), t.heap = H1 → s.vm.Alike t.vm → px u → BX E u t → H.size ≤ H1.size → (∀ q : Nat, q < H.size → ¬ AX q → H1[q]? = H[q]?) → va_S A0 H0 H1 locs1 → H1[q9]? = some ce → ce.vm = .none → s.vm.findClass E = some ce.cls → vx_W p l e R s m args below meth c H1 locs1 (cells + mc) (slots + ms) Q (F0 m pc ls rest) q9)
    (kk : ∀ (r : UInt64) (u : S) (t : State) (H1 : Heap) (locs1 : List Loc), t.heap = H1 → s.vm.Alike t.vm → post r u → B u t → H.size ≤ H1.size → (∀ q : Nat, q < H.size → ¬ A1 q → H1[q]? = H[q]?) → va_S A0 H0 H1 locs1 → W p l e R s m args below meth c H1 locs1 (cells + mc) (slots + ms) Q (F0 m (pc + 3) ls (.double r :: rest))) : W p l e R s m args below meth c H locs cells slots Q (F0 m pc ls st0) := by
  intro T hT X
  rcases hr T hT X with ⟨v, st₀, t, T', L, h0, X', hL, e1, e2, ⟨⟨r, u, hv, hp, hb⟩, hF⟩, st⟩ | ⟨q, st₀, t, T', L, E, ce, h0, X', hL, e1, e2, ⟨u, hp, hb, hF⟩, hce, hcv, hcl, st⟩
  · cases hv
    obtain ⟨k1, k2, k3⟩ := vx_keep h0 e1 hS hA hf hL hF
    obtain ⟨t2, a1, b1⟩ := kk r u t T'.heap (locs ++ L) e1.symm (by rw [← e2]; exact X'.warmed.alike) hp hb k1 k2 k3 T' rfl X'
    exact ⟨t2, st t2 a1, b1⟩
  · obtain ⟨k1, k2, k3⟩ := vx_keep h0 e1 hS hAX hf hL hF
    obtain ⟨t2, a1, b1⟩ := kx E ce q u t T'.heap (locs ++ L) e1.symm (by rw [← e2]; exact X'.warmed.alike) hp hb k1 k2 k3 (by rw [e1]; exact hce) hcv hcl T' rfl X'
    exact ⟨t2, st.trans a1, b1⟩
theorem vx_callv {S SX : Type} {post : S → Prop} {px : SX → Prop} {B : S → State → Prop} {BX : String → SX → State → Prop} {AX : Nat → Prop} (hr : vx_Run p l e R s m args below meth c H locs cells slots mc ms (F0 m pc ls st0) rest (va_Qv post B A1 a) (vx_X px BX AX) free) (hS : va_S A0 H0 H locs) (hA : ∀ q, q < H.size → A1 q → A0 q) (hf : ∀ q, free q → A0 q) (hAX : ∀ q, q < H.size → AX q → A0 q)
    (kx : ∀ (E : String) (ce : Cell) (q9 : Addr) (u : SX) (t : State) (H1 : Heap) (locs1 : List Loc), t.heap = H1 → s.vm.Alike t.vm → px u → BX E u t → H.size ≤ H1.size → (∀ q : Nat, q < H.size → ¬ AX q → H1[q]? = H[q]?) → va_S A0 H0 H1 locs1 → H1[q9]? = some ce → ce.vm = .none → s.vm.findClass E = some ce.cls → vx_W p l e R s m args below meth c H1 locs1 (cells + mc) (slots + ms) Q (F0 m pc ls rest) q9)
    (kk : ∀ (u : S) (t : State) (H1 : Heap) (locs1 : List Loc), t.heap = H1 → s.vm.Alike t.vm → post u → B u t → H.size ≤ H1.size → (∀ q : Nat, q < H.size → ¬ A1 q → H1[q]? = H[q]?) → va_S A0 H0 H1 locs1 → W p l e R s m args below meth c H1 locs1 (cells + mc) (slots + ms) Q (F0 m (pc + 3) ls (rest))) : W p l e R s m args below meth c H locs cells slots Q (F0 m pc ls st0) := by
  intro T hT X
  rcases hr T hT X with ⟨v, st₀, t, T', L, h0, X', hL, e1, e2, ⟨⟨u, hv, hp, hb⟩, hF⟩, st⟩ | ⟨q, st₀, t, T', L, E, ce, h0, X', hL, e1, e2, ⟨u, hp, hb, hF⟩, hce, hcv, hcl, st⟩
  · cases hv
    obtain ⟨k1, k2, k3⟩ := vx_keep h0 e1 hS hA hf hL hF
    obtain ⟨t2, a1, b1⟩ := kk u t T'.heap (locs ++ L) e1.symm (by rw [← e2]; exact X'.warmed.alike) hp hb k1 k2 k3 T' rfl X'
    exact ⟨t2, st t2 a1, b1⟩
  · obtain ⟨k1, k2, k3⟩ := vx_keep h0 e1 hS hAX hf hL hF
    obtain ⟨t2, a1, b1⟩ := kx E ce q u t T'.heap (locs ++ L) e1.symm (by rw [← e2]; exact X'.warmed.alike) hp hb k1 k2 k3 (by rw [e1]; exact hce) hcv hcl T' rfl X'
    exact ⟨t2, st.trans a1, b1⟩
/-- caught by the row x of this method's table; the rows ahead don't take it -/
theorem vx_catch {own name : String} {E : String} {ce : Cell} {q : Addr} (hown : s.vm.findClass own = some m.cls) (pre : List ExceptionTableEntry) (x : ExceptionTableEntry) (suf : List ExceptionTableEntry) (hsplit : c.exceptionTable.toList = pre ++ x :: suf)
    (hpass : ∀ z ∈ pre, covers z pc = false ∨ (z.catchType ≠ 0 ∧ ∃ nm : String, (Cond.classLink own z.catchType nm).before args s = true ∧ va_Nc E nm s)) (hx : covers x pc = true) (h0 : x.catchType ≠ 0)
    (hlink : (Cond.classLink own x.catchType name).before args s = true) (hcast : (Cond.castable E name).before args s = true) (hcell : H[q]? = some ce) (hv : ce.vm = .none) (hcl : s.vm.findClass E = some ce.cls)
    (kk : W p l e R s m args below meth c H locs cells slots Q (F0 m x.handlerPc ls [.ref q])) : vx_W p l e R s m args below meth c H locs cells slots Q (F0 m pc ls rest) q := by
  intro T hT X
  have hpl : e.platform.magicAccessors = ({} : Platform).magicAccessors := by rw [X.admits.platform]
  obtain ⟨c3, c4, hc3, hc4, hasg⟩ := Cond.castable_spec hcast
  cases Option.some.inj (hc3.symm.trans hcl)
  obtain ⟨c5, hc5, hcl5⟩ := Cond.classLink_spec hown hlink e.platform hpl
  cases Option.some.inj (hc4.symm.trans hc5)
  obtain ⟨vm', X', st⟩ := X.thenCaughtThrough q (g := F0 m pc ls rest) rfl (Steps.refl _) (by rw [hT]; exact hcell) (by rw [hv]; rfl) (by obtain ⟨k9, h9, -⟩ := Vm.findClass_spec hcl; exact ⟨k9, h9⟩) pre x suf hsplit
    (fun z hz => by
      rcases hpass z hz with h | ⟨hz0, nm, hl1, hn1⟩
      · exact Or.inl h
      · obtain ⟨c6, hc6, hcl6⟩ := Cond.classLink_spec hown hl1 e.platform hpl
        obtain ⟨a8, b8, h1, h2, h3⟩ := hn1
        cases Option.some.inj (h1.symm.trans hcl)
        cases Option.some.inj (h2.symm.trans hc6)
        exact Or.inr ⟨hz0, _, hcl6, h3⟩) hx (Or.inr ⟨h0, c4, hcl5, hasg⟩)
  obtain ⟨t, a1, b1⟩ := kk (T.setVm vm') hT X'
  exact ⟨t, st.trans a1, b1⟩
end Rows
section Ends
variable {p : Program} {l : Launch} {e : Env} {R : Room} {s : State} {m : MethodId} {args : Array Value} {below : List Frame} {meth : Method} {c : Code} {H : Heap} {locs : List Loc} {cells slots : Nat} {Q : State → Prop}
variable {mc ms : Nat} {free : Addr → Prop} {A0 A1 : Nat → Prop} {H0 : Heap} {a : Array Value} {ls : Array Slot} {st0 rest : List Value}
variable {Qc : Array Value → State → Outcome → State → Prop} {XC : String → State → State → Prop}
/-- what a body that may throw owes at its end -/
def vx_MQ (below : List Frame) (Qc : Array Value → State → Outcome → State → Prop) (XC : String → State → State → Prop) (a : Array Value) (s : State) (mc ms : Nat) (free : Addr → Prop) : State → Prop := fun t =>
  ∃ o, t.status = .running ∧ Ended t below o ∧ vx_Q Qc XC mc ms free a s o t
theorem vx_ret {g : JFrame} {mc ms : Nat} (k : W p l e R s m args below meth c H locs cells slots (MQ below Qc args s mc ms free) g) : W p l e R s m args below meth c H locs cells slots (vx_MQ below Qc XC args s mc ms free) g := by
  intro T hT X
  obtain ⟨t, a1, o, b1, b2, b3, b4⟩ := k T hT X
  exact ⟨t, a1, o, b1, b2, Or.inl ⟨b3, b4⟩⟩
/-- not caught here: it goes on to the caller -/
theorem vx_widen {g : JFrame} {q : Addr} {k n : Nat} (h1 : cells ≤ k) (h2 : slots ≤ n) (kk : vx_W p l e R s m args below meth c H locs k n Q g q) : vx_W p l e R s m args below meth c H locs cells slots Q g q := fun T hT X => kk T hT (stand_widen X h1 h2)
theorem vx_out {pc : Nat} {E : String} {ce : Cell} {q : Addr} {mc ms : Nat} (hout : ∀ x ∈ c.exceptionTable.toList, covers x pc = false) (hlocks : meth.locks = false) (hcell : H[q]? = some ce) (hv : ce.vm = .none) (hcl : s.vm.findClass E = some ce.cls)
    (hx : ∀ t : State, t.heap = H → s.vm.Alike t.vm → XC E s t) (hf : ∀ z ∈ locs, free z.base) (hc : cells ≤ mc) (hs : slots ≤ ms) :
    vx_W p l e R s m args below meth c H locs cells slots (vx_MQ below Qc XC args s mc ms free) (F0 m pc ls rest) q := by
  intro T hT X
  obtain ⟨st1, hrun, hend, hW, hsm⟩ := X.leaveThrown q (g := F0 m pc ls rest) rfl rfl rfl hout hlocks
  have hcell9 : (T.setFrames (.throwing q :: below)).heap[q]? = some ce := by
    show T.heap[q]? = some ce
    rw [hT]; exact hcell
  exact ⟨_, st1, .threw q, hrun, hend, Or.inr ⟨q, rfl, E, ce, locs, hx _ hT hW.alike, hcell9, hv, hcl, hW, hsm.mono hc hs, hf⟩⟩
theorem vx_frame {U : State} {k n : Nat} (h : s.sameButNew ({ U with vm := s.vm } : State) locs k n) : s.heap.size ≤ U.heap.size ∧ ∀ q : Nat, q < s.heap.size → (∀ z ∈ locs, z.base ≠ q) → U.heap[q]? = s.heap[q]? := by
  obtain ⟨-, h2, -, -, -, h6⟩ := h
  refine ⟨h2, fun q hq hz => ?_⟩
  obtain ⟨c9, e1, e2, e3, e4⟩ := h6 q _ (Array.getElem?_eq_getElem hq)
  have hs : c9.slots = (s.heap[q]).slots := Array.ext_getElem? fun i => e4 i fun hm => hz _ hm rfl
  have h9 : c9 = s.heap[q] := by
    rw [hs] at e2
    exact e2
  have e5 : U.heap[q]? = some c9 := e1
  rw [e5, h9, Array.getElem?_eq_getElem hq]
/-- the words of a throw but the four that speak of the heap -/
def vx_no (w : Cond) : Bool := decide (w ≠ .isRef (.static Bundle.tN "UNASSIGNED_STACK" Bundle.steD)) && decide (w ≠ .isRef (.static Bundle.tN "SUPPRESSED_SENTINEL" Bundle.listD)) && decide (w ≠ .laysStatic Bundle.tN "UNASSIGNED_STACK" Bundle.steD) && decide (w ≠ .laysStatic Bundle.tN "SUPPRESSED_SENTINEL" Bundle.listD)
def vx_at0 (own : String) (ic : Nat) (X : String) (names : List String) : List Cond := (Bundle.ownAtoms0 own ic X names).filter vx_no
def vx_atS (own : String) (ic : Nat) (X : String) (names : List String) : List Cond := (Bundle.ownAtoms own ic X names).filter vx_no
/-- a word that the tables alone decide, or a good one -/
def vx_ot (w : Cond) : Bool := w.onTables || goodWord w
theorem vx_ot_at {args a' : Array Value} {s U : State} {w : Cond} (hW : s.WarmedH U.vm) (hvm : s.vm = U.vm) (hg : vx_ot w = true) (h : w.before args s = true) : w.before a' U = true := by
  simp only [vx_ot, Bool.or_eq_true] at hg
  rcases hg with hg | hg
  · exact va_tabs hg hvm h
  · exact word_at hW (good_of_word hg) h
/-- a list's words: the good ones out of the method's own list, the others by premises of their own -/
theorem vx_hat {args : Array Value} {s : State} {L B : List Cond} (h1 : ∀ w ∈ L.filter goodWord, w.before args s = true) (h2 : ∀ w ∈ L.filter (fun w => !goodWord w), w ∈ B) (h3 : ∀ w ∈ B, w.before args s = true) : ∀ w ∈ L, w.before args s = true := by
  intro w hw
  by_cases g : goodWord w = true
  · exact h1 w (List.mem_filter.mpr ⟨hw, g⟩)
  · refine h3 w (h2 w (List.mem_filter.mpr ⟨hw, ?_⟩))
    show (!goodWord w) = true
    cases hgw : goodWord w
    · rfl
    · exact absurd hgw g
theorem vx_c {args : Array Value} {s : State} {w : Cond} {B : List Cond} (h : w.before args s = true) (t : ∀ w ∈ B, w.before args s = true) : ∀ w' ∈ w :: B, w'.before args s = true := fun w' h' => (List.mem_cons.mp h').elim (fun e => by rw [e]; exact h) (t w')
theorem vx_n {args : Array Value} {s : State} : ∀ w ∈ ([] : List Cond), w.before args s = true := fun _ h => nomatch h
theorem vx_own {args : Array Value} {s : State} {L : List Cond} (h1 : ∀ w ∈ L.filter vx_no, w.before args s = true)
    (hU : (Cond.isRef (.static Bundle.tN "UNASSIGNED_STACK" Bundle.steD)).before args s = true) (hN : (Cond.isRef (.static Bundle.tN "SUPPRESSED_SENTINEL" Bundle.listD)).before args s = true)
    (lU : (Cond.laysStatic Bundle.tN "UNASSIGNED_STACK" Bundle.steD).before args s = true) (lN : (Cond.laysStatic Bundle.tN "SUPPRESSED_SENTINEL" Bundle.listD).before args s = true) : ∀ w ∈ L, w.before args s = true := by
  intro w hw
  by_cases e1 : w = .isRef (.static Bundle.tN "UNASSIGNED_STACK" Bundle.steD)
  · rw [e1]; exact hU
  · by_cases e2 : w = .isRef (.static Bundle.tN "SUPPRESSED_SENTINEL" Bundle.listD)
    · rw [e2]; exact hN
    · by_cases e3 : w = .laysStatic Bundle.tN "UNASSIGNED_STACK" Bundle.steD
      · rw [e3]; exact lU
      · by_cases e4 : w = .laysStatic Bundle.tN "SUPPRESSED_SENTINEL" Bundle.listD
        · rw [e4]; exact lN
        · exact h1 w (List.mem_filter.mpr ⟨hw, by unfold vx_no; rw [decide_eq_true e1, decide_eq_true e2, decide_eq_true e3, decide_eq_true e4]; rfl⟩)
/-- where a static field lies, its class's statics cell in H -/
def vx_L (C n d : String) (A : Nat → Prop) (U : State) (H : Heap) : Prop := ∃ (c : ClassId) (k : Class) (i : Nat) (f : Field) (a : Nat) (cell : Cell), U.vm.findClass C = some c ∧ U.fieldFound? C n d = some (c, k, i, f) ∧ f.isStatic = true ∧ k.statics = some a ∧ H[a]? = some cell ∧ cell.vm.isStatics = true ∧ cell.cls = c ∧ f.slot < cell.slots.size ∧ k.staticTypes[f.slot]? = some f.type ∧ ¬ A a
theorem vx_L.moved {C n d : String} {A : Nat → Prop} {u U : State} {H : Heap} (hvm : u.vm.Alike U.vm) (h : vx_L C n d A u H) : vx_L C n d A U H := by
  obtain ⟨c, k, i, f, a, cell, h1, h2, h3, h4, h5, h6, h7, h8, h9, h10⟩ := h
  obtain ⟨k', hi', he⟩ := State.fieldFound?_setVm hvm h2
  exact ⟨c, k', i, f, a, cell, by rw [hvm.findClass]; exact h1, hi', h3, by rw [he]; exact h4, h5, h6, h7, h8, by rw [he]; exact h9, h10⟩
theorem vx_L.kept {C n d : String} {A : Nat → Prop} {U : State} {H H1 : Heap} (h : vx_L C n d A U H) (hq : ∀ a : Nat, a < H.size → ¬ A a → H1[a]? = H[a]?) : vx_L C n d A U H1 := by
  obtain ⟨c, k, i, f, a, cell, h1, h2, h3, h4, h5, h6, h7, h8, h9, h10⟩ := h
  exact ⟨c, k, i, f, a, cell, h1, h2, h3, h4, by rw [hq a (Array.getElem?_eq_some_iff.mp h5).1 h10]; exact h5, h6, h7, h8, h9, h10⟩
theorem vx_L.narrow {C n d : String} {A B : Nat → Prop} {U : State} {H : Heap} (h : vx_L C n d A U H) (hAB : ∀ q, B q → A q) : vx_L C n d B U H := by
  obtain ⟨c, k, i, f, a, cell, h1, h2, h3, h4, h5, h6, h7, h8, h9, h10⟩ := h
  exact ⟨c, k, i, f, a, cell, h1, h2, h3, h4, h5, h6, h7, h8, h9, fun z => h10 (hAB _ z)⟩
theorem vx_L.word {C n d : String} {A : Nat → Prop} {s : State} {args : Array Value} (h : vx_L C n d A s s.heap) : (Cond.laysStatic C n d).before args s = true := by
  obtain ⟨c, k, i, f, a, cell, h1, h2, h3, h4, h5, h6, h7, h8, h9, -⟩ := h
  show (Cond.laysStatic C n d).holds args s none s [] = true
  exact Cond.laysStatic_of h1 h2 h3 h4 h5 h6 h7 h8 h9
/-- .. and what it holds: null or some reference -/
def vx_Zq (C n d : String) (A : Nat → Prop) (U : State) (H : Heap) : Prop := va_Zq C n d A U H ∧ vx_L C n d A U H
theorem vx_Zq.moved {C n d : String} {A : Nat → Prop} {u U : State} {H : Heap} (hvm : u.vm.Alike U.vm) (h : vx_Zq C n d A u H) : vx_Zq C n d A U H := ⟨va_Zq.moved hvm h.1, vx_L.moved hvm h.2⟩
theorem vx_Zq.kept {C n d : String} {A : Nat → Prop} {U : State} {H H1 : Heap} (h : vx_Zq C n d A U H) (hq : ∀ a : Nat, a < H.size → ¬ A a → H1[a]? = H[a]?) : vx_Zq C n d A U H1 := ⟨va_Zq.kept h.1 hq, vx_L.kept h.2 hq⟩
theorem vx_Zq.narrow {C n d : String} {A B : Nat → Prop} {U : State} {H : Heap} (h : vx_Zq C n d A U H) (hAB : ∀ q, B q → A q) : vx_Zq C n d B U H := ⟨va_Zq.narrow h.1 hAB, vx_L.narrow h.2 hAB⟩
theorem vx_Zqof {args : Array Value} {s : State} {C n d : String} {A : Nat → Prop} (hl : (Cond.laysStatic C n d).before args s = true) (hini : (Cond.initialized C).before args s = true) (h : (Cond.isRef (.static C n d)).before args s = true) (hA : ∀ a : Nat, a < s.heap.size → ¬ A a) : vx_Zq C n d A s s.heap := by
  refine ⟨va_Zqof hl hini h hA, ?_⟩
  obtain ⟨c, k, i, f, a, cell, h1, h2, h3, h4, h5, h6, h7, h8, h9⟩ := Cond.laysStatic_spec hl
  exact ⟨c, k, i, f, a, cell, h1, h2, h3, h4, h5, h6, h7, h8, h9, hA a (Array.getElem?_eq_some_iff.mp h5).1⟩
theorem vx_isRef {C n d : String} {v : Value} {A : Nat → Prop} {s : State} {args : Array Value} (h : va_Z C n d v A s s.heap) (hv : v.isRef = true) : (Cond.isRef (.static C n d)).before args s = true := by
  obtain ⟨cf, kf, fi, f, a, cell, h1, h2, h3, h4, h5, h6, h7, -⟩ := h
  have he : (Term.static C n d).eval args s none [] s = some v := by
    simp [Term.eval, State.fieldNamed?, h1, h2, h4, h5, h6, h7]
  simp only [Cond.before, Cond.holds, Cond.value, he]
  cases v <;> simp_all [Value.isRef]
theorem vx_isRefq {C n d : String} {A : Nat → Prop} {s : State} {args : Array Value} (h : va_Zq C n d A s s.heap) : (Cond.isRef (.static C n d)).before args s = true := by
  rcases h with h | ⟨t, h⟩
  · exact vx_isRef h rfl
  · exact vx_isRef h rfl
/-- the same frame, seen from here: as if the method were called anew in this heap -/
theorem vx_rebase {T : State} (X : Stand p l e R s m args below meth c T locs cells slots) {R' : Room} (hf : R'.frames ≤ R.frames) (hl : R'.locals ≤ R.locals) (hc : cells + R'.cells ≤ R.cells) (hs : slots + R'.slots ≤ R.slots) :
    Stand p l e R' ((T.setVm s.vm).setFrames (.invoking m args :: below)) m args below meth c T [] 0 0 := by
  have htop : (T.setVm s.vm).topJava?.isSome := X.here.top
  have hF : ((T.setVm s.vm).setFrames (.invoking m args :: below)).frames = .invoking m args :: below := State.frames_setFrames _ (State.cur_lt_of_top htop)
  obtain ⟨g₀, hg0⟩ := Option.isSome_iff_exists.mp htop
  obtain ⟨r, hr⟩ := State.topJava?_eq_some.mp hg0
  have hl9 : e.platform.stackLimits (T.setVm s.vm).me = e.platform.stackLimits s.me := X.limits
  have hb9 : (T.setVm s.vm).me.stackBytes = s.me.stackBytes := X.bytes
  refine ⟨X.admits, X.cas, X.clock, hF, ?_, X.hears, X.method, X.code, X.here, X.tail, X.warmed, ?_, ?_, ?_⟩
  · have h := X.room
    have hU : ((T.setVm s.vm).setFrames (.invoking m args :: below)).localsInUse = s.localsInUse := by
      rw [State.localsInUse_invoking hF (meth := meth) (c := c) X.method X.code, State.localsInUse_invoking X.frames X.method X.code]
    simp only [State.hasRoom, Bool.and_eq_true, decide_eq_true_eq] at h ⊢
    obtain ⟨⟨⟨⟨h1, h2, h3, h4, h5, h6⟩, h7⟩, h8⟩, h9⟩ := h
    rw [X.frames, List.length_cons] at h2 h3
    have q1 := X.heapSize
    have q2 := X.used
    simp only [hF, hU, List.length_cons, State.stackLimits_setFrames, State.stackBytes_setFrames, hl9, hb9]
    refine ⟨⟨⟨⟨by omega, by omega, by omega, by omega, by omega, h6⟩, ?_⟩, ?_⟩, X.book⟩
    · show T.heap.size + R'.cells ≤ e.platform.maxCells
      omega
    · show T.slotsUsed + R'.slots ≤ e.platform.maxSlots
      omega
  · rw [State.stackLimits_setFrames]; rfl
  · rw [State.stackBytes_setFrames]; rfl
  · refine ⟨?_, Nat.le_refl _, Nat.le_refl _, ?_, ?_, fun a c9 h9 => ⟨c9, h9, rfl, rfl, fun _ _ => rfl⟩⟩
    · obtain ⟨t, ht, -⟩ := State.frames_cons hr
      show T.setVm s.vm = { ((T.setVm s.vm).setFrames (.invoking m args :: below)).setFrames (T.setVm s.vm).frames with heap := T.heap, slotsUsed := T.slotsUsed }
      rw [State.setFrames_setFrames, State.setFrames_self ht]
      rfl
    · show T.slotsUsed = T.slotsUsed + ((T.heap.toList.drop T.heap.size).map (·.slots.size)).sum
      rw [List.drop_eq_nil_of_le (Nat.le_of_eq Array.length_toList)]
      rfl
    · show ((T.heap.toList.drop T.heap.size).map (·.slots.size)).sum ≤ 0
      rw [List.drop_eq_nil_of_le (Nat.le_of_eq Array.length_toList)]
      exact Nat.le_refl _
/-- 'throw new E()': new; dup; invokespecial; athrow -/
theorem vx_throw0 {cc : ByteArray} {pc : Nat} (hexec : p.tables.exec = Jvm.exec) (hb : c.code = cc) (hl : l.stackTraces = false) {own cls : String} {names : List String} {ik ic mc ms : Nat} {A : Nat → Prop}
    (hown : s.vm.findClass own = some m.cls) (hcls : Bundle.fit cls = true) (hnames : ∀ n ∈ names, Bundle.fit n = true)
    (hk : (Cond.classLink own ik cls).before args s = true) (hini : (Cond.initialized cls).before args s = true) (hat : ∀ w ∈ vx_at0 own ic cls names, w.before args s = true)
    (hgood : ∀ w ∈ Cond.classLink own ik cls :: Cond.initialized cls :: vx_at0 own ic cls names, vx_ot w = true)
    (hU : vx_Zq Bundle.tN "UNASSIGNED_STACK" Bundle.steD A s s.heap) (hN : vx_Zq Bundle.tN "SUPPRESSED_SENTINEL" Bundle.listD A s s.heap) (hS : va_S A s.heap H locs) (hsize : ls.size = c.maxLocals)
    (d0 : decode cc pc = .ok (.new ik, 3)) (d3 : decode cc (pc + 3) = .ok (.dup, 1)) (d4 : decode cc (pc + 4) = .ok (.invokespecial ic, 3)) (d7 : decode cc (pc + 7) = .ok (.athrow, 1))
    (hout : ∀ x ∈ c.exceptionTable.toList, covers x (pc + 7) = false)
    (hRframes : names.length + 3 < R.frames) (hRlocals : (rest.map fun v => v.category).sum + (13 * (names.length + 1) + 42) ≤ R.locals) (hRcells : cells + 1 ≤ R.cells) (hRslots : slots + 6 ≤ R.slots) (hlocks : meth.locks = false)
    (hx : ∀ t : State, s.vm.Alike t.vm → H.size ≤ t.heap.size → (∀ q : Nat, q < H.size → t.heap[q]? = H[q]?) → XC cls s t)
    (hf : ∀ z ∈ locs, free z.base) (hc : cells + 1 ≤ mc) (hs : slots + 6 ≤ ms) :
    W p l e R s m args below meth c H locs cells slots (vx_MQ below Qc XC args s mc ms free) (F0 m pc ls rest) := by
  intro T hT X
  have htr : e.platform.stackTraces = false := (show e.platform.stackTraces = l.stackTraces by rw [X.admits.platform]).trans hl
  have Y := vx_rebase X (R' := { frames := R.frames, locals := R.locals, cells := 1, slots := 6 }) (Nat.le_refl _) (Nat.le_refl _) hRcells hRslots
  obtain ⟨s', hA⟩ : ∃ z, z = (T.setVm s.vm).setFrames (.invoking m args :: below) := ⟨_, rfl⟩
  rw [← hA] at Y
  have hvm : s'.vm = s.vm := by rw [hA]; rfl
  have hhp : s'.heap = H := by rw [hA]; exact hT
  have hW0 : s.WarmedH s'.vm := by rw [hvm]; exact State.WarmedH.refl s
  have hat' : ∀ w ∈ vx_at0 own ic cls names, w.before args s' = true := fun w hw => vx_ot_at hW0 hvm.symm (hgood w (List.mem_cons_of_mem _ (List.mem_cons_of_mem _ hw))) (hat w hw)
  have hk' : (Cond.classLink own ik cls).before args s' = true := vx_ot_at hW0 hvm.symm (hgood _ List.mem_cons_self) hk
  have hini' : (Cond.initialized cls).before args s' = true := vx_ot_at hW0 hvm.symm (hgood _ (List.mem_cons_of_mem _ List.mem_cons_self)) hini
  have hU' : vx_Zq Bundle.tN "UNASSIGNED_STACK" Bundle.steD A s' s'.heap := by rw [hhp]; exact vx_Zq.moved hW0.alike (hU.kept hS.2.1)
  have hN' : vx_Zq Bundle.tN "SUPPRESSED_SENTINEL" Bundle.listD A s' s'.heap := by rw [hhp]; exact vx_Zq.moved hW0.alike (hN.kept hS.2.1)
  have h : ∀ w ∈ Bundle.ownAtoms0 own ic cls names, w.before args s' = true := vx_own hat' (vx_isRefq hU'.1) (vx_isRefq hN'.1) hU'.2.word hN'.2.word
  have hown' : s'.vm.findClass own = some m.cls := by rw [hvm]; exact hown
  have hins : (Cond.instantiable cls 6).before args s' = true := h _ (by simp [Bundle.ownAtoms0])
  obtain ⟨vm₁, cX, kX, hfX, hkX, -, -, X₁, st1⟩ := Y.newCold hexec (own := own) (C := cls) (index := ik) (n := 6) hown' hk' hins hini'
    (g := F0 m pc ls rest) rfl (by rw [hb]; exact d0) (Nat.le_refl _) (Nat.le_refl _)
  generalize hT1 : (T.setVm vm₁).pushCell { cls := cX, slots := kX.instanceTypes.map defaultValue, vm := .none } = T1 at X₁ st1
  have hcat : (Value.ref T.heap.size).category = 1 := rfl
  have hcellA : T1.heap[T.heap.size]? = some (freshCell cX kX) := by rw [← hT1]; exact State.heap_pushCell_size _ _
  have d3' : decode c.code (pc + 3) = .ok (.dup, 1) := by rw [hb]; exact d3
  obtain ⟨U, hsteps, hrun, hend, hW, hsame, ce, hce, hO⟩ := X₁.ctorThrow0 hexec htr (own := own) (cls := cls) (names := names) (ic := ic) hown' hcls hnames h (fun x hx => nomatch hx) hfX hkX hcellA (by rw [hhp, hT]; exact Nat.le_refl _)
    (g := { method := m, pc := pc + 4, locals := ls, stack := .ref T.heap.size :: .ref T.heap.size :: rest, locked := none }) rfl hsize rfl rfl (rest := rest) rfl
    (by rw [hb]; exact d4) (by rw [hb]; exact d7) hout hRframes (by simp only [List.map_cons, List.sum_cons, hcat]; omega) hlocks
  obtain ⟨f1, f2⟩ := vx_frame hsame
  rw [hhp] at f1 f2
  have hWs : s.WarmedH U.vm := State.WarmedH.trans hW0 hW
  have hcl : s.vm.findClass cls = some ce.cls := by
    have h9 := hO.cls
    rw [hvm] at h9
    exact h9
  have hall : s.sameButNew ({ U with vm := s.vm } : State) locs mc ms := by
    subst hA
    obtain ⟨e1, e2⟩ := hsame
    rw [State.setFrames_setFrames] at e1
    have h2 : (T.setVm s.vm).sameButNew ({ U with vm := s.vm } : State) [] (0 + 1) (0 + 6) := ⟨e1, e2⟩
    have h3 := X.same.trans h2
    rw [List.append_nil] at h3
    exact h3.mono hc hs
  refine ⟨U, ?_, .threw T.heap.size, hrun, hend, Or.inr ⟨T.heap.size, rfl, cls, ce, locs, hx U hWs.alike f1 (fun q hq => f2 q hq (fun z hz => nomatch hz)), hce, hO.vm, hcl, hWs, hall, hf⟩⟩
  refine st1 _ ?_
  show Steps p.tables e below (T1.setTop { method := m, pc := pc + 3, locals := ls, stack := .ref T.heap.size :: rest, locked := none }) _
  jvm_step X₁.here [X₁.here.top, hexec, d3', Value.category]
  exact hsteps
/-- 'throw new E("text")': new; dup; ldc; invokespecial; athrow -/
theorem vx_throwS {cc : ByteArray} {pc : Nat} (hexec : p.tables.exec = Jvm.exec) (hb : c.code = cc) (hl : l.stackTraces = false) {own cls text : String} {names : List String} {ik is ic mc ms sa : Nat} {A : Nat → Prop}
    (hown : s.vm.findClass own = some m.cls) (hcls : Bundle.fit cls = true) (hnames : ∀ n ∈ names, Bundle.fit n = true)
    (hk : (Cond.classLink own ik cls).before args s = true) (hini : (Cond.initialized cls).before args s = true) (hstr : vk_R own is text sa s) (hat : ∀ w ∈ vx_atS own ic cls names, w.before args s = true)
    (hgood : ∀ w ∈ Cond.classLink own ik cls :: Cond.initialized cls :: vx_atS own ic cls names, vx_ot w = true)
    (hU : vx_Zq Bundle.tN "UNASSIGNED_STACK" Bundle.steD A s s.heap) (hN : vx_Zq Bundle.tN "SUPPRESSED_SENTINEL" Bundle.listD A s s.heap) (hS : va_S A s.heap H locs) (hsize : ls.size = c.maxLocals)
    (d0 : decode cc pc = .ok (.new ik, 3)) (d3 : decode cc (pc + 3) = .ok (.dup, 1)) (d4 : decode cc (pc + 4) = .ok (.ldc is, 2)) (d6 : decode cc (pc + 6) = .ok (.invokespecial ic, 3)) (d9 : decode cc (pc + 9) = .ok (.athrow, 1))
    (hout : ∀ x ∈ c.exceptionTable.toList, covers x (pc + 9) = false)
    (hRframes : names.length + 3 < R.frames) (hRlocals : (rest.map fun v => v.category).sum + (13 * (names.length + 1) + 43) ≤ R.locals) (hRcells : cells + 1 ≤ R.cells) (hRslots : slots + 6 ≤ R.slots) (hlocks : meth.locks = false)
    (hx : ∀ t : State, s.vm.Alike t.vm → H.size ≤ t.heap.size → (∀ q : Nat, q < H.size → t.heap[q]? = H[q]?) → XC cls s t)
    (hf : ∀ z ∈ locs, free z.base) (hc : cells + 1 ≤ mc) (hs : slots + 6 ≤ ms) :
    W p l e R s m args below meth c H locs cells slots (vx_MQ below Qc XC args s mc ms free) (F0 m pc ls rest) := by
  intro T hT X
  have htr : e.platform.stackTraces = false := (show e.platform.stackTraces = l.stackTraces by rw [X.admits.platform]).trans hl
  have Y := vx_rebase X (R' := { frames := R.frames, locals := R.locals, cells := 1, slots := 6 }) (Nat.le_refl _) (Nat.le_refl _) hRcells hRslots
  obtain ⟨s', hA⟩ : ∃ z, z = (T.setVm s.vm).setFrames (.invoking m args :: below) := ⟨_, rfl⟩
  rw [← hA] at Y
  have hvm : s'.vm = s.vm := by rw [hA]; rfl
  have hhp : s'.heap = H := by rw [hA]; exact hT
  have hW0 : s.WarmedH s'.vm := by rw [hvm]; exact State.WarmedH.refl s
  have hat' : ∀ w ∈ vx_atS own ic cls names, w.before args s' = true := fun w hw => vx_ot_at hW0 hvm.symm (hgood w (List.mem_cons_of_mem _ (List.mem_cons_of_mem _ hw))) (hat w hw)
  have hk' : (Cond.classLink own ik cls).before args s' = true := vx_ot_at hW0 hvm.symm (hgood _ List.mem_cons_self) hk
  have hini' : (Cond.initialized cls).before args s' = true := vx_ot_at hW0 hvm.symm (hgood _ (List.mem_cons_of_mem _ List.mem_cons_self)) hini
  have hU' : vx_Zq Bundle.tN "UNASSIGNED_STACK" Bundle.steD A s' s'.heap := by rw [hhp]; exact vx_Zq.moved hW0.alike (hU.kept hS.2.1)
  have hN' : vx_Zq Bundle.tN "SUPPRESSED_SENTINEL" Bundle.listD A s' s'.heap := by rw [hhp]; exact vx_Zq.moved hW0.alike (hN.kept hS.2.1)
  have h : ∀ w ∈ Bundle.ownAtoms own ic cls names, w.before args s' = true := vx_own hat' (vx_isRefq hU'.1) (vx_isRefq hN'.1) hU'.2.word hN'.2.word
  have hown' : s'.vm.findClass own = some m.cls := by rw [hvm]; exact hown
  have hins : (Cond.instantiable cls 6).before args s' = true := h _ (by simp [Bundle.ownAtoms])
  obtain ⟨vm₁, cX, kX, hfX, hkX, -, -, X₁, st1⟩ := Y.newCold hexec (own := own) (C := cls) (index := ik) (n := 6) hown' hk' hins hini'
    (g := F0 m pc ls rest) rfl (by rw [hb]; exact d0) (Nat.le_refl _) (Nat.le_refl _)
  generalize hT1 : (T.setVm vm₁).pushCell { cls := cX, slots := kX.instanceTypes.map defaultValue, vm := .none } = T1 at X₁ st1
  have hcat : (Value.ref T.heap.size).category = 1 := rfl
  have hcellA : T1.heap[T.heap.size]? = some (freshCell cX kX) := by rw [← hT1]; exact State.heap_pushCell_size _ _
  have d3' : decode c.code (pc + 3) = .ok (.dup, 1) := by rw [hb]; exact d3
  have d4' : decode c.code (pc + 4) = .ok (.ldc is, 2) := by rw [hb]; exact d4
  have hstr' : vk_R own is text sa s' := vk_R.warm hW0 hstr
  obtain ⟨U, hsteps, hrun, hend, hW, hsame, ce, hce, hO⟩ := X₁.ctorThrowS hexec htr (own := own) (cls := cls) (names := names) (ic := ic) hown' hcls hnames h (fun x hx => nomatch hx) hfX hkX hcellA (by rw [hhp, hT]; exact Nat.le_refl _) (msg := .ref sa) rfl
    (g := { method := m, pc := pc + 6, locals := ls, stack := .ref sa :: .ref T.heap.size :: .ref T.heap.size :: rest, locked := none }) rfl hsize rfl rfl (rest := rest) rfl
    (by rw [hb]; exact d6) (by rw [hb]; exact d9) hout hRframes (by simp only [List.map_cons, List.sum_cons, hcat]; omega) hlocks
  obtain ⟨f1, f2⟩ := vx_frame hsame
  rw [hhp] at f1 f2
  have hWs : s.WarmedH U.vm := State.WarmedH.trans hW0 hW
  have hcl : s.vm.findClass cls = some ce.cls := by
    have h9 := hO.cls
    rw [hvm] at h9
    exact h9
  have hall : s.sameButNew ({ U with vm := s.vm } : State) locs mc ms := by
    subst hA
    obtain ⟨e1, e2⟩ := hsame
    rw [State.setFrames_setFrames] at e1
    have h2 : (T.setVm s.vm).sameButNew ({ U with vm := s.vm } : State) [] (0 + 1) (0 + 6) := ⟨e1, e2⟩
    have h3 := X.same.trans h2
    rw [List.append_nil] at h3
    exact h3.mono hc hs
  refine ⟨U, ?_, .threw T.heap.size, hrun, hend, Or.inr ⟨T.heap.size, rfl, cls, ce, locs, hx U hWs.alike f1 (fun q hq => f2 q hq (fun z hz => nomatch hz)), hce, hO.vm, hcl, hWs, hall, hf⟩⟩
  refine st1 _ ?_
  show Steps p.tables e below (T1.setTop { method := m, pc := pc + 3, locals := ls, stack := .ref T.heap.size :: rest, locked := none }) _
  jvm_step X₁.here [X₁.here.top, hexec, d3', Value.category]
  exact X₁.ldcString hexec (own := own) (text := text) (index := is) (a := sa) hown' hstr'.1 hstr'.2
    (g := { method := m, pc := pc + 4, locals := ls, stack := .ref T.heap.size :: .ref T.heap.size :: rest, locked := none }) rfl d4' _ hsteps
/-- 'throw new E("text")', the text by a wide index -/
theorem vx_throwSW {cc : ByteArray} {pc : Nat} (hexec : p.tables.exec = Jvm.exec) (hb : c.code = cc) (hl : l.stackTraces = false) {own cls text : String} {names : List String} {ik is ic mc ms sa : Nat} {A : Nat → Prop}
    (hown : s.vm.findClass own = some m.cls) (hcls : Bundle.fit cls = true) (hnames : ∀ n ∈ names, Bundle.fit n = true)
    (hk : (Cond.classLink own ik cls).before args s = true) (hini : (Cond.initialized cls).before args s = true) (hstr : vk_R own is text sa s) (hat : ∀ w ∈ vx_atS own ic cls names, w.before args s = true)
    (hgood : ∀ w ∈ Cond.classLink own ik cls :: Cond.initialized cls :: vx_atS own ic cls names, vx_ot w = true)
    (hU : vx_Zq Bundle.tN "UNASSIGNED_STACK" Bundle.steD A s s.heap) (hN : vx_Zq Bundle.tN "SUPPRESSED_SENTINEL" Bundle.listD A s s.heap) (hS : va_S A s.heap H locs) (hsize : ls.size = c.maxLocals)
    (d0 : decode cc pc = .ok (.new ik, 3)) (d3 : decode cc (pc + 3) = .ok (.dup, 1)) (d4 : decode cc (pc + 4) = .ok (.ldc_w is, 3)) (d7 : decode cc (pc + 7) = .ok (.invokespecial ic, 3)) (d10 : decode cc (pc + 10) = .ok (.athrow, 1))
    (hout : ∀ x ∈ c.exceptionTable.toList, covers x (pc + 10) = false)
    (hRframes : names.length + 3 < R.frames) (hRlocals : (rest.map fun v => v.category).sum + (13 * (names.length + 1) + 43) ≤ R.locals) (hRcells : cells + 1 ≤ R.cells) (hRslots : slots + 6 ≤ R.slots) (hlocks : meth.locks = false)
    (hx : ∀ t : State, s.vm.Alike t.vm → H.size ≤ t.heap.size → (∀ q : Nat, q < H.size → t.heap[q]? = H[q]?) → XC cls s t)
    (hf : ∀ z ∈ locs, free z.base) (hc : cells + 1 ≤ mc) (hs : slots + 6 ≤ ms) :
    W p l e R s m args below meth c H locs cells slots (vx_MQ below Qc XC args s mc ms free) (F0 m pc ls rest) := by
  intro T hT X
  have htr : e.platform.stackTraces = false := (show e.platform.stackTraces = l.stackTraces by rw [X.admits.platform]).trans hl
  have Y := vx_rebase X (R' := { frames := R.frames, locals := R.locals, cells := 1, slots := 6 }) (Nat.le_refl _) (Nat.le_refl _) hRcells hRslots
  obtain ⟨s', hA⟩ : ∃ z, z = (T.setVm s.vm).setFrames (.invoking m args :: below) := ⟨_, rfl⟩
  rw [← hA] at Y
  have hvm : s'.vm = s.vm := by rw [hA]; rfl
  have hhp : s'.heap = H := by rw [hA]; exact hT
  have hW0 : s.WarmedH s'.vm := by rw [hvm]; exact State.WarmedH.refl s
  have hat' : ∀ w ∈ vx_atS own ic cls names, w.before args s' = true := fun w hw => vx_ot_at hW0 hvm.symm (hgood w (List.mem_cons_of_mem _ (List.mem_cons_of_mem _ hw))) (hat w hw)
  have hk' : (Cond.classLink own ik cls).before args s' = true := vx_ot_at hW0 hvm.symm (hgood _ List.mem_cons_self) hk
  have hini' : (Cond.initialized cls).before args s' = true := vx_ot_at hW0 hvm.symm (hgood _ (List.mem_cons_of_mem _ List.mem_cons_self)) hini
  have hU' : vx_Zq Bundle.tN "UNASSIGNED_STACK" Bundle.steD A s' s'.heap := by rw [hhp]; exact vx_Zq.moved hW0.alike (hU.kept hS.2.1)
  have hN' : vx_Zq Bundle.tN "SUPPRESSED_SENTINEL" Bundle.listD A s' s'.heap := by rw [hhp]; exact vx_Zq.moved hW0.alike (hN.kept hS.2.1)
  have h : ∀ w ∈ Bundle.ownAtoms own ic cls names, w.before args s' = true := vx_own hat' (vx_isRefq hU'.1) (vx_isRefq hN'.1) hU'.2.word hN'.2.word
  have hown' : s'.vm.findClass own = some m.cls := by rw [hvm]; exact hown
  have hins : (Cond.instantiable cls 6).before args s' = true := h _ (by simp [Bundle.ownAtoms])
  obtain ⟨vm₁, cX, kX, hfX, hkX, -, -, X₁, st1⟩ := Y.newCold hexec (own := own) (C := cls) (index := ik) (n := 6) hown' hk' hins hini'
    (g := F0 m pc ls rest) rfl (by rw [hb]; exact d0) (Nat.le_refl _) (Nat.le_refl _)
  generalize hT1 : (T.setVm vm₁).pushCell { cls := cX, slots := kX.instanceTypes.map defaultValue, vm := .none } = T1 at X₁ st1
  have hcat : (Value.ref T.heap.size).category = 1 := rfl
  have hcellA : T1.heap[T.heap.size]? = some (freshCell cX kX) := by rw [← hT1]; exact State.heap_pushCell_size _ _
  have d3' : decode c.code (pc + 3) = .ok (.dup, 1) := by rw [hb]; exact d3
  have d4' : decode c.code (pc + 4) = .ok (.ldc_w is, 3) := by rw [hb]; exact d4
  have hstr' : vk_R own is text sa s' := vk_R.warm hW0 hstr
  obtain ⟨U, hsteps, hrun, hend, hW, hsame, ce, hce, hO⟩ := X₁.ctorThrowS hexec htr (own := own) (cls := cls) (names := names) (ic := ic) hown' hcls hnames h (fun x hx => nomatch hx) hfX hkX hcellA (by rw [hhp, hT]; exact Nat.le_refl _) (msg := .ref sa) rfl
    (g := { method := m, pc := pc + 7, locals := ls, stack := .ref sa :: .ref T.heap.size :: .ref T.heap.size :: rest, locked := none }) rfl hsize rfl rfl (rest := rest) rfl
    (by rw [hb]; exact d7) (by rw [hb]; exact d10) hout hRframes (by simp only [List.map_cons, List.sum_cons, hcat]; omega) hlocks
  obtain ⟨f1, f2⟩ := vx_frame hsame
  rw [hhp] at f1 f2
  have hWs : s.WarmedH U.vm := State.WarmedH.trans hW0 hW
  have hcl : s.vm.findClass cls = some ce.cls := by
    have h9 := hO.cls
    rw [hvm] at h9
    exact h9
  have hall : s.sameButNew ({ U with vm := s.vm } : State) locs mc ms := by
    subst hA
    obtain ⟨e1, e2⟩ := hsame
    rw [State.setFrames_setFrames] at e1
    have h2 : (T.setVm s.vm).sameButNew ({ U with vm := s.vm } : State) [] (0 + 1) (0 + 6) := ⟨e1, e2⟩
    have h3 := X.same.trans h2
    rw [List.append_nil] at h3
    exact h3.mono hc hs
  refine ⟨U, ?_, .threw T.heap.size, hrun, hend, Or.inr ⟨T.heap.size, rfl, cls, ce, locs, hx U hWs.alike f1 (fun q hq => f2 q hq (fun z hz => nomatch hz)), hce, hO.vm, hcl, hWs, hall, hf⟩⟩
  refine st1 _ ?_
  show Steps p.tables e below (T1.setTop { method := m, pc := pc + 3, locals := ls, stack := .ref T.heap.size :: rest, locked := none }) _
  jvm_step X₁.here [X₁.here.top, hexec, d3', Value.category]
  exact X₁.ldcStringW hexec (own := own) (text := text) (index := is) (a := sa) hown' hstr'.1 hstr'.2
    (g := { method := m, pc := pc + 4, locals := ls, stack := .ref T.heap.size :: .ref T.heap.size :: rest, locked := none }) rfl d4' _ hsteps
end Ends
section Bodies
variable {l : Launch}
theorem vx_ofW {y : MethodName} {ws ws' : List Cond} {rm : Room} {Pc : Array Value → State → Prop} {Qc : Array Value → State → Outcome → State → Prop} {XC : String → State → State → Prop} {mc ms : Nat} {free : Addr → Prop} {cc : ByteArray} {maxL : Nat} {ret : Option FieldType}
    (hy : plainName y.cls = true) (hw : ws = Cond.code y cc maxL ret :: ws')
    (body : ∀ p e s m args below meth c s₁, BodyLoose p l y (headSpec ws rm) cc maxL ret e s m args below meth c s₁ → c.maxLocals = maxL → (∀ x ∈ c.exceptionTable.toList, False) → Pc args s →
      W p l e (headSpec ws rm).room s m args below meth c s.heap [] 0 0 (vx_MQ below Qc XC args s mc ms free) (entryFrame m args maxL)) : vx_Met l y ws rm Pc Qc XC mc ms free := by
  refine MetFree.of_bodyS (code := cc) (maxLocals := maxL) (ret := ret) hy ?_ ?_
  · intro args s m h hn
    obtain ⟨meth, c, h1, h2, h3, h4, h5, h6, -, -⟩ := Cond.code_spec hn (atoms_spec (ws := ws) h _ (by rw [hw]; exact List.mem_cons_self))
    exact ⟨meth, c, h1, h2, h3, h4, h5, h6⟩
  · intro p e s m args below meth c s₁ B hml hP _
    have hh0 : s₁.heap = s.heap := by rw [B.state]; rfl
    have ht : ∀ x ∈ c.exceptionTable.toList, False := by
      obtain ⟨meth9, c9, h1, h2, -, -, -, -, h7, -⟩ := Cond.code_spec B.named (atoms_spec (ws := ws) B.pre _ (by rw [hw]; exact List.mem_cons_self))
      cases Option.some.inj (h1.symm.trans B.method)
      cases Option.some.inj (h2.symm.trans (Stand.of_body B).code)
      intro x hx
      rw [Array.isEmpty_iff.mp h7] at hx
      cases hx
    obtain ⟨t, a1, o, b1, b2, b3⟩ := body p e s m args below meth c s₁ B hml ht hP s₁ hh0 (Stand.of_body B)
    exact ⟨t, o, a1, b1, b2, b3⟩
/-- the table of a body with handlers -/
theorem vx_table {p : Program} {x y : MethodName} {S : Spec} {cc bytes : ByteArray} {maxL maxL' : Nat} {ret ret' : Option FieldType} {e : Env} {s s₁ : State} {m : MethodId} {args : Array Value} {below : List Frame} {meth : Method} {c : Code} {hh : List (Nat × Nat × Nat × Nat)}
    (B : BodyLoose p l y S cc maxL ret e s m args below meth c s₁) (h : (Cond.codeWith y bytes maxL' ret' hh).before args s = true) : c.exceptionTable.toList = tableOf hh := by
  obtain ⟨m9, meth9, c9, hn9, h1, h2, -, -, h6, -⟩ := Cond.codeWith_spec h
  cases Option.some.inj (hn9.symm.trans B.named)
  cases Option.some.inj (h1.symm.trans B.method)
  cases Option.some.inj (h2.symm.trans (Stand.of_body B).code)
  rw [← h6, table_eq]
end Bodies
end VXA
/-! ===== END ===== -/
/-! ===== BEGIN a static call of a method with an exception table ===== -/
section VXS
variable {p : Program} {l : Launch} {e : Env} {R : Room} {s : State} {m : MethodId} {args : Array Value} {below : List Frame} {meth : Method} {c : Code} {T : State} {H : Heap} {locs : List Loc} {cells slots : Nat}
abbrev vx_CSW (R : Room) (s : State) (args : Array Value) (own : String) (index : Nat) (y : MethodName) (bytes : ByteArray) (maxL : Nat) (ret : Option FieldType) (hh : List (Nat × Nat × Nat × Nat)) (ws : List Cond) (rm : Room) (mc ms n : Nat) : Prop :=
  (rm.cells = mc ∧ rm.slots = ms ∧ rm.frames + 1 ≤ R.frames ∧ 8 + (maxL + 11) + rm.locals ≤ R.locals ∧ (∀ w ∈ ws, ∀ (a' : Array Value) (U : State), s.WarmedH U.vm → w.before a' U = true) ∧ Cond.codeWith y bytes maxL ret hh ∈ ws) ∧
  (Cond.codeWith y bytes maxL ret hh).before args s = true ∧ (Cond.initialized y.cls).before args s = true ∧ (y.cls ≠ "java/lang/invoke/MethodHandle" ∧ y.cls ≠ "java/lang/invoke/VarHandle") ∧
  (∀ sig, parseMethodDescriptor y.desc = some sig → n = sig.parameters.length) ∧ (Cond.methodLink own index y).before args s = true ∧ (Cond.static y).before args s = true
theorem vx_cwSW {own : String} {index maxL mc ms : Nat} {y : MethodName} {bytes : ByteArray} {ret : Option FieldType} {hh : List (Nat × Nat × Nat × Nat)} {Ts ws ws' : List Cond} {rm : Room} (n : Nat) (ht : ∀ w ∈ Ts, w.before args s = true) (hT : GoodIn Ts (va_wsS own index y ws)) (hw : ws = Cond.codeWith y bytes maxL ret hh :: ws') (hrc : rm.cells = mc) (hrs : rm.slots = ms)
    (hd : y.cls ≠ "java/lang/invoke/MethodHandle" ∧ y.cls ≠ "java/lang/invoke/VarHandle" ∧ (parseMethodDescriptor y.desc).map (fun d => d.parameters.length) = some n) (hR : rm.frames + 1 ≤ R.frames ∧ 8 + (maxL + 11) + rm.locals ≤ R.locals) :
    vx_CSW R s args own index y bytes maxL ret hh ws rm mc ms n := by
  have ok : ∀ w ∈ va_wsS own index y ws, w.before args s = true := fun w h => ht w (hT w h).1
  have hG : GoodIn Ts ws := fun w h => hT w (by unfold va_wsS; exact List.mem_append_right _ h)
  have hc : Cond.codeWith y bytes maxL ret hh ∈ ws := by rw [hw]; exact List.mem_cons_self
  refine ⟨⟨hrc, hrs, hR.1, hR.2, pay_in ht hG, hc⟩, ht _ (hG _ hc).1, ok _ (by simp [va_wsS]), ⟨hd.1, hd.2.1⟩, fun sig h => ?_, ok _ (by simp [va_wsS]), ok _ (by simp [va_wsS])⟩
  have h2 := hd.2.2
  rw [h] at h2
  exact (Option.some.inj h2).symm
theorem vx_callSW (X : Stand p l e R s m args below meth c T locs cells slots) (hexec : p.tables.exec = Jvm.exec) {own : String} {index : Nat} {y : MethodName} {bytes : ByteArray} {maxL : Nat} {ret : Option FieldType} {hh : List (Nat × Nat × Nat × Nat)}
    (hown : s.vm.findClass own = some m.cls) (hlink : (Cond.methodLink own index y).before args s = true) (hstat : (Cond.static y).before args s = true) (hinit : (Cond.initialized y.cls).before args s = true)
    (hcode : (Cond.codeWith y bytes maxL ret hh).before args s = true) (hy : y.cls ≠ "java/lang/invoke/MethodHandle" ∧ y.cls ≠ "java/lang/invoke/VarHandle")
    {W9 : Nat} {Pre : Pt → Array Value → Prop} {Post : Pt → Array Value → Option Value → Pt → Prop} (hK : Back l R p e below s args y 3 W9 Pre Post)
    {g : JFrame} (hg : g.method = m) (hsize : g.locals.size = c.maxLocals) {argsL rest : List Value} (hlen : ∀ sig, parseMethodDescriptor y.desc = some sig → argsL.length = sig.parameters.length)
    (hstack : g.stack = argsL.reverse ++ rest) (hW : 2 * g.monitorRoom + (rest.map fun v => v.category).sum ≤ W9) (hdg : decode c.code g.pc = .ok (.invokestatic index, 3))
    (hpre : ∀ vm₁, s.WarmedH vm₁ → Pre ⟨T.setVm vm₁, locs, cells, slots⟩ argsL.toArray) :
    ∃ (v : Option Value) (vm₁ : Vm) (B : Pt), s.WarmedH vm₁ ∧ Stand p l e R s m args below meth c B.U B.locs B.cells B.slots ∧ Post ⟨T.setVm vm₁, locs, cells, slots⟩ argsL.toArray v B ∧
      ∀ target, Steps p.tables e below (B.U.setTop { g with pc := g.pc + 3, stack := v.toList ++ rest }) target → Steps p.tables e below (T.setTop g) target := by
  obtain ⟨mk, methM, cM, hnamed, hmethM, -, -, -, -, -, -, hsigM⟩ := Cond.codeWith_spec hcode
  have hstatic : methM.isStatic = true := Cond.static_spec hnamed hmethM hstat
  obtain ⟨kP, hkP, -⟩ := className_of_methodNamed hnamed
  have hinitP : kP.init = .initialized := Cond.initialized_spec (findClass_of_methodNamed hnamed) hkP hinit
  obtain ⟨vm₁, X₁, hstep₁⟩ := X.invokestatic hexec hown hlink hnamed hmethM hstatic hkP hinitP hy (g := g) hg (argsL := argsL) (rest := rest) (hlen _ hsigM) hstack hdg
  obtain ⟨v, B, X', hpost, hsteps⟩ := hK m meth c ⟨T.setVm vm₁, locs, cells, slots⟩ { g with stack := rest } (.invokestatic index) mk argsL.toArray X₁ hg hsize hdg hW (X₁.named hnamed) (hpre vm₁ X₁.warmed)
  exact ⟨v, vm₁, B, X₁.warmed, X', hpost, fun target h => hstep₁ _ fun acts => by rw [doInvoke_state]; exact hsteps.trans h⟩
theorem vx_runSW {y : MethodName} {bytes cc : ByteArray} {maxL nL mc ms n index : Nat} {ret : Option FieldType} {hh : List (Nat × Nat × Nat × Nat)} {ws : List Cond} {rm : Room} {Pc : Array Value → State → Prop} {Qc : Array Value → State → Outcome → State → Prop} {free : Addr → Prop} {Ts : List Cond} {own : String} {As rest : List Value} {g : JFrame}
    (S : CallFix p m c cc nL s args Ts own) (hM : Met l y ws rm Pc Qc mc ms free) (cw : vx_CSW R s args own index y bytes maxL ret hh ws rm mc ms n) (hp : PreS s H Pc As)
    (hg : g.method = m) (hn : As.length = n) (hsize : g.locals.size = nL) (hstack : g.stack = As.reverse ++ rest) (hW : 2 * g.monitorRoom + (rest.map fun v => v.category).sum ≤ 8) (hdg : decode cc g.pc = .ok (.invokestatic index, 3)) (hf : cells + mc ≤ R.cells ∧ slots + ms ≤ R.slots) :
    va_Run p l e R s m args below meth c H locs cells slots mc ms g rest (Qc As.toArray) (free) := by
  obtain ⟨⟨hrc, hrs, hfr, hlo, hws, hcw⟩, hcode, hini, hy, hlen, hl, hstt⟩ := cw
  have hK : Back l R p e below s args y 3 8 (PreOf R mc ms Pc) (PostOf Qc mc ms free) := va_backW (hh := hh) (bytes := bytes) (maxL := maxL) (ret := ret) hM hp.1 hrc hrs hfr hlo hws hcw (fun a' U hW => word_at hW (Or.inl (by first | rfl | simp [Cond.onTables, Cond.keeps, Cond.steady])) hini)
  obtain ⟨hx, hb, hml, ho, -⟩ := S
  intro T hT X
  obtain ⟨v, vm₁, ⟨U', l2, c2, s2⟩, hW₁, X', ⟨g', mk, t, L, e1, e2, hq, h1, hL, h2, h3⟩, st⟩ := vx_callSW X hx (hh := hh) (bytes := bytes) (maxL := maxL) (ret := ret) ho hl hstt hini hcode hy hK hg (hsize.trans hml.symm) (argsL := As) (rest := rest) (fun sig h => hn.trans (hlen sig h)) hstack hW (by rw [hb]; exact hdg)
    (fun vm₁ hW₁ => ⟨hf.1, hf.2, hp.2 (T.setVm vm₁) hT hW₁⟩)
  dsimp only [Pt.U, Pt.locs, Pt.cells, Pt.slots] at X' e1 e2 h1 h2 h3 st
  subst h1; subst h2; subst h3
  exact ⟨v, (T.setVm vm₁).calling g' mk As.toArray, t, U', L, hT, X', hL, e1, e2, hq, st⟩
/-- not caught here, past rows that name other classes: it goes on to the caller -/
theorem vx_outP {p : Program} {l : Launch} {e : Env} {R : Room} {s : State} {m : MethodId} {args : Array Value} {below : List Frame} {meth : Method} {c : Code} {H : Heap} {locs : List Loc} {cells slots : Nat} {free : Addr → Prop} {ls : Array Slot} {rest : List Value} {Qc : Array Value → State → Outcome → State → Prop} {XC : String → State → State → Prop}
    {pc : Nat} {own E : String} {ce : Cell} {q : Addr} {mc ms : Nat} (hown : s.vm.findClass own = some m.cls) (hlocks : meth.locks = false)
    (hpass : ∀ z ∈ c.exceptionTable.toList, covers z pc = false ∨ (z.catchType ≠ 0 ∧ ∃ nm : String, (Cond.classLink own z.catchType nm).before args s = true ∧ va_Nc E nm s)) (hcell : H[q]? = some ce) (hv : ce.vm = .none) (hcl : s.vm.findClass E = some ce.cls)
    (hx : ∀ t : State, t.heap = H → s.vm.Alike t.vm → XC E s t) (hf : ∀ z ∈ locs, free z.base) (hc : cells ≤ mc) (hs : slots ≤ ms) :
    vx_W p l e R s m args below meth c H locs cells slots (vx_MQ below Qc XC args s mc ms free) (F0 m pc ls rest) q := by
  intro T hT X
  have hpl : e.platform.magicAccessors = ({} : Platform).magicAccessors := by rw [X.admits.platform]
  obtain ⟨vm', hW', X', st⟩ := X.outThrough hlocks q (g := F0 m pc ls rest) rfl rfl rfl (cell := ce) (by rw [hT]; exact hcell) (by rw [hv]; rfl)
    (by obtain ⟨k9, h9, -⟩ := Vm.findClass_spec hcl; exact ⟨k9, h9⟩) (fun z hz => by
      rcases hpass z hz with h | ⟨hz0, nm, hl1, hn1⟩
      · exact Or.inl h
      · obtain ⟨c6, hc6, hcl6⟩ := Cond.classLink_spec hown hl1 e.platform hpl
        obtain ⟨a8, b8, h1, h2, h3⟩ := hn1
        cases Option.some.inj (h1.symm.trans hcl)
        cases Option.some.inj (h2.symm.trans hc6)
        exact Or.inr ⟨hz0, _, hcl6, h3⟩)
  obtain ⟨g₀, hfr⟩ := X'.frames_eq
  have hcell9 : ((T.setVm vm').setFrames (.throwing q :: below)).heap[q]? = some ce := by
    show T.heap[q]? = some ce
    rw [hT]; exact hcell
  have hend : Ended ((T.setVm vm').setFrames (.throwing q :: below)) below (.threw q) := State.frames_setFrames _ (State.cur_lt_of_frames hfr)
  refine ⟨(T.setVm vm').setFrames (.throwing q :: below), ?_, .threw q, X'.here.running, hend, Or.inr ⟨q, rfl, E, ce, locs, hx _ hT (X'.ends _).1.alike, hcell9, hv, hcl, (X'.ends _).1, (X'.ends _).2.mono hc hs, hf⟩⟩
  rw [X.pushThrowing_eq]
  exact st
/-- a thing of a world lies in the heap -/
theorem vx_lt {D : va_G} {cl : List vw_C} {ws : va_W} {H1 : Heap} (h : va_P D cl ws H1) {k : Nat} {q : Nat × va_E} (hk : ws[k]? = some q) : q.1 < H1.size := (h k q hk).lt
end VXS
/-! ===== END ===== -/
/-! ===== BEGIN methods with a table of their own: called by a name, returning or throwing ===== -/
section VXH
/-! vx_backW, vx_callVX, vx_callSX, vx_callVW, vx_runVW, vx_runVX, vx_runSX, vx_ofWH follow the same proofs as their sisters above (Free/Laws.lean, Shelf42/LK1.lean); vx_outP calls Shelf42/NT130.lean (outThrough). -/
section
variable {l : Launch} {R : Room} {p : Program} {e : Env} {below : List Frame} {s : State} {sargs : Array Value} {y : MethodName} {len W9 : Nat}
theorem vx_backW {ws : List Cond} {rm : Room} {Pc : Array Value → State → Prop} {Qc : Array Value → State → Outcome → State → Prop} {XC : String → State → State → Prop} {mc ms : Nat} {free : Addr → Prop} {bytes : ByteArray} {maxL : Nat} {ret : Option FieldType} {hh : List (Nat × Nat × Nat × Nat)}
    (hM : vx_Met l y ws rm Pc Qc XC mc ms free) (hblind : FrameBlind Pc) (hrc : rm.cells = mc) (hrs : rm.slots = ms)
    (hframes : rm.frames + 1 ≤ R.frames) (hlocals : W9 + (maxL + 11) + rm.locals ≤ R.locals)
    (hws : ∀ w ∈ ws, ∀ a' U, s.WarmedH U.vm → w.before a' U = true) (hcode : Cond.codeWith y bytes maxL ret hh ∈ ws) (hinit : ∀ a' U, s.WarmedH U.vm → (Cond.initialized y.cls).before a' U = true) :
    vx_Back l R p e below s sargs y len W9 (PreOf R mc ms Pc) (PostOf Qc mc ms free) (vx_Post XC mc ms free) := by
  intro m meth c A g ig mk a X hg hsize hdg hW hn hp
  have h1 : (headSpec ws rm).pre.before a A.U = true := atoms_intro fun w hw => hws w hw _ _ X.warmed
  have h2 : (Cond.codeWith y bytes maxL ret hh).before a A.U = true := hws _ hcode _ _ X.warmed
  have h3 : (Cond.initialized y.cls).before a A.U = true := hinit _ _ X.warmed
  have h4 : A.cells + (headSpec ws rm).room.cells ≤ R.cells := by rw [show (headSpec ws rm).room.cells = mc from hrc]; exact hp.1
  have h5 : A.slots + (headSpec ws rm).room.slots ≤ R.slots := by rw [show (headSpec ws rm).room.slots = ms from hrs]; exact hp.2.1
  have hPc : Pc a (A.U.calling g mk a) := hblind _ _ _ _ hp.2.2
  obtain ⟨U, Ls, c0, s0⟩ := A
  dsimp only [Pt.U, Pt.locs, Pt.cells, Pt.slots] at h1 h2 h3 h4 h5 X hn hPc ⊢
  obtain ⟨m9, methY, cY, hn9, hmY, hcY, -, hlY, -⟩ := Cond.codeWith_spec h2
  cases Option.some.inj (hn9.symm.trans hn)
  obtain ⟨kY, hkY, -⟩ := className_of_methodNamed hn
  have hinitY : kY.init = .initialized := Cond.initialized_spec (findClass_of_methodNamed hn) hkY h3
  have h : At U g.method c below := by rw [hg]; exact X.here
  have hlocals9 : W9 + (maxL + 11) + (headSpec ws rm).room.locals ≤ R.locals := hlocals
  have happ : (headSpec ws rm).appliesLoose y e.platform (U.calling g mk a) = true :=
    Spec.appliesLoose_calling (g := g) h hdg hn hkY hinitY
      (X.room_calling (g := g) (R' := (headSpec ws rm).room) hsize hmY hcY hframes (by rw [hlY]; omega) h4 h5) h1
  obtain ⟨mid, hmid⟩ := h.above
  have hfr : (U.setTop g).frames = (.java g :: mid) ++ below := by rw [State.frames_setTop' g h.top, hmid]; rfl
  obtain ⟨o, s₂, hsteps, -, hend, hq⟩ := Steps.callFree hM p X.admits X.cas X.clock (acts := []) hfr happ hPc trivial
  have hq' : vx_Q Qc XC mc ms free a (U.calling g mk a) o s₂ := hq
  rw [State.frames_setTop' g h.top] at hend
  obtain ⟨g₀, hg0⟩ := Option.isSome_iff_exists.mp h.top
  obtain ⟨r, hr⟩ := State.topJava?_eq_some.mp hg0
  have hr' : (({ U with heap := s₂.heap, slotsUsed := s₂.slotsUsed } : State).setVm s₂.vm).frames = .java g₀ :: r := hr
  rcases hq' with ⟨hqc, L, hfe, hL⟩ | ⟨q, rfl, E, ce, L, hx, hce, hcv, hcl, hW₂, hsm, hL⟩
  · obtain ⟨⟨v, rfl⟩, hW₂, e2, q2, q3, q4, q5, q6⟩ := id hfe
    have e3 : s₂ = ({ (U.calling g mk a).setFrames s₂.frames with heap := s₂.heap, slotsUsed := s₂.slotsUsed } : State).setVm s₂.vm := by
      have : s₂ = ({ s₂ with vm := (U.calling g mk a).vm } : State).setVm s₂.vm := rfl
      rw [e2] at this
      exact this
    obtain ⟨c₂, i₂, len₂, hc₂, hd₂, hf₂⟩ := hend
    have hW' : U.WarmedH s₂.vm := hW₂
    have hcc : c₂ = c := by
      have h1 : s₂.code? g.method = U.code? g.method := by
        rw [State.code?_eq, State.code?_eq, hW'.alike.method?]
      exact Option.some.inj (hc₂.symm.trans (h1.trans h.code))
    subst hcc
    have hlen : len₂ = len := by rw [hdg] at hd₂; cases hd₂; rfl
    subst hlen
    have hs₂ : s₂ = (({ U with heap := s₂.heap, slotsUsed := s₂.slotsUsed } : State).setVm s₂.vm).setTop { g with pc := g.pc + len₂, stack := v.toList ++ g.stack } := by
      refine e3.trans ?_
      rw [hf₂, State.calling_eq h.top, State.setFrames_setFrames, State.setTop_of_frames _ hr', hr]
      rfl
    have hsame : U.sameButNew ({ U with heap := s₂.heap, slotsUsed := s₂.slotsUsed } : State) L mc ms := by
      refine ⟨?_, q2, q3, q4, q5, q6⟩
      obtain ⟨t, ht, -⟩ := State.frames_cons hr
      show ({ U with heap := s₂.heap, slotsUsed := s₂.slotsUsed } : State) = { U.setFrames U.frames with heap := s₂.heap, slotsUsed := s₂.slotsUsed }
      rw [State.setFrames_self ht]
    subst hg
    refine Or.inl ⟨v, ⟨(({ U with heap := s₂.heap, slotsUsed := s₂.slotsUsed } : State).setVm s₂.vm), Ls ++ L, c0 + mc, s0 + ms⟩,
      ⟨X.admits, X.cas, X.clock, X.frames, X.room, X.hears, X.method, X.code, (X.here.setHeapUsed s₂.heap s₂.slotsUsed).setVm hW'.alike, X.tail, State.WarmedH.trans X.warmed hW', X.limits, X.bytes, X.same.trans (hsame.setVm s.vm)⟩,
      ⟨g, mk, s₂, L, rfl, rfl, hqc, rfl, hL, rfl, rfl⟩, ?_⟩
    show Steps p.tables e below _ ((({ U with heap := s₂.heap, slotsUsed := s₂.slotsUsed } : State).setVm s₂.vm).setTop { g with pc := g.pc + len₂, stack := v.toList ++ g.stack })
    rw [← hs₂]
    exact hsteps
  · obtain ⟨e2, q2, q3, q4, q5, q6⟩ := id hsm
    have e3 : s₂ = ({ (U.calling g mk a).setFrames s₂.frames with heap := s₂.heap, slotsUsed := s₂.slotsUsed } : State).setVm s₂.vm := by
      have : s₂ = ({ s₂ with vm := (U.calling g mk a).vm } : State).setVm s₂.vm := rfl
      rw [e2] at this
      exact this
    have hf₂ : s₂.frames = .throwing q :: .java g :: U.frames.tail := hend
    have hW' : U.WarmedH s₂.vm := hW₂
    have hs₂ : s₂ = ((({ U with heap := s₂.heap, slotsUsed := s₂.slotsUsed } : State).setVm s₂.vm).setTop g).pushFrame (.throwing q) := by
      refine e3.trans ?_
      rw [hf₂, State.calling_eq h.top, State.setFrames_setFrames, State.pushFrame, State.frames_setTop _ hr', State.setTop_of_frames _ hr', State.setFrames_setFrames, hr]
      rfl
    have hsame : U.sameButNew ({ U with heap := s₂.heap, slotsUsed := s₂.slotsUsed } : State) L mc ms := by
      refine ⟨?_, q2, q3, q4, q5, q6⟩
      obtain ⟨t, ht, -⟩ := State.frames_cons hr
      show ({ U with heap := s₂.heap, slotsUsed := s₂.slotsUsed } : State) = { U.setFrames U.frames with heap := s₂.heap, slotsUsed := s₂.slotsUsed }
      rw [State.setFrames_self ht]
    subst hg
    refine Or.inr ⟨q, ⟨(({ U with heap := s₂.heap, slotsUsed := s₂.slotsUsed } : State).setVm s₂.vm), Ls ++ L, c0 + mc, s0 + ms⟩,
      ⟨X.admits, X.cas, X.clock, X.frames, X.room, X.hears, X.method, X.code, (X.here.setHeapUsed s₂.heap s₂.slotsUsed).setVm hW'.alike, X.tail, State.WarmedH.trans X.warmed hW', X.limits, X.bytes, X.same.trans (hsame.setVm s.vm)⟩,
      ⟨g, mk, s₂, L, E, ce, rfl, rfl, hx, hce, hcv, hcl, rfl, hL, rfl, rfl⟩, ?_⟩
    show Steps p.tables e below _ (((({ U with heap := s₂.heap, slotsUsed := s₂.slotsUsed } : State).setVm s₂.vm).setTop g).pushFrame (.throwing q))
    rw [← hs₂]
    exact hsteps
end
variable {p : Program} {l : Launch} {e : Env} {R : Room} {s : State} {m : MethodId} {args : Array Value} {below : List Frame} {meth : Method} {c : Code} {T : State} {H : Heap} {locs : List Loc} {cells slots : Nat}
theorem vx_callVX (X : Stand p l e R s m args below meth c T locs cells slots) (hexec : p.tables.exec = Jvm.exec) {own C : String} {index : Nat} {y : MethodName} {bytes : ByteArray} {maxL : Nat} {ret : Option FieldType} {hh : List (Nat × Nat × Nat × Nat)}
    (hown : s.vm.findClass own = some m.cls) (hlink : (Cond.methodLink own index y).before args s = true) (hinst : (Cond.instanceMethod y).before args s = true) (hsel : (Cond.selects C y y).before args s = true)
    (hcode : (Cond.codeWith y bytes maxL ret hh).before args s = true) (hy : y.cls ≠ "java/lang/invoke/MethodHandle" ∧ y.cls ≠ "java/lang/invoke/VarHandle")
    {W9 : Nat} {Pre : Pt → Array Value → Prop} {Post : Pt → Array Value → Option Value → Pt → Prop} {PostX : Pt → Array Value → Addr → Pt → Prop} (hK : vx_Back l R p e below s args y 3 W9 Pre Post PostX)
    {b : Addr} {cellB : Cell} (hcell : T.heap[b]? = some cellB) (hobj : cellB.vm.isStatics = false) (hcls : s.vm.findClass C = some cellB.cls)
    {g : JFrame} (hg : g.method = m) (hsize : g.locals.size = c.maxLocals) {argsL rest : List Value} (hlen : ∀ sig, parseMethodDescriptor y.desc = some sig → argsL.length = sig.parameters.length)
    (hstack : g.stack = argsL.reverse ++ .ref b :: rest) (hW : 2 * g.monitorRoom + (rest.map fun v => v.category).sum ≤ W9) (hdg : decode c.code g.pc = .ok (.invokevirtual index, 3))
    (hpre : ∀ vm₁, s.WarmedH vm₁ → Pre ⟨T.setVm vm₁, locs, cells, slots⟩ (Value.ref b :: argsL).toArray) :
    (∃ (v : Option Value) (vm₁ : Vm) (B : Pt), s.WarmedH vm₁ ∧ Stand p l e R s m args below meth c B.U B.locs B.cells B.slots ∧ Post ⟨T.setVm vm₁, locs, cells, slots⟩ (Value.ref b :: argsL).toArray v B ∧
      ∀ target, Steps p.tables e below (B.U.setTop { g with pc := g.pc + 3, stack := v.toList ++ rest }) target → Steps p.tables e below (T.setTop g) target) ∨
    (∃ (q : Addr) (vm₁ : Vm) (B : Pt), s.WarmedH vm₁ ∧ Stand p l e R s m args below meth c B.U B.locs B.cells B.slots ∧ PostX ⟨T.setVm vm₁, locs, cells, slots⟩ (Value.ref b :: argsL).toArray q B ∧
      Steps p.tables e below (T.setTop g) ((B.U.setTop { g with stack := rest }).pushFrame (.throwing q))) := by
  obtain ⟨mk, methM, hnamed, hmethM, hstM, habM⟩ := Cond.instanceMethod_spec hinst
  obtain ⟨m8, methM', cM, hn8, hmethM', -, -, -, -, -, -, hsigM⟩ := Cond.codeWith_spec hcode
  cases Option.some.inj (hn8.symm.trans hnamed)
  cases hmethM.symm.trans hmethM'
  obtain ⟨c2, r2, m2, q1, q2, q3, q4, kP, hkP, hkPi⟩ := Cond.selects_spec hsel
  cases hcls.symm.trans q1
  cases (State.methodFound?_of_named hnamed hy).symm.trans q2
  cases hnamed.symm.trans q3
  have hselP : selectMethod e.platform s.vm cellB.cls mk = .method mk := by rw [Launch.admits_selectMethod X.admits]; exact q4
  obtain ⟨vm₁, X₁, hstep₁⟩ := X.invokevirtual hexec hown hlink hnamed hmethM hstM hkP hkPi hy (a := b) (cell := cellB) hcell
    (fun z h => by rw [h] at hobj; cases hobj) hselP hmethM habM hkP hkPi (g := g) hg (argsL := argsL) (rest := rest) (hlen _ hsigM) hstack hdg
  rcases hK m meth c ⟨T.setVm vm₁, locs, cells, slots⟩ { g with stack := rest } (.invokevirtual index) mk (Value.ref b :: argsL).toArray X₁ hg hsize hdg hW (X₁.named hnamed) (hpre vm₁ X₁.warmed) with ⟨v, B, X', hpost, hsteps⟩ | ⟨q, B, X', hpost, hsteps⟩
  · exact Or.inl ⟨v, vm₁, B, X₁.warmed, X', hpost, fun target h => hstep₁ _ fun acts => by rw [doInvoke_state]; exact hsteps.trans h⟩
  · exact Or.inr ⟨q, vm₁, B, X₁.warmed, X', hpost, hstep₁ _ fun acts => by rw [doInvoke_state]; exact hsteps⟩
theorem vx_callSX (X : Stand p l e R s m args below meth c T locs cells slots) (hexec : p.tables.exec = Jvm.exec) {own : String} {index : Nat} {y : MethodName} {bytes : ByteArray} {maxL : Nat} {ret : Option FieldType} {hh : List (Nat × Nat × Nat × Nat)}
    (hown : s.vm.findClass own = some m.cls) (hlink : (Cond.methodLink own index y).before args s = true) (hstat : (Cond.static y).before args s = true) (hinit : (Cond.initialized y.cls).before args s = true)
    (hcode : (Cond.codeWith y bytes maxL ret hh).before args s = true) (hy : y.cls ≠ "java/lang/invoke/MethodHandle" ∧ y.cls ≠ "java/lang/invoke/VarHandle")
    {W9 : Nat} {Pre : Pt → Array Value → Prop} {Post : Pt → Array Value → Option Value → Pt → Prop} {PostX : Pt → Array Value → Addr → Pt → Prop} (hK : vx_Back l R p e below s args y 3 W9 Pre Post PostX)
    {g : JFrame} (hg : g.method = m) (hsize : g.locals.size = c.maxLocals) {argsL rest : List Value} (hlen : ∀ sig, parseMethodDescriptor y.desc = some sig → argsL.length = sig.parameters.length)
    (hstack : g.stack = argsL.reverse ++ rest) (hW : 2 * g.monitorRoom + (rest.map fun v => v.category).sum ≤ W9) (hdg : decode c.code g.pc = .ok (.invokestatic index, 3))
    (hpre : ∀ vm₁, s.WarmedH vm₁ → Pre ⟨T.setVm vm₁, locs, cells, slots⟩ argsL.toArray) :
    (∃ (v : Option Value) (vm₁ : Vm) (B : Pt), s.WarmedH vm₁ ∧ Stand p l e R s m args below meth c B.U B.locs B.cells B.slots ∧ Post ⟨T.setVm vm₁, locs, cells, slots⟩ argsL.toArray v B ∧
      ∀ target, Steps p.tables e below (B.U.setTop { g with pc := g.pc + 3, stack := v.toList ++ rest }) target → Steps p.tables e below (T.setTop g) target) ∨
    (∃ (q : Addr) (vm₁ : Vm) (B : Pt), s.WarmedH vm₁ ∧ Stand p l e R s m args below meth c B.U B.locs B.cells B.slots ∧ PostX ⟨T.setVm vm₁, locs, cells, slots⟩ argsL.toArray q B ∧
      Steps p.tables e below (T.setTop g) ((B.U.setTop { g with stack := rest }).pushFrame (.throwing q))) := by
  obtain ⟨mk, methM, cM, hnamed, hmethM, -, -, -, -, -, -, hsigM⟩ := Cond.codeWith_spec hcode
  have hstatic : methM.isStatic = true := Cond.static_spec hnamed hmethM hstat
  obtain ⟨kP, hkP, -⟩ := className_of_methodNamed hnamed
  have hinitP : kP.init = .initialized := Cond.initialized_spec (findClass_of_methodNamed hnamed) hkP hinit
  obtain ⟨vm₁, X₁, hstep₁⟩ := X.invokestatic hexec hown hlink hnamed hmethM hstatic hkP hinitP hy (g := g) hg (argsL := argsL) (rest := rest) (hlen _ hsigM) hstack hdg
  rcases hK m meth c ⟨T.setVm vm₁, locs, cells, slots⟩ { g with stack := rest } (.invokestatic index) mk argsL.toArray X₁ hg hsize hdg hW (X₁.named hnamed) (hpre vm₁ X₁.warmed) with ⟨v, B, X', hpost, hsteps⟩ | ⟨q, B, X', hpost, hsteps⟩
  · exact Or.inl ⟨v, vm₁, B, X₁.warmed, X', hpost, fun target h => hstep₁ _ fun acts => by rw [doInvoke_state]; exact hsteps.trans h⟩
  · exact Or.inr ⟨q, vm₁, B, X₁.warmed, X', hpost, hstep₁ _ fun acts => by rw [doInvoke_state]; exact hsteps⟩
theorem vx_callVW (X : Stand p l e R s m args below meth c T locs cells slots) (hexec : p.tables.exec = Jvm.exec) {own C : String} {index : Nat} {y : MethodName} {bytes : ByteArray} {maxL : Nat} {ret : Option FieldType} {hh : List (Nat × Nat × Nat × Nat)}
    (hown : s.vm.findClass own = some m.cls) (hlink : (Cond.methodLink own index y).before args s = true) (hinst : (Cond.instanceMethod y).before args s = true) (hsel : (Cond.selects C y y).before args s = true)
    (hcode : (Cond.codeWith y bytes maxL ret hh).before args s = true) (hy : y.cls ≠ "java/lang/invoke/MethodHandle" ∧ y.cls ≠ "java/lang/invoke/VarHandle")
    {W9 : Nat} {Pre : Pt → Array Value → Prop} {Post : Pt → Array Value → Option Value → Pt → Prop} (hK : Back l R p e below s args y 3 W9 Pre Post)
    {b : Addr} {cellB : Cell} (hcell : T.heap[b]? = some cellB) (hobj : cellB.vm.isStatics = false) (hcls : s.vm.findClass C = some cellB.cls)
    {g : JFrame} (hg : g.method = m) (hsize : g.locals.size = c.maxLocals) {argsL rest : List Value} (hlen : ∀ sig, parseMethodDescriptor y.desc = some sig → argsL.length = sig.parameters.length)
    (hstack : g.stack = argsL.reverse ++ .ref b :: rest) (hW : 2 * g.monitorRoom + (rest.map fun v => v.category).sum ≤ W9) (hdg : decode c.code g.pc = .ok (.invokevirtual index, 3))
    (hpre : ∀ vm₁, s.WarmedH vm₁ → Pre ⟨T.setVm vm₁, locs, cells, slots⟩ (Value.ref b :: argsL).toArray) :
    ∃ (v : Option Value) (vm₁ : Vm) (B : Pt), s.WarmedH vm₁ ∧ Stand p l e R s m args below meth c B.U B.locs B.cells B.slots ∧ Post ⟨T.setVm vm₁, locs, cells, slots⟩ (Value.ref b :: argsL).toArray v B ∧
      ∀ target, Steps p.tables e below (B.U.setTop { g with pc := g.pc + 3, stack := v.toList ++ rest }) target → Steps p.tables e below (T.setTop g) target := by
  obtain ⟨mk, methM, hnamed, hmethM, hstM, habM⟩ := Cond.instanceMethod_spec hinst
  obtain ⟨m8, methM', cM, hn8, hmethM', -, -, -, -, -, -, hsigM⟩ := Cond.codeWith_spec hcode
  cases Option.some.inj (hn8.symm.trans hnamed)
  cases hmethM.symm.trans hmethM'
  obtain ⟨c2, r2, m2, q1, q2, q3, q4, kP, hkP, hkPi⟩ := Cond.selects_spec hsel
  cases hcls.symm.trans q1
  cases (State.methodFound?_of_named hnamed hy).symm.trans q2
  cases hnamed.symm.trans q3
  have hselP : selectMethod e.platform s.vm cellB.cls mk = .method mk := by rw [Launch.admits_selectMethod X.admits]; exact q4
  obtain ⟨vm₁, X₁, hstep₁⟩ := X.invokevirtual hexec hown hlink hnamed hmethM hstM hkP hkPi hy (a := b) (cell := cellB) hcell
    (fun z h => by rw [h] at hobj; cases hobj) hselP hmethM habM hkP hkPi (g := g) hg (argsL := argsL) (rest := rest) (hlen _ hsigM) hstack hdg
  obtain ⟨v, B, X', hpost, hsteps⟩ := hK m meth c ⟨T.setVm vm₁, locs, cells, slots⟩ { g with stack := rest } (.invokevirtual index) mk (Value.ref b :: argsL).toArray X₁ hg hsize hdg hW (X₁.named hnamed) (hpre vm₁ X₁.warmed)
  exact ⟨v, vm₁, B, X₁.warmed, X', hpost, fun target h => hstep₁ _ fun acts => by rw [doInvoke_state]; exact hsteps.trans h⟩
abbrev vx_CVW (R : Room) (s : State) (args : Array Value) (own C : String) (index : Nat) (y : MethodName) (bytes : ByteArray) (maxL : Nat) (ret : Option FieldType) (hh : List (Nat × Nat × Nat × Nat)) (ws : List Cond) (rm : Room) (mc ms n : Nat) : Prop :=
  (rm.cells = mc ∧ rm.slots = ms ∧ rm.frames + 1 ≤ R.frames ∧ 8 + (maxL + 11) + rm.locals ≤ R.locals ∧ (∀ w ∈ ws, ∀ (a' : Array Value) (U : State), s.WarmedH U.vm → w.before a' U = true) ∧ Cond.codeWith y bytes maxL ret hh ∈ ws) ∧
  (Cond.codeWith y bytes maxL ret hh).before args s = true ∧ (Cond.initialized y.cls).before args s = true ∧ (y.cls ≠ "java/lang/invoke/MethodHandle" ∧ y.cls ≠ "java/lang/invoke/VarHandle") ∧
  (∀ sig, parseMethodDescriptor y.desc = some sig → n = sig.parameters.length) ∧ (Cond.methodLink own index y).before args s = true ∧ (Cond.instanceMethod y).before args s = true ∧ (Cond.selects C y y).before args s = true
theorem vx_cwVW {own C : String} {index maxL mc ms : Nat} {y : MethodName} {bytes : ByteArray} {ret : Option FieldType} {hh : List (Nat × Nat × Nat × Nat)} {Ts ws ws' : List Cond} {rm : Room} (n : Nat) (ht : ∀ w ∈ Ts, w.before args s = true) (hT : GoodIn Ts (wsV own index C y ws)) (hw : ws = Cond.codeWith y bytes maxL ret hh :: ws') (hrc : rm.cells = mc) (hrs : rm.slots = ms)
    (hd : y.cls = C ∧ y.cls ≠ "java/lang/invoke/MethodHandle" ∧ y.cls ≠ "java/lang/invoke/VarHandle" ∧ (parseMethodDescriptor y.desc).map (fun d => d.parameters.length) = some n) (hR : rm.frames + 1 ≤ R.frames ∧ 8 + (maxL + 11) + rm.locals ≤ R.locals) :
    vx_CVW R s args own C index y bytes maxL ret hh ws rm mc ms n := by
  obtain ⟨hC, hd⟩ := hd
  subst hC
  have ok : ∀ w ∈ wsV own index y.cls y ws, w.before args s = true := fun w h => ht w (hT w h).1
  have hG : GoodIn Ts ws := fun w h => hT w (by unfold wsV; exact List.mem_append_right _ h)
  have hc : Cond.codeWith y bytes maxL ret hh ∈ ws := by rw [hw]; exact List.mem_cons_self
  refine ⟨⟨hrc, hrs, hR.1, hR.2, pay_in ht hG, hc⟩, ht _ (hG _ hc).1, ok _ (by simp [wsV]), ⟨hd.1, hd.2.1⟩, fun sig h => ?_, ok _ (by simp [wsV]), ok _ (by simp [wsV]), ok _ (by simp [wsV])⟩
  have h2 := hd.2.2
  rw [h] at h2
  exact (Option.some.inj h2).symm
theorem vx_runVW {y : MethodName} {bytes cc : ByteArray} {maxL nL mc ms n index : Nat} {ret : Option FieldType} {hh : List (Nat × Nat × Nat × Nat)} {ws : List Cond} {rm : Room} {Pc : Array Value → State → Prop} {Qc : Array Value → State → Outcome → State → Prop} {free : Addr → Prop} {Ts : List Cond} {own C : String} {b : Addr} {As rest : List Value} {g : JFrame}
    (S : CallFix p m c cc nL s args Ts own) (hM : Met l y ws rm Pc Qc mc ms free) (cw : vx_CVW R s args own C index y bytes maxL ret hh ws rm mc ms n) (hp : PreV s H C b Pc As)
    (hg : g.method = m) (hn : As.length = n) (hsize : g.locals.size = nL) (hstack : g.stack = As.reverse ++ .ref b :: rest) (hW : 2 * g.monitorRoom + (rest.map fun v => v.category).sum ≤ 8) (hdg : decode cc g.pc = .ok (.invokevirtual index, 3)) (hf : cells + mc ≤ R.cells ∧ slots + ms ≤ R.slots) :
    va_Run p l e R s m args below meth c H locs cells slots mc ms g rest (Qc (Value.ref b :: As).toArray) free := by
  obtain ⟨⟨hrc, hrs, hfr, hlo, hws, hcw⟩, hcode, hini, hy, hlen, hl, hin, hse⟩ := cw
  have hK : Back l R p e below s args y 3 8 (PreOf R mc ms Pc) (PostOf Qc mc ms free) := va_backW (hh := hh) (bytes := bytes) (maxL := maxL) (ret := ret) hM hp.1 hrc hrs hfr hlo hws hcw (fun a' U hW => word_at hW (Or.inl (by first | rfl | simp [Cond.onTables, Cond.keeps, Cond.steady])) hini)
  obtain ⟨hx, hb, hml, ho, -⟩ := S
  obtain ⟨-, ⟨cellB, hcB, hoB, hclB⟩, hPc⟩ := hp
  intro T hT X
  obtain ⟨v, vm₁, ⟨U', l2, c2, s2⟩, hW₁, X', ⟨g', mk, t, L, e1, e2, hq, h1, hL, h2, h3⟩, st⟩ := vx_callVW X hx (C := C) (hh := hh) (bytes := bytes) (maxL := maxL) (ret := ret) ho hl hin hse hcode hy hK (by rw [hT]; exact hcB) hoB hclB hg (hsize.trans hml.symm) (argsL := As) (rest := rest) (fun sig h => hn.trans (hlen sig h)) hstack hW (by rw [hb]; exact hdg)
    (fun vm₁ hW₁ => ⟨hf.1, hf.2, hPc (T.setVm vm₁) hT hW₁⟩)
  dsimp only [Pt.U, Pt.locs, Pt.cells, Pt.slots] at X' e1 e2 h1 h2 h3 st
  subst h1; subst h2; subst h3
  exact ⟨v, (T.setVm vm₁).calling g' mk (Value.ref b :: As).toArray, t, U', L, hT, X', hL, e1, e2, hq, st⟩
section
variable {y : MethodName} {bytes cc : ByteArray} {maxL nL mc ms n index : Nat} {ret : Option FieldType} {ws : List Cond} {rm : Room} {Pc : Array Value → State → Prop} {Qc : Array Value → State → Outcome → State → Prop} {XC : String → State → State → Prop} {free : Addr → Prop} {Ts : List Cond} {own C : String} {b : Addr} {As rest : List Value} {g : JFrame}
theorem vx_runVX {hh : List (Nat × Nat × Nat × Nat)} (S : CallFix p m c cc nL s args Ts own) (hM : vx_Met l y ws rm Pc Qc XC mc ms free) (cw : vx_CVW R s args own C index y bytes maxL ret hh ws rm mc ms n) (hp : PreV s H C b Pc As)
    (hg : g.method = m) (hn : As.length = n) (hsize : g.locals.size = nL) (hstack : g.stack = As.reverse ++ .ref b :: rest) (hW : 2 * g.monitorRoom + (rest.map fun v => v.category).sum ≤ 8) (hdg : decode cc g.pc = .ok (.invokevirtual index, 3)) (hf : cells + mc ≤ R.cells ∧ slots + ms ≤ R.slots) :
    vx_Run p l e R s m args below meth c H locs cells slots mc ms g rest (Qc (Value.ref b :: As).toArray) XC free := by
  obtain ⟨⟨hrc, hrs, hfr, hlo, hws, hcw⟩, hcode, hini, hy, hlen, hl, hin, hse⟩ := cw
  have hK : vx_Back l R p e below s args y 3 8 (PreOf R mc ms Pc) (PostOf Qc mc ms free) (vx_Post XC mc ms free) := vx_backW (hh := hh) (bytes := bytes) (maxL := maxL) (ret := ret) hM hp.1 hrc hrs hfr hlo hws hcw (fun a' U hW => word_at hW (Or.inl (by first | rfl | simp [Cond.onTables, Cond.keeps, Cond.steady])) hini)
  obtain ⟨hx, hb, hml, ho, -⟩ := S
  obtain ⟨-, ⟨cellB, hcB, hoB, hclB⟩, hPc⟩ := hp
  intro T hT X
  rcases vx_callVX X hx (C := C) (hh := hh) (bytes := bytes) (maxL := maxL) (ret := ret) ho hl hin hse hcode hy hK (by rw [hT]; exact hcB) hoB hclB hg (hsize.trans hml.symm) (argsL := As) (rest := rest) (fun sig h => hn.trans (hlen sig h)) hstack hW (by rw [hb]; exact hdg)
    (fun vm₁ hW₁ => ⟨hf.1, hf.2, hPc (T.setVm vm₁) hT hW₁⟩) with ⟨v, vm₁, ⟨U', l2, c2, s2⟩, hW₁, X', ⟨g', mk, t, L, e1, e2, hq, h1, hL, h2, h3⟩, st⟩ | ⟨q, vm₁, ⟨U', l2, c2, s2⟩, hW₁, X', ⟨g', mk, t, L, E, ce, e1, e2, hq, hce, hcv, hcl, h1, hL, h2, h3⟩, st⟩
  · dsimp only [Pt.U, Pt.locs, Pt.cells, Pt.slots] at X' e1 e2 h1 h2 h3 st
    subst h1; subst h2; subst h3
    exact Or.inl ⟨v, (T.setVm vm₁).calling g' mk (Value.ref b :: As).toArray, t, U', L, hT, X', hL, e1, e2, hq, st⟩
  · dsimp only [Pt.U, Pt.locs, Pt.cells, Pt.slots] at X' e1 e2 h1 h2 h3 st hcl
    subst h1; subst h2; subst h3
    exact Or.inr ⟨q, (T.setVm vm₁).calling g' mk (Value.ref b :: As).toArray, t, U', L, E, ce, hT, X', hL, e1, e2, hq, hce, hcv, vx_cls hW₁ hcl, st⟩
theorem vx_runSX {hh : List (Nat × Nat × Nat × Nat)} (S : CallFix p m c cc nL s args Ts own) (hM : vx_Met l y ws rm Pc Qc XC mc ms free) (cw : vx_CSW R s args own index y bytes maxL ret hh ws rm mc ms n) (hp : PreS s H Pc As)
    (hg : g.method = m) (hn : As.length = n) (hsize : g.locals.size = nL) (hstack : g.stack = As.reverse ++ rest) (hW : 2 * g.monitorRoom + (rest.map fun v => v.category).sum ≤ 8) (hdg : decode cc g.pc = .ok (.invokestatic index, 3)) (hf : cells + mc ≤ R.cells ∧ slots + ms ≤ R.slots) :
    vx_Run p l e R s m args below meth c H locs cells slots mc ms g rest (Qc As.toArray) XC free := by
  obtain ⟨⟨hrc, hrs, hfr, hlo, hws, hcw⟩, hcode, hini, hy, hlen, hl, hstt⟩ := cw
  have hK : vx_Back l R p e below s args y 3 8 (PreOf R mc ms Pc) (PostOf Qc mc ms free) (vx_Post XC mc ms free) := vx_backW (hh := hh) (bytes := bytes) (maxL := maxL) (ret := ret) hM hp.1 hrc hrs hfr hlo hws hcw (fun a' U hW => word_at hW (Or.inl (by first | rfl | simp [Cond.onTables, Cond.keeps, Cond.steady])) hini)
  obtain ⟨hx, hb, hml, ho, -⟩ := S
  intro T hT X
  rcases vx_callSX X hx (hh := hh) (bytes := bytes) (maxL := maxL) (ret := ret) ho hl hstt hini hcode hy hK hg (hsize.trans hml.symm) (argsL := As) (rest := rest) (fun sig h => hn.trans (hlen sig h)) hstack hW (by rw [hb]; exact hdg)
    (fun vm₁ hW₁ => ⟨hf.1, hf.2, hp.2 (T.setVm vm₁) hT hW₁⟩) with ⟨v, vm₁, ⟨U', l2, c2, s2⟩, hW₁, X', ⟨g', mk, t, L, e1, e2, hq, h1, hL, h2, h3⟩, st⟩ | ⟨q, vm₁, ⟨U', l2, c2, s2⟩, hW₁, X', ⟨g', mk, t, L, E, ce, e1, e2, hq, hce, hcv, hcl, h1, hL, h2, h3⟩, st⟩
  · dsimp only [Pt.U, Pt.locs, Pt.cells, Pt.slots] at X' e1 e2 h1 h2 h3 st
    subst h1; subst h2; subst h3
    exact Or.inl ⟨v, (T.setVm vm₁).calling g' mk As.toArray, t, U', L, hT, X', hL, e1, e2, hq, st⟩
  · dsimp only [Pt.U, Pt.locs, Pt.cells, Pt.slots] at X' e1 e2 h1 h2 h3 st hcl
    subst h1; subst h2; subst h3
    exact Or.inr ⟨q, (T.setVm vm₁).calling g' mk As.toArray, t, U', L, E, ce, hT, X', hL, e1, e2, hq, hce, hcv, vx_cls hW₁ hcl, st⟩
end
end VXH
theorem vx_ofWH {l : Launch} {y : MethodName} {ws ws' : List Cond} {rm : Room} {Pc : Array Value → State → Prop} {Qc : Array Value → State → Outcome → State → Prop} {XC : String → State → State → Prop} {mc ms : Nat} {free : Addr → Prop} {cc : ByteArray} {maxL : Nat} {ret : Option FieldType} {hh : List (Nat × Nat × Nat × Nat)}
    (hy : plainName y.cls = true) (hw : ws = Cond.codeWith y cc maxL ret hh :: ws')
    (body : ∀ p e s m args below meth c s₁, BodyLoose p l y (headSpec ws rm) cc maxL ret e s m args below meth c s₁ → c.maxLocals = maxL → Pc args s →
      W p l e (headSpec ws rm).room s m args below meth c s.heap [] 0 0 (vx_MQ below Qc XC args s mc ms free) (entryFrame m args maxL)) : vx_Met l y ws rm Pc Qc XC mc ms free := by
  refine MetFree.of_bodyS (code := cc) (maxLocals := maxL) (ret := ret) hy ?_ ?_
  · intro args s m h hn
    obtain ⟨m9, meth, c, hn9, h1, h2, h3, h4, -, h5, h6, -⟩ := Cond.codeWith_spec (atoms_spec (ws := ws) h _ (by rw [hw]; exact List.mem_cons_self))
    cases hn.symm.trans hn9
    exact ⟨meth, c, h1, h2, h3, h4, h5, h6⟩
  · intro p e s m args below meth c s₁ B hml hP _
    have hh0 : s₁.heap = s.heap := by rw [B.state]; rfl
    obtain ⟨t, a1, o, b1, b2, b3⟩ := body p e s m args below meth c s₁ B hml hP s₁ hh0 (Stand.of_body B)
    exact ⟨t, o, a1, b1, b2, b3⟩
/-! ===== END ===== -/
end
section
/-! ===== BEGIN printed: names, fields, word lists, decode rows ===== -/
def RX0 : String := "UnionOffice$Band"
def TX0 : u_T := fun k => match k with
  | _ => ("UnionOffice$Band", "monthlyDues", "I", false)
def tyX0 : Nat → FieldType := fun k => match k with
  | _ => .int
abbrev wsX00 : List Cond := u_ws RX0 TX0 1
theorem nmX0 : ∀ a, a < 1 → ∀ b, b < 1 → a ≠ b → (TX0 a).2.1 ≠ (TX0 b).2.1 := by decide +kernel
theorem tyX0_ok : ∀ k, k < 1 → parseFieldDescriptor (TX0 k).2.2.1 = some (tyX0 k) := by decide +kernel
abbrev cX0_init : ByteArray := prog_2_method_1_code
def yX0_init : MethodName := ⟨RX0, "<init>", "(I)V"⟩
def RX1 : String := "UnionOffice$Branch"
def TX1 : u_T := fun k => match k with
  | 0 => ("UnionOffice$Branch", "laidOn", "[I", true)
  | 1 => ("UnionOffice$Branch", "hasBallot", "Z", false)
  | 2 => ("UnionOffice$Branch", "voters", "I", false)
  | 3 => ("UnionOffice$Branch", "yesVoters", "I", false)
  | 4 => ("UnionOffice$Branch", "mayStrike", "Z", false)
  | 5 => ("UnionOffice$Branch", "isOnStrike", "Z", false)
  | _ => ("UnionOffice$Branch", "delegatesOfYear", "I", false)
def tyX1 : Nat → FieldType := fun k => match k with
  | 0 => .array .int
  | 1 => .boolean
  | 2 => .int
  | 3 => .int
  | 4 => .boolean
  | 5 => .boolean
  | _ => .int
abbrev wsX10 : List Cond := u_ws RX1 TX1 7
theorem nmX1 : ∀ a, a < 7 → ∀ b, b < 7 → a ≠ b → (TX1 a).2.1 ≠ (TX1 b).2.1 := by decide +kernel
theorem tyX1_ok : ∀ k, k < 7 → parseFieldDescriptor (TX1 k).2.2.1 = some (tyX1 k) := by decide +kernel
abbrev cX1_init : ByteArray := prog_3_method_1_code
def yX1_init : MethodName := ⟨RX1, "<init>", "()V"⟩
abbrev cX1_beginBallot : ByteArray := prog_3_method_2_code
def yX1_beginBallot : MethodName := ⟨RX1, "beginBallot", "()V"⟩
abbrev cX1_hasVoteOf : ByteArray := prog_3_method_3_code
def yX1_hasVoteOf : MethodName := ⟨RX1, "hasVoteOf", "(LUnionOffice$Member;)Z"⟩
abbrev cX1_takeVote : ByteArray := prog_3_method_4_code
def yX1_takeVote : MethodName := ⟨RX1, "takeVote", "(LUnionOffice$Member;Z)V"⟩
abbrev cX1_countVotes : ByteArray := prog_3_method_5_code
def yX1_countVotes : MethodName := ⟨RX1, "countVotes", "()I"⟩
abbrev cX1_endBallot : ByteArray := prog_3_method_6_code
def yX1_endBallot : MethodName := ⟨RX1, "endBallot", "(I)V"⟩
abbrev cX1_canBeCalledOut : ByteArray := prog_3_method_7_code
def yX1_canBeCalledOut : MethodName := ⟨RX1, "canBeCalledOut", "()Z"⟩
def RX2 : String := "UnionOffice$Member"
def TX2 : u_T := fun k => match k with
  | 0 => ("UnionOffice$Member", "number", "I", true)
  | 1 => ("UnionOffice$Member", "owedFor", "[I", true)
  | 2 => ("UnionOffice$Member", "laidOn", "[I", true)
  | 3 => ("UnionOffice$Member", "branch", "LUnionOffice$Branch;", false)
  | 4 => ("UnionOffice$Member", "band", "LUnionOffice$Band;", false)
  | 5 => ("UnionOffice$Member", "isOnLeave", "Z", false)
  | 6 => ("UnionOffice$Member", "hasLeft", "Z", false)
  | 7 => ("UnionOffice$Member", "leftOver", "I", false)
  | 8 => ("UnionOffice$Member", "strikePayHad", "I", false)
  | _ => ("UnionOffice$Member", "earliestOwed", "I", false)
def tyX2 : Nat → FieldType := fun k => match k with
  | 0 => .int
  | 1 => .array .int
  | 2 => .array .int
  | 3 => .object "UnionOffice$Branch"
  | 4 => .object "UnionOffice$Band"
  | 5 => .boolean
  | 6 => .boolean
  | 7 => .int
  | 8 => .int
  | _ => .int
abbrev wsX20 : List Cond := u_ws RX2 TX2 10
theorem nmX2 : ∀ a, a < 10 → ∀ b, b < 10 → a ≠ b → (TX2 a).2.1 ≠ (TX2 b).2.1 := by decide +kernel
theorem tyX2_ok : ∀ k, k < 10 → parseFieldDescriptor (TX2 k).2.2.1 = some (tyX2 k) := by decide +kernel
abbrev cX2_init : ByteArray := prog_4_method_1_code
def yX2_init : MethodName := ⟨RX2, "<init>", "(ILUnionOffice$Branch;LUnionOffice$Band;)V"⟩
abbrev cX2_bit : ByteArray := prog_4_method_2_code
def yX2_bit : MethodName := ⟨RX2, "bit", "()I"⟩
abbrev cX2_standsOn : ByteArray := prog_4_method_3_code
def yX2_standsOn : MethodName := ⟨RX2, "standsOn", "(I)Z"⟩
abbrev cX2_sumOwed : ByteArray := prog_4_method_4_code
def yX2_sumOwed : MethodName := ⟨RX2, "sumOwed", "()I"⟩
abbrev cX2_charge : ByteArray := prog_4_method_5_code
def yX2_charge : MethodName := ⟨RX2, "charge", "(I)I"⟩
abbrev cX2_takeIn : ByteArray := prog_4_method_6_code
def yX2_takeIn : MethodName := ⟨RX2, "takeIn", "(I)I"⟩
abbrev cX2_layLeftOver : ByteArray := prog_4_method_7_code
def yX2_layLeftOver : MethodName := ⟨RX2, "layLeftOver", "()I"⟩
abbrev cX2_skipSettled : ByteArray := prog_4_method_8_code
def yX2_skipSettled : MethodName := ⟨RX2, "skipSettled", "()V"⟩
def RX3 : String := "UnionOffice"
def TX3 : u_T := fun k => match k with
  | 0 => ("UnionOffice", "bands", "[LUnionOffice$Band;", true)
  | 1 => ("UnionOffice", "branches", "[LUnionOffice$Branch;", true)
  | 2 => ("UnionOffice", "members", "[LUnionOffice$Member;", true)
  | 3 => ("UnionOffice", "joined", "I", false)
  | 4 => ("UnionOffice", "payOfStrikeDay", "I", false)
  | 5 => ("UnionOffice", "today", "I", false)
  | 6 => ("UnionOffice", "inFund", "I", false)
  | _ => ("UnionOffice", "foldedMonths", "I", false)
def tyX3 : Nat → FieldType := fun k => match k with
  | 0 => .array (.object "UnionOffice$Band")
  | 1 => .array (.object "UnionOffice$Branch")
  | 2 => .array (.object "UnionOffice$Member")
  | 3 => .int
  | 4 => .int
  | 5 => .int
  | 6 => .int
  | _ => .int
abbrev wsX30 : List Cond := u_ws RX3 TX3 8
theorem nmX3 : ∀ a, a < 8 → ∀ b, b < 8 → a ≠ b → (TX3 a).2.1 ≠ (TX3 b).2.1 := by decide +kernel
theorem tyX3_ok : ∀ k, k < 8 → parseFieldDescriptor (TX3 k).2.2.1 = some (tyX3 k) := by decide +kernel
abbrev cX3_init : ByteArray := prog_1_method_1_code
def yX3_init : MethodName := ⟨RX3, "<init>", "()V"⟩
abbrev cX3_setDues : ByteArray := prog_1_method_2_code
def yX3_setDues : MethodName := ⟨RX3, "setDues", "(II)I"⟩
abbrev cX3_setStrikePay : ByteArray := prog_1_method_3_code
def yX3_setStrikePay : MethodName := ⟨RX3, "setStrikePay", "(I)I"⟩
abbrev cX3_join : ByteArray := prog_1_method_4_code
def yX3_join : MethodName := ⟨RX3, "join", "(II)I"⟩
abbrev cX3_move : ByteArray := prog_1_method_5_code
def yX3_move : MethodName := ⟨RX3, "move", "(III)V"⟩
abbrev cX3_leave : ByteArray := prog_1_method_6_code
def yX3_leave : MethodName := ⟨RX3, "leave", "(IZ)Z"⟩
abbrev cX3_quit : ByteArray := prog_1_method_7_code
def yX3_quit : MethodName := ⟨RX3, "quit", "(I)I"⟩
abbrev cX3_pay : ByteArray := prog_1_method_8_code
def yX3_pay : MethodName := ⟨RX3, "pay", "(II)I"⟩
abbrev cX3_open : ByteArray := prog_1_method_9_code
def yX3_open : MethodName := ⟨RX3, "open", "(I)I"⟩
abbrev cX3_vote : ByteArray := prog_1_method_10_code
def yX3_vote : MethodName := ⟨RX3, "vote", "(IZ)I"⟩
abbrev cX3_close : ByteArray := prog_1_method_11_code
def yX3_close : MethodName := ⟨RX3, "close", "(I)Z"⟩
abbrev cX3_strike : ByteArray := prog_1_method_12_code
def yX3_strike : MethodName := ⟨RX3, "strike", "(IZ)V"⟩
abbrev cX3_advance : ByteArray := prog_1_method_13_code
def yX3_advance : MethodName := ⟨RX3, "advance", "(I)I"⟩
abbrev cX3_fold : ByteArray := prog_1_method_14_code
def yX3_fold : MethodName := ⟨RX3, "fold", "(I)I"⟩
abbrev cX3_day : ByteArray := prog_1_method_15_code
def yX3_day : MethodName := ⟨RX3, "day", "()I"⟩
abbrev cX3_fund : ByteArray := prog_1_method_16_code
def yX3_fund : MethodName := ⟨RX3, "fund", "()I"⟩
abbrev cX3_owed : ByteArray := prog_1_method_17_code
def yX3_owed : MethodName := ⟨RX3, "owed", "(I)I"⟩
abbrev cX3_credit : ByteArray := prog_1_method_18_code
def yX3_credit : MethodName := ⟨RX3, "credit", "(I)I"⟩
abbrev cX3_laid : ByteArray := prog_1_method_19_code
def yX3_laid : MethodName := ⟨RX3, "laid", "(II)I"⟩
abbrev cX3_laidFor : ByteArray := prog_1_method_20_code
def yX3_laidFor : MethodName := ⟨RX3, "laidFor", "(II)I"⟩
abbrev cX3_hasStanding : ByteArray := prog_1_method_21_code
def yX3_hasStanding : MethodName := ⟨RX3, "hasStanding", "(I)Z"⟩
abbrev cX3_strikePay : ByteArray := prog_1_method_22_code
def yX3_strikePay : MethodName := ⟨RX3, "strikePay", "(I)I"⟩
abbrev cX3_delegates : ByteArray := prog_1_method_23_code
def yX3_delegates : MethodName := ⟨RX3, "delegates", "(I)I"⟩
abbrev cX3_isOut : ByteArray := prog_1_method_24_code
def yX3_isOut : MethodName := ⟨RX3, "isOut", "(I)Z"⟩
abbrev cX3_bandAt : ByteArray := prog_1_method_25_code
def yX3_bandAt : MethodName := ⟨RX3, "bandAt", "(I)LUnionOffice$Band;"⟩
abbrev cX3_branchAt : ByteArray := prog_1_method_26_code
def yX3_branchAt : MethodName := ⟨RX3, "branchAt", "(I)LUnionOffice$Branch;"⟩
abbrev cX3_memberAt : ByteArray := prog_1_method_27_code
def yX3_memberAt : MethodName := ⟨RX3, "memberAt", "(I)LUnionOffice$Member;"⟩
abbrev cX3_checkNotLeft : ByteArray := prog_1_method_28_code
def yX3_checkNotLeft : MethodName := ⟨RX3, "checkNotLeft", "(LUnionOffice$Member;)V"⟩
abbrev cX3_checkRange : ByteArray := prog_1_method_29_code
def yX3_checkRange : MethodName := ⟨RX3, "checkRange", "(III)V"⟩
abbrev cX3_checkEnded : ByteArray := prog_1_method_30_code
def yX3_checkEnded : MethodName := ⟨RX3, "checkEnded", "(I)V"⟩
abbrev cX3_hasEnded : ByteArray := prog_1_method_31_code
def yX3_hasEnded : MethodName := ⟨RX3, "hasEnded", "(I)Z"⟩
abbrev cX3_countStanding : ByteArray := prog_1_method_32_code
def yX3_countStanding : MethodName := ⟨RX3, "countStanding", "(LUnionOffice$Branch;)I"⟩
abbrev cX3_sumLaidOn : ByteArray := prog_1_method_33_code
def yX3_sumLaidOn : MethodName := ⟨RX3, "sumLaidOn", "(I)I"⟩
abbrev cX3_endDay : ByteArray := prog_1_method_34_code
def yX3_endDay : MethodName := ⟨RX3, "endDay", "()V"⟩
abbrev cX3_payStrikers : ByteArray := prog_1_method_35_code
def yX3_payStrikers : MethodName := ⟨RX3, "payStrikers", "()V"⟩
abbrev cX3_chargeDues : ByteArray := prog_1_method_36_code
def yX3_chargeDues : MethodName := ⟨RX3, "chargeDues", "(I)V"⟩
abbrev cX3_countDelegates : ByteArray := prog_1_method_37_code
def yX3_countDelegates : MethodName := ⟨RX3, "countDelegates", "()V"⟩
def RX4 : String := "UnionOfficeModel"
def TX4 : u_T := fun k => match k with
  | 0 => ("UnionOfficeModel", "duesOf", "[I", true)
  | 1 => ("UnionOfficeModel", "pay", "I", false)
  | 2 => ("UnionOfficeModel", "now", "I", false)
  | 3 => ("UnionOfficeModel", "money", "I", false)
  | 4 => ("UnionOfficeModel", "folded", "I", false)
  | 5 => ("UnionOfficeModel", "memberMany", "I", false)
  | 6 => ("UnionOfficeModel", "branches", "[I", true)
  | 7 => ("UnionOfficeModel", "bands", "[I", true)
  | 8 => ("UnionOfficeModel", "hasLeft", "[Z", true)
  | 9 => ("UnionOfficeModel", "isAway", "[Z", true)
  | 10 => ("UnionOfficeModel", "credits", "[I", true)
  | 11 => ("UnionOfficeModel", "strikePays", "[I", true)
  | 12 => ("UnionOfficeModel", "debts", "[I", true)
  | 13 => ("UnionOfficeModel", "laidBy", "[I", true)
  | 14 => ("UnionOfficeModel", "laidOf", "[I", true)
  | 15 => ("UnionOfficeModel", "hasBallot", "[Z", true)
  | 16 => ("UnionOfficeModel", "yes", "[I", true)
  | 17 => ("UnionOfficeModel", "no", "[I", true)
  | 18 => ("UnionOfficeModel", "canStrike", "[Z", true)
  | 19 => ("UnionOfficeModel", "isStriking", "[Z", true)
  | 20 => ("UnionOfficeModel", "hasVoted", "[Z", true)
  | 21 => ("UnionOfficeModel", "delegateMany", "[I", true)
  | _ => ("UnionOfficeModel", "thrown", "I", false)
def tyX4 : Nat → FieldType := fun k => match k with
  | 0 => .array .int
  | 1 => .int
  | 2 => .int
  | 3 => .int
  | 4 => .int
  | 5 => .int
  | 6 => .array .int
  | 7 => .array .int
  | 8 => .array .boolean
  | 9 => .array .boolean
  | 10 => .array .int
  | 11 => .array .int
  | 12 => .array .int
  | 13 => .array .int
  | 14 => .array .int
  | 15 => .array .boolean
  | 16 => .array .int
  | 17 => .array .int
  | 18 => .array .boolean
  | 19 => .array .boolean
  | 20 => .array .boolean
  | 21 => .array .int
  | _ => .int
abbrev wsX40 : List Cond := u_ws RX4 TX4 23
theorem nmX4 : ∀ a, a < 23 → ∀ b, b < 23 → a ≠ b → (TX4 a).2.1 ≠ (TX4 b).2.1 := by decide +kernel
theorem tyX4_ok : ∀ k, k < 23 → parseFieldDescriptor (TX4 k).2.2.1 = some (tyX4 k) := by decide +kernel
abbrev cX4_init : ByteArray := prog_6_method_1_code
def yX4_init : MethodName := ⟨RX4, "<init>", "()V"⟩
abbrev cX4_thrown : ByteArray := prog_6_method_2_code
def yX4_thrown : MethodName := ⟨RX4, "thrown", "()I"⟩
abbrev cX4_in : ByteArray := prog_6_method_3_code
def yX4_in : MethodName := ⟨RX4, "in", "(III)Z"⟩
abbrev cX4_isMember : ByteArray := prog_6_method_4_code
def yX4_isMember : MethodName := ⟨RX4, "isMember", "(I)Z"⟩
abbrev cX4_isBranch : ByteArray := prog_6_method_5_code
def yX4_isBranch : MethodName := ⟨RX4, "isBranch", "(I)Z"⟩
abbrev cX4_isBand : ByteArray := prog_6_method_6_code
def yX4_isBand : MethodName := ⟨RX4, "isBand", "(I)Z"⟩
abbrev cX4_stands : ByteArray := prog_6_method_7_code
def yX4_stands : MethodName := ⟨RX4, "stands", "(I)Z"⟩
abbrev cX4_standing : ByteArray := prog_6_method_8_code
def yX4_standing : MethodName := ⟨RX4, "standing", "(I)I"⟩
abbrev cX4_owedBy : ByteArray := prog_6_method_9_code
def yX4_owedBy : MethodName := ⟨RX4, "owedBy", "(I)I"⟩
abbrev cX4_setDues : ByteArray := prog_6_method_10_code
def yX4_setDues : MethodName := ⟨RX4, "setDues", "(II)I"⟩
abbrev cX4_setStrikePay : ByteArray := prog_6_method_11_code
def yX4_setStrikePay : MethodName := ⟨RX4, "setStrikePay", "(I)I"⟩
abbrev cX4_join : ByteArray := prog_6_method_12_code
def yX4_join : MethodName := ⟨RX4, "join", "(II)I"⟩
abbrev cX4_move : ByteArray := prog_6_method_13_code
def yX4_move : MethodName := ⟨RX4, "move", "(III)V"⟩
abbrev cX4_leave : ByteArray := prog_6_method_14_code
def yX4_leave : MethodName := ⟨RX4, "leave", "(IZ)Z"⟩
abbrev cX4_quit : ByteArray := prog_6_method_15_code
def yX4_quit : MethodName := ⟨RX4, "quit", "(I)I"⟩
abbrev cX4_lay : ByteArray := prog_6_method_16_code
def yX4_lay : MethodName := ⟨RX4, "lay", "(I)V"⟩
abbrev cX4_pay : ByteArray := prog_6_method_17_code
def yX4_pay : MethodName := ⟨RX4, "pay", "(II)I"⟩
abbrev cX4_open : ByteArray := prog_6_method_18_code
def yX4_open : MethodName := ⟨RX4, "open", "(I)I"⟩
abbrev cX4_vote : ByteArray := prog_6_method_19_code
def yX4_vote : MethodName := ⟨RX4, "vote", "(IZ)I"⟩
abbrev cX4_close : ByteArray := prog_6_method_20_code
def yX4_close : MethodName := ⟨RX4, "close", "(I)Z"⟩
abbrev cX4_strike : ByteArray := prog_6_method_21_code
def yX4_strike : MethodName := ⟨RX4, "strike", "(IZ)V"⟩
abbrev cX4_payStrikes : ByteArray := prog_6_method_22_code
def yX4_payStrikes : MethodName := ⟨RX4, "payStrikes", "()V"⟩
abbrev cX4_takeDues : ByteArray := prog_6_method_23_code
def yX4_takeDues : MethodName := ⟨RX4, "takeDues", "()V"⟩
abbrev cX4_advance : ByteArray := prog_6_method_24_code
def yX4_advance : MethodName := ⟨RX4, "advance", "(I)I"⟩
abbrev cX4_hasEnded : ByteArray := prog_6_method_25_code
def yX4_hasEnded : MethodName := ⟨RX4, "hasEnded", "(I)Z"⟩
abbrev cX4_fold : ByteArray := prog_6_method_26_code
def yX4_fold : MethodName := ⟨RX4, "fold", "(I)I"⟩
abbrev cX4_day : ByteArray := prog_6_method_27_code
def yX4_day : MethodName := ⟨RX4, "day", "()I"⟩
abbrev cX4_fund : ByteArray := prog_6_method_28_code
def yX4_fund : MethodName := ⟨RX4, "fund", "()I"⟩
abbrev cX4_asksFor : ByteArray := prog_6_method_29_code
def yX4_asksFor : MethodName := ⟨RX4, "asksFor", "(I)Z"⟩
abbrev cX4_owed : ByteArray := prog_6_method_30_code
def yX4_owed : MethodName := ⟨RX4, "owed", "(I)I"⟩
abbrev cX4_credit : ByteArray := prog_6_method_31_code
def yX4_credit : MethodName := ⟨RX4, "credit", "(I)I"⟩
abbrev cX4_laid : ByteArray := prog_6_method_32_code
def yX4_laid : MethodName := ⟨RX4, "laid", "(II)I"⟩
abbrev cX4_laidFor : ByteArray := prog_6_method_33_code
def yX4_laidFor : MethodName := ⟨RX4, "laidFor", "(II)I"⟩
abbrev cX4_hasStanding : ByteArray := prog_6_method_34_code
def yX4_hasStanding : MethodName := ⟨RX4, "hasStanding", "(I)Z"⟩
abbrev cX4_strikePay : ByteArray := prog_6_method_35_code
def yX4_strikePay : MethodName := ⟨RX4, "strikePay", "(I)I"⟩
abbrev cX4_delegates : ByteArray := prog_6_method_36_code
def yX4_delegates : MethodName := ⟨RX4, "delegates", "(I)I"⟩
abbrev cX4_isOut : ByteArray := prog_6_method_37_code
def yX4_isOut : MethodName := ⟨RX4, "isOut", "(I)Z"⟩
def RJ6 : String := "java/lang/Integer"
def TJ6 : u_T := fun k => match k with
  | _ => ("", "", "", false)
def tyJ6 : Nat → FieldType := fun k => match k with
  | _ => .int
abbrev wsJ60 : List Cond := u_ws RJ6 TJ6 0
theorem nmJ6 : ∀ a, a < 0 → ∀ b, b < 0 → a ≠ b → (TJ6 a).2.1 ≠ (TJ6 b).2.1 := by decide +kernel
theorem tyJ6_ok : ∀ k, k < 0 → parseFieldDescriptor (TJ6 k).2.2.1 = some (tyJ6 k) := by decide +kernel
abbrev cJ6_bitCount_0f7a4 : ByteArray := prog_11_method_49_code
def yJ6_bitCount_0f7a4 : MethodName := ⟨RJ6, "bitCount", "(I)I"⟩
def RJ9 : String := "java/lang/Math"
def TJ9 : u_T := fun k => match k with
  | _ => ("", "", "", false)
def tyJ9 : Nat → FieldType := fun k => match k with
  | _ => .int
abbrev wsJ90 : List Cond := u_ws RJ9 TJ9 0
theorem nmJ9 : ∀ a, a < 0 → ∀ b, b < 0 → a ≠ b → (TJ9 a).2.1 ≠ (TJ9 b).2.1 := by decide +kernel
theorem tyJ9_ok : ∀ k, k < 0 → parseFieldDescriptor (TJ9 k).2.2.1 = some (tyJ9 k) := by decide +kernel
abbrev cJ9_min_7cf53 : ByteArray := prog_12_method_69_code
def yJ9_min_7cf53 : MethodName := ⟨RJ9, "min", "(II)I"⟩
def RJ0 : String := "java/lang/String"
def TJ0 : u_T := fun k => match k with
  | _ => ("", "", "", false)
def tyJ0 : Nat → FieldType := fun k => match k with
  | _ => .int
abbrev wsJ00 : List Cond := u_ws RJ0 TJ0 0
theorem nmJ0 : ∀ a, a < 0 → ∀ b, b < 0 → a ≠ b → (TJ0 a).2.1 ≠ (TJ0 b).2.1 := by decide +kernel
theorem tyJ0_ok : ∀ k, k < 0 → parseFieldDescriptor (TJ0 k).2.2.1 = some (tyJ0 k) := by decide +kernel
def RL : String := "UnionOfficeLaw"
abbrev cL_setDues : ByteArray := method_3_code
def yL_setDues : MethodName := ⟨RL, "setDues", "(LUnionOffice;II[J)I"⟩
abbrev cL_setStrikePay : ByteArray := method_4_code
def yL_setStrikePay : MethodName := ⟨RL, "setStrikePay", "(LUnionOffice;I[J)I"⟩
abbrev cL_join : ByteArray := method_5_code
def yL_join : MethodName := ⟨RL, "join", "(LUnionOffice;II[J)I"⟩
abbrev cL_move : ByteArray := method_6_code
def yL_move : MethodName := ⟨RL, "move", "(LUnionOffice;III)I"⟩
abbrev cL_leave : ByteArray := method_7_code
def yL_leave : MethodName := ⟨RL, "leave", "(LUnionOffice;IZ[J)I"⟩
abbrev cL_quit : ByteArray := method_8_code
def yL_quit : MethodName := ⟨RL, "quit", "(LUnionOffice;I[J)I"⟩
abbrev cL_pay : ByteArray := method_9_code
def yL_pay : MethodName := ⟨RL, "pay", "(LUnionOffice;II[J)I"⟩
abbrev cL_open : ByteArray := method_10_code
def yL_open : MethodName := ⟨RL, "open", "(LUnionOffice;I[J)I"⟩
abbrev cL_vote : ByteArray := method_11_code
def yL_vote : MethodName := ⟨RL, "vote", "(LUnionOffice;IZ[J)I"⟩
abbrev cL_close : ByteArray := method_12_code
def yL_close : MethodName := ⟨RL, "close", "(LUnionOffice;I[J)I"⟩
abbrev cL_strike : ByteArray := method_13_code
def yL_strike : MethodName := ⟨RL, "strike", "(LUnionOffice;IZ)I"⟩
abbrev cL_advance : ByteArray := method_14_code
def yL_advance : MethodName := ⟨RL, "advance", "(LUnionOffice;I[J)I"⟩
abbrev cL_fold : ByteArray := method_15_code
def yL_fold : MethodName := ⟨RL, "fold", "(LUnionOffice;I[J)I"⟩
abbrev cL_owed : ByteArray := method_16_code
def yL_owed : MethodName := ⟨RL, "owed", "(LUnionOffice;I[J)I"⟩
abbrev cL_credit : ByteArray := method_17_code
def yL_credit : MethodName := ⟨RL, "credit", "(LUnionOffice;I[J)I"⟩
abbrev cL_laid : ByteArray := method_18_code
def yL_laid : MethodName := ⟨RL, "laid", "(LUnionOffice;II[J)I"⟩
abbrev cL_laidFor : ByteArray := method_19_code
def yL_laidFor : MethodName := ⟨RL, "laidFor", "(LUnionOffice;II[J)I"⟩
abbrev cL_hasStanding : ByteArray := method_20_code
def yL_hasStanding : MethodName := ⟨RL, "hasStanding", "(LUnionOffice;I[J)I"⟩
abbrev cL_strikePay : ByteArray := method_21_code
def yL_strikePay : MethodName := ⟨RL, "strikePay", "(LUnionOffice;I[J)I"⟩
abbrev cL_delegates : ByteArray := method_22_code
def yL_delegates : MethodName := ⟨RL, "delegates", "(LUnionOffice;I[J)I"⟩
abbrev cL_isOut : ByteArray := method_23_code
def yL_isOut : MethodName := ⟨RL, "isOut", "(LUnionOffice;I[J)I"⟩
abbrev cL_law : ByteArray := code
def yL_law : MethodName := ⟨RL, "law", "([I)Z"⟩
def wsX0_init : List Cond := .code yX0_init cX0_init 2 none :: ([.methodLink RX0 1 objectInit, .instanceMethod objectInit, .code objectInit ⟨#[0xb1]⟩ 1 none, .fieldLink RX0 7 "UnionOffice$Band" "monthlyDues" "I"] ++ wsX00)
def wsX1_init : List Cond := .code yX1_init cX1_init 1 none :: ([.methodLink RX1 3 objectInit, .instanceMethod objectInit, .code objectInit ⟨#[0xb1]⟩ 1 none, .arrayClass .int, .fieldLink RX1 9 "UnionOffice$Branch" "laidOn" "[I", .fieldLink RX1 15 "UnionOffice$Branch" "hasBallot" "Z", .fieldLink RX1 19 "UnionOffice$Branch" "voters" "I", .fieldLink RX1 23 "UnionOffice$Branch" "yesVoters" "I", .fieldLink RX1 26 "UnionOffice$Branch" "mayStrike" "Z", .fieldLink RX1 29 "UnionOffice$Branch" "isOnStrike" "Z", .fieldLink RX1 32 "UnionOffice$Branch" "delegatesOfYear" "I"] ++ wsX10)
def wsX1_beginBallot : List Cond := .code yX1_beginBallot cX1_beginBallot 1 none :: ([.fieldLink RX1 15 "UnionOffice$Branch" "hasBallot" "Z", .fieldLink RX1 19 "UnionOffice$Branch" "voters" "I", .fieldLink RX1 23 "UnionOffice$Branch" "yesVoters" "I"] ++ wsX10)
def wsX2_bit : List Cond := .code yX2_bit cX2_bit 1 (some .int) :: ([.fieldLink RX2 35 "UnionOffice$Member" "number" "I"] ++ wsX20)
def wsX1_hasVoteOf : List Cond := .code yX1_hasVoteOf cX1_hasVoteOf 2 (some .boolean) :: ([.fieldLink RX1 19 "UnionOffice$Branch" "voters" "I", .instanceMethod yX2_bit, .initialized RX2, .selects RX2 yX2_bit yX2_bit, .code yX2_bit cX2_bit 1 (some .int), .fieldLink RX2 35 "UnionOffice$Member" "number" "I"] ++ wsX10 ++ wsX20)
def wsX1_takeVote : List Cond := .code yX1_takeVote cX1_takeVote 3 none :: ([.fieldLink RX1 19 "UnionOffice$Branch" "voters" "I", .fieldLink RX1 23 "UnionOffice$Branch" "yesVoters" "I", .instanceMethod yX2_bit, .initialized RX2, .selects RX2 yX2_bit yX2_bit, .code yX2_bit cX2_bit 1 (some .int), .fieldLink RX2 35 "UnionOffice$Member" "number" "I"] ++ wsX10 ++ wsX20)
def wsJ6_bitCount_0f7a4 : List Cond := .code yJ6_bitCount_0f7a4 cJ6_bitCount_0f7a4 1 (some .int) :: ([.constant RJ6 265 (1431655765), .constant RJ6 266 (858993459), .constant RJ6 267 (252645135)])
def wsX1_countVotes : List Cond := .code yX1_countVotes cX1_countVotes 1 (some .int) :: ([.fieldLink RX1 19 "UnionOffice$Branch" "voters" "I", .methodLink RX1 41 yJ6_bitCount_0f7a4, .static yJ6_bitCount_0f7a4, .initialized RJ6, .code yJ6_bitCount_0f7a4 cJ6_bitCount_0f7a4 1 (some .int), .constant RJ6 265 (1431655765), .constant RJ6 266 (858993459), .constant RJ6 267 (252645135)] ++ wsX10)
def wsX1_endBallot : List Cond := .code yX1_endBallot cX1_endBallot 4 none :: ([.fieldLink RX1 23 "UnionOffice$Branch" "yesVoters" "I", .fieldLink RX1 15 "UnionOffice$Branch" "hasBallot" "Z", .fieldLink RX1 26 "UnionOffice$Branch" "mayStrike" "Z", .methodLink RX1 47 yX1_countVotes, .instanceMethod yX1_countVotes, .selects RX1 yX1_countVotes yX1_countVotes, .initialized RX1, .code yX1_countVotes cX1_countVotes 1 (some .int), .fieldLink RX1 19 "UnionOffice$Branch" "voters" "I", .methodLink RX1 41 yJ6_bitCount_0f7a4, .static yJ6_bitCount_0f7a4, .initialized RJ6, .code yJ6_bitCount_0f7a4 cJ6_bitCount_0f7a4 1 (some .int), .constant RJ6 265 (1431655765), .constant RJ6 266 (858993459), .constant RJ6 267 (252645135)] ++ wsX10)
def wsX1_canBeCalledOut : List Cond := .code yX1_canBeCalledOut cX1_canBeCalledOut 1 (some .boolean) :: ([.fieldLink RX1 26 "UnionOffice$Branch" "mayStrike" "Z", .fieldLink RX1 29 "UnionOffice$Branch" "isOnStrike" "Z", .fieldLink RX1 15 "UnionOffice$Branch" "hasBallot" "Z"] ++ wsX10)
def wsX2_init : List Cond := .code yX2_init cX2_init 4 none :: ([.methodLink RX2 3 objectInit, .instanceMethod objectInit, .code objectInit ⟨#[0xb1]⟩ 1 none, .arrayClass .int, .fieldLink RX2 9 "UnionOffice$Member" "owedFor" "[I", .fieldLink RX2 15 "UnionOffice$Member" "laidOn" "[I", .fieldLink RX2 18 "UnionOffice$Member" "isOnLeave" "Z", .fieldLink RX2 22 "UnionOffice$Member" "hasLeft" "Z", .fieldLink RX2 25 "UnionOffice$Member" "leftOver" "I", .fieldLink RX2 29 "UnionOffice$Member" "strikePayHad" "I", .fieldLink RX2 32 "UnionOffice$Member" "earliestOwed" "I", .fieldLink RX2 35 "UnionOffice$Member" "number" "I", .fieldLink RX2 38 "UnionOffice$Member" "branch" "LUnionOffice$Branch;", .fieldLink RX2 42 "UnionOffice$Member" "band" "LUnionOffice$Band;"] ++ wsX20)
def wsX2_standsOn : List Cond := .code yX2_standsOn cX2_standsOn 3 (some .boolean) :: ([.fieldLink RX2 32 "UnionOffice$Member" "earliestOwed" "I", .fieldLink RX2 22 "UnionOffice$Member" "hasLeft" "Z"] ++ wsX20)
def wsX2_sumOwed : List Cond := .code yX2_sumOwed cX2_sumOwed 3 (some .int) :: ([.fieldLink RX2 32 "UnionOffice$Member" "earliestOwed" "I", .fieldLink RX2 9 "UnionOffice$Member" "owedFor" "[I"] ++ wsX20)
def wsX2_skipSettled : List Cond := .code yX2_skipSettled cX2_skipSettled 1 none :: ([.fieldLink RX2 32 "UnionOffice$Member" "earliestOwed" "I", .fieldLink RX2 9 "UnionOffice$Member" "owedFor" "[I"] ++ wsX20)
def wsX2_layLeftOver : List Cond := .code yX2_layLeftOver cX2_layLeftOver 4 (some .int) :: ([.fieldLink RX2 32 "UnionOffice$Member" "earliestOwed" "I", .fieldLink RX2 25 "UnionOffice$Member" "leftOver" "I", .fieldLink RX2 9 "UnionOffice$Member" "owedFor" "[I", .methodLink RX2 51 Lib.Math.min.name, .static Lib.Math.min.name, .initialized "java/lang/Math", .code Lib.Math.min.name Lib.Math.min.code 2 (some .int), .fieldLink RX2 15 "UnionOffice$Member" "laidOn" "[I", .fieldLink RX2 38 "UnionOffice$Member" "branch" "LUnionOffice$Branch;", .methodLink RX2 64 yX2_skipSettled, .instanceMethod yX2_skipSettled, .selects RX2 yX2_skipSettled yX2_skipSettled, .initialized RX2, .code yX2_skipSettled cX2_skipSettled 1 none] ++ wsX20 ++ wsX10)
def wsX2_charge : List Cond := .code yX2_charge cX2_charge 2 (some .int) :: ([.fieldLink RX2 42 "UnionOffice$Member" "band" "LUnionOffice$Band;", .fieldLink RX2 9 "UnionOffice$Member" "owedFor" "[I", .fieldLink RX2 32 "UnionOffice$Member" "earliestOwed" "I", .methodLink RX2 51 Lib.Math.min.name, .static Lib.Math.min.name, .initialized "java/lang/Math", .code Lib.Math.min.name Lib.Math.min.code 2 (some .int), .methodLink RX2 57 yX2_layLeftOver, .instanceMethod yX2_layLeftOver, .selects RX2 yX2_layLeftOver yX2_layLeftOver, .initialized RX2, .code yX2_layLeftOver cX2_layLeftOver 4 (some .int), .fieldLink RX2 25 "UnionOffice$Member" "leftOver" "I", .fieldLink RX2 15 "UnionOffice$Member" "laidOn" "[I", .fieldLink RX2 38 "UnionOffice$Member" "branch" "LUnionOffice$Branch;", .methodLink RX2 64 yX2_skipSettled, .instanceMethod yX2_skipSettled, .selects RX2 yX2_skipSettled yX2_skipSettled, .code yX2_skipSettled cX2_skipSettled 1 none] ++ wsX20 ++ wsX00 ++ wsX10)
def wsX2_takeIn : List Cond := .code yX2_takeIn cX2_takeIn 2 (some .int) :: ([.fieldLink RX2 25 "UnionOffice$Member" "leftOver" "I", .methodLink RX2 57 yX2_layLeftOver, .instanceMethod yX2_layLeftOver, .selects RX2 yX2_layLeftOver yX2_layLeftOver, .initialized RX2, .code yX2_layLeftOver cX2_layLeftOver 4 (some .int), .fieldLink RX2 32 "UnionOffice$Member" "earliestOwed" "I", .fieldLink RX2 9 "UnionOffice$Member" "owedFor" "[I", .methodLink RX2 51 Lib.Math.min.name, .static Lib.Math.min.name, .initialized "java/lang/Math", .code Lib.Math.min.name Lib.Math.min.code 2 (some .int), .fieldLink RX2 15 "UnionOffice$Member" "laidOn" "[I", .fieldLink RX2 38 "UnionOffice$Member" "branch" "LUnionOffice$Branch;", .methodLink RX2 64 yX2_skipSettled, .instanceMethod yX2_skipSettled, .selects RX2 yX2_skipSettled yX2_skipSettled, .code yX2_skipSettled cX2_skipSettled 1 none] ++ wsX20 ++ wsX10)
def wsX3_init_r1 : List Cond := [Cond.methodLink RX3 3 objectInit, Cond.instanceMethod objectInit, Cond.code objectInit ⟨#[0xb1]⟩ 1 none, Cond.classLink RX3 9 RX0, Cond.instantiable RX0 1, Cond.initialized RX0, Cond.fieldLink RX3 14 "UnionOffice" "bands" "[LUnionOffice$Band;", Cond.classLink RX3 18 RX1, Cond.instantiable RX1 7, Cond.initialized RX1, Cond.fieldLink RX3 21 "UnionOffice" "branches" "[LUnionOffice$Branch;", Cond.classLink RX3 25 RX2, Cond.fieldLink RX3 27 "UnionOffice" "members" "[LUnionOffice$Member;", Cond.fieldLink RX3 31 "UnionOffice" "joined" "I", Cond.fieldLink RX3 35 "UnionOffice" "payOfStrikeDay" "I", Cond.fieldLink RX3 38 "UnionOffice" "today" "I", Cond.fieldLink RX3 41 "UnionOffice" "inFund" "I", Cond.fieldLink RX3 44 "UnionOffice" "foldedMonths" "I", Cond.instanceMethod yX0_init, Cond.code yX0_init cX0_init 2 none, Cond.methodLink RX0 1 objectInit, Cond.fieldLink RX0 7 "UnionOffice$Band" "monthlyDues" "I", Cond.instanceMethod yX1_init, Cond.code yX1_init cX1_init 1 none]
def wsX3_init_r2 : List Cond := [Cond.methodLink RX1 3 objectInit, Cond.arrayClass .int, Cond.fieldLink RX1 9 "UnionOffice$Branch" "laidOn" "[I", Cond.fieldLink RX1 15 "UnionOffice$Branch" "hasBallot" "Z", Cond.fieldLink RX1 19 "UnionOffice$Branch" "voters" "I", Cond.fieldLink RX1 23 "UnionOffice$Branch" "yesVoters" "I", Cond.fieldLink RX1 26 "UnionOffice$Branch" "mayStrike" "Z", Cond.fieldLink RX1 29 "UnionOffice$Branch" "isOnStrike" "Z", Cond.fieldLink RX1 32 "UnionOffice$Branch" "delegatesOfYear" "I"]
def wsX3_init : List Cond := .code yX3_init cX3_init 1 none :: ((wsX3_init_r1 ++ wsX3_init_r2) ++ wsX00 ++ wsX30 ++ wsX10)
def wsX3_bandAt : List Cond := .code yX3_bandAt cX3_bandAt 2 (some (.object "UnionOffice$Band")) :: ([.classLink RX3 186 "java/lang/IndexOutOfBoundsException", .initialized "java/lang/IndexOutOfBoundsException", .fieldLink RX3 14 "UnionOffice" "bands" "[LUnionOffice$Band;"] ++ wsX30 ++ (vx_atS RX3 190 "java/lang/IndexOutOfBoundsException" ["java/lang/RuntimeException", "java/lang/Exception"]).filter goodWord)
def wsX3_checkRange : List Cond := .code yX3_checkRange cX3_checkRange 4 none :: ([.classLink RX3 159 "java/lang/IllegalArgumentException", .initialized "java/lang/IllegalArgumentException"] ++ (vx_atS RX3 163 "java/lang/IllegalArgumentException" ["java/lang/RuntimeException", "java/lang/Exception"]).filter goodWord)
def wsX3_setDues : List Cond := .code yX3_setDues cX3_setDues 5 (some .int) :: ([.constant RX3 51 (100000), .methodLink RX3 47 yX3_bandAt, .instanceMethod yX3_bandAt, .selects RX3 yX3_bandAt yX3_bandAt, .initialized RX3, .code yX3_bandAt cX3_bandAt 2 (some (.object "UnionOffice$Band")), .classLink RX3 186 "java/lang/IndexOutOfBoundsException", .initialized "java/lang/IndexOutOfBoundsException", .fieldLink RX3 14 "UnionOffice" "bands" "[LUnionOffice$Band;", .methodLink RX3 52 yX3_checkRange, .instanceMethod yX3_checkRange, .selects RX3 yX3_checkRange yX3_checkRange, .code yX3_checkRange cX3_checkRange 4 none, .classLink RX3 159 "java/lang/IllegalArgumentException", .initialized "java/lang/IllegalArgumentException"] ++ wsX00 ++ wsX30 ++ (vx_atS RX3 190 "java/lang/IndexOutOfBoundsException" ["java/lang/RuntimeException", "java/lang/Exception"]).filter goodWord ++ (vx_atS RX3 163 "java/lang/IllegalArgumentException" ["java/lang/RuntimeException", "java/lang/Exception"]).filter goodWord)
def wsX3_setStrikePay : List Cond := .code yX3_setStrikePay cX3_setStrikePay 3 (some .int) :: ([.constant RX3 51 (100000), .fieldLink RX3 35 "UnionOffice" "payOfStrikeDay" "I", .methodLink RX3 52 yX3_checkRange, .instanceMethod yX3_checkRange, .selects RX3 yX3_checkRange yX3_checkRange, .initialized RX3, .code yX3_checkRange cX3_checkRange 4 none, .classLink RX3 159 "java/lang/IllegalArgumentException", .initialized "java/lang/IllegalArgumentException"] ++ wsX30 ++ (vx_atS RX3 163 "java/lang/IllegalArgumentException" ["java/lang/RuntimeException", "java/lang/Exception"]).filter goodWord)
def wsX3_branchAt : List Cond := .code yX3_branchAt cX3_branchAt 2 (some (.object "UnionOffice$Branch")) :: ([.classLink RX3 186 "java/lang/IndexOutOfBoundsException", .initialized "java/lang/IndexOutOfBoundsException", .fieldLink RX3 21 "UnionOffice" "branches" "[LUnionOffice$Branch;"] ++ wsX30 ++ (vx_atS RX3 190 "java/lang/IndexOutOfBoundsException" ["java/lang/RuntimeException", "java/lang/Exception"]).filter goodWord)
def wsX3_join_r1 : List Cond := [Cond.classLink RX3 63 "java/lang/IllegalStateException", Cond.initialized "java/lang/IllegalStateException", Cond.fieldLink RX3 31 "UnionOffice" "joined" "I", Cond.fieldLink RX3 27 "UnionOffice" "members" "[LUnionOffice$Member;", Cond.classLink RX3 25 RX2, Cond.instantiable RX2 10, Cond.initialized RX2, Cond.methodLink RX3 59 yX3_branchAt, Cond.instanceMethod yX3_branchAt, Cond.selects RX3 yX3_branchAt yX3_branchAt, Cond.initialized RX3, Cond.code yX3_branchAt cX3_branchAt 2 (some (.object "UnionOffice$Branch")), Cond.classLink RX3 186 "java/lang/IndexOutOfBoundsException", Cond.initialized "java/lang/IndexOutOfBoundsException", Cond.fieldLink RX3 21 "UnionOffice" "branches" "[LUnionOffice$Branch;", Cond.methodLink RX3 47 yX3_bandAt, Cond.instanceMethod yX3_bandAt, Cond.selects RX3 yX3_bandAt yX3_bandAt, Cond.code yX3_bandAt cX3_bandAt 2 (some (.object "UnionOffice$Band")), Cond.fieldLink RX3 14 "UnionOffice" "bands" "[LUnionOffice$Band;", Cond.instanceMethod yX2_init, Cond.code yX2_init cX2_init 4 none, Cond.methodLink RX2 3 objectInit, Cond.instanceMethod objectInit]
def wsX3_join_r2 : List Cond := [Cond.code objectInit ⟨#[0xb1]⟩ 1 none, Cond.arrayClass .int, Cond.fieldLink RX2 9 "UnionOffice$Member" "owedFor" "[I", Cond.fieldLink RX2 15 "UnionOffice$Member" "laidOn" "[I", Cond.fieldLink RX2 18 "UnionOffice$Member" "isOnLeave" "Z", Cond.fieldLink RX2 22 "UnionOffice$Member" "hasLeft" "Z", Cond.fieldLink RX2 25 "UnionOffice$Member" "leftOver" "I", Cond.fieldLink RX2 29 "UnionOffice$Member" "strikePayHad" "I", Cond.fieldLink RX2 32 "UnionOffice$Member" "earliestOwed" "I", Cond.fieldLink RX2 35 "UnionOffice$Member" "number" "I", Cond.fieldLink RX2 38 "UnionOffice$Member" "branch" "LUnionOffice$Branch;", Cond.fieldLink RX2 42 "UnionOffice$Member" "band" "LUnionOffice$Band;"]
def wsX3_join : List Cond := .code yX3_join cX3_join 6 (some .int) :: ((wsX3_join_r1 ++ wsX3_join_r2) ++ wsX30 ++ wsX20 ++ (vx_atS RX3 67 "java/lang/IllegalStateException" ["java/lang/RuntimeException", "java/lang/Exception"]).filter goodWord ++ (vx_atS RX3 190 "java/lang/IndexOutOfBoundsException" ["java/lang/RuntimeException", "java/lang/Exception"]).filter goodWord)
def wsX3_memberAt : List Cond := .code yX3_memberAt cX3_memberAt 2 (some (.object "UnionOffice$Member")) :: ([.classLink RX3 186 "java/lang/IndexOutOfBoundsException", .initialized "java/lang/IndexOutOfBoundsException", .fieldLink RX3 27 "UnionOffice" "members" "[LUnionOffice$Member;"] ++ wsX30 ++ (vx_atS RX3 190 "java/lang/IndexOutOfBoundsException" ["java/lang/RuntimeException", "java/lang/Exception"]).filter goodWord)
def wsX3_checkNotLeft : List Cond := .code yX3_checkNotLeft cX3_checkNotLeft 2 none :: ([.classLink RX3 63 "java/lang/IllegalStateException", .initialized "java/lang/IllegalStateException"] ++ wsX20 ++ (vx_atS RX3 67 "java/lang/IllegalStateException" ["java/lang/RuntimeException", "java/lang/Exception"]).filter goodWord)
def wsX3_move : List Cond := .code yX3_move cX3_move 7 none :: ([.methodLink RX3 73 yX3_memberAt, .instanceMethod yX3_memberAt, .selects RX3 yX3_memberAt yX3_memberAt, .initialized RX3, .code yX3_memberAt cX3_memberAt 2 (some (.object "UnionOffice$Member")), .classLink RX3 186 "java/lang/IndexOutOfBoundsException", .initialized "java/lang/IndexOutOfBoundsException", .fieldLink RX3 27 "UnionOffice" "members" "[LUnionOffice$Member;", .methodLink RX3 59 yX3_branchAt, .instanceMethod yX3_branchAt, .selects RX3 yX3_branchAt yX3_branchAt, .code yX3_branchAt cX3_branchAt 2 (some (.object "UnionOffice$Branch")), .fieldLink RX3 21 "UnionOffice" "branches" "[LUnionOffice$Branch;", .methodLink RX3 47 yX3_bandAt, .instanceMethod yX3_bandAt, .selects RX3 yX3_bandAt yX3_bandAt, .code yX3_bandAt cX3_bandAt 2 (some (.object "UnionOffice$Band")), .fieldLink RX3 14 "UnionOffice" "bands" "[LUnionOffice$Band;", .methodLink RX3 77 yX3_checkNotLeft, .instanceMethod yX3_checkNotLeft, .selects RX3 yX3_checkNotLeft yX3_checkNotLeft, .code yX3_checkNotLeft cX3_checkNotLeft 2 none, .classLink RX3 63 "java/lang/IllegalStateException", .initialized "java/lang/IllegalStateException"] ++ wsX20 ++ wsX30 ++ (vx_atS RX3 190 "java/lang/IndexOutOfBoundsException" ["java/lang/RuntimeException", "java/lang/Exception"]).filter goodWord ++ (vx_atS RX3 67 "java/lang/IllegalStateException" ["java/lang/RuntimeException", "java/lang/Exception"]).filter goodWord)
def wsX3_leave : List Cond := .code yX3_leave cX3_leave 5 (some .boolean) :: ([.methodLink RX3 73 yX3_memberAt, .instanceMethod yX3_memberAt, .selects RX3 yX3_memberAt yX3_memberAt, .initialized RX3, .code yX3_memberAt cX3_memberAt 2 (some (.object "UnionOffice$Member")), .classLink RX3 186 "java/lang/IndexOutOfBoundsException", .initialized "java/lang/IndexOutOfBoundsException", .fieldLink RX3 27 "UnionOffice" "members" "[LUnionOffice$Member;", .methodLink RX3 77 yX3_checkNotLeft, .instanceMethod yX3_checkNotLeft, .selects RX3 yX3_checkNotLeft yX3_checkNotLeft, .code yX3_checkNotLeft cX3_checkNotLeft 2 none, .classLink RX3 63 "java/lang/IllegalStateException", .initialized "java/lang/IllegalStateException"] ++ wsX20 ++ wsX30 ++ (vx_atS RX3 190 "java/lang/IndexOutOfBoundsException" ["java/lang/RuntimeException", "java/lang/Exception"]).filter goodWord ++ (vx_atS RX3 67 "java/lang/IllegalStateException" ["java/lang/RuntimeException", "java/lang/Exception"]).filter goodWord)
def wsX3_quit : List Cond := .code yX3_quit cX3_quit 3 (some .int) :: ([.methodLink RX3 73 yX3_memberAt, .instanceMethod yX3_memberAt, .selects RX3 yX3_memberAt yX3_memberAt, .initialized RX3, .code yX3_memberAt cX3_memberAt 2 (some (.object "UnionOffice$Member")), .classLink RX3 186 "java/lang/IndexOutOfBoundsException", .initialized "java/lang/IndexOutOfBoundsException", .fieldLink RX3 27 "UnionOffice" "members" "[LUnionOffice$Member;", .methodLink RX3 77 yX3_checkNotLeft, .instanceMethod yX3_checkNotLeft, .selects RX3 yX3_checkNotLeft yX3_checkNotLeft, .code yX3_checkNotLeft cX3_checkNotLeft 2 none, .classLink RX3 63 "java/lang/IllegalStateException", .initialized "java/lang/IllegalStateException", .instanceMethod yX2_sumOwed, .initialized RX2, .selects RX2 yX2_sumOwed yX2_sumOwed, .code yX2_sumOwed cX2_sumOwed 3 (some .int), .fieldLink RX2 32 "UnionOffice$Member" "earliestOwed" "I", .fieldLink RX2 9 "UnionOffice$Member" "owedFor" "[I"] ++ wsX20 ++ wsX30 ++ (vx_atS RX3 190 "java/lang/IndexOutOfBoundsException" ["java/lang/RuntimeException", "java/lang/Exception"]).filter goodWord ++ (vx_atS RX3 67 "java/lang/IllegalStateException" ["java/lang/RuntimeException", "java/lang/Exception"]).filter goodWord)
def wsX3_pay_r1 : List Cond := [Cond.constant RX3 100 (1000000), Cond.fieldLink RX3 41 "UnionOffice" "inFund" "I", Cond.methodLink RX3 73 yX3_memberAt, Cond.instanceMethod yX3_memberAt, Cond.selects RX3 yX3_memberAt yX3_memberAt, Cond.initialized RX3, Cond.code yX3_memberAt cX3_memberAt 2 (some (.object "UnionOffice$Member")), Cond.classLink RX3 186 "java/lang/IndexOutOfBoundsException", Cond.initialized "java/lang/IndexOutOfBoundsException", Cond.fieldLink RX3 27 "UnionOffice" "members" "[LUnionOffice$Member;", Cond.methodLink RX3 52 yX3_checkRange, Cond.instanceMethod yX3_checkRange, Cond.selects RX3 yX3_checkRange yX3_checkRange, Cond.code yX3_checkRange cX3_checkRange 4 none, Cond.classLink RX3 159 "java/lang/IllegalArgumentException", Cond.initialized "java/lang/IllegalArgumentException", Cond.instanceMethod yX2_takeIn, Cond.initialized RX2, Cond.selects RX2 yX2_takeIn yX2_takeIn, Cond.code yX2_takeIn cX2_takeIn 2 (some .int), Cond.fieldLink RX2 25 "UnionOffice$Member" "leftOver" "I", Cond.methodLink RX2 57 yX2_layLeftOver, Cond.instanceMethod yX2_layLeftOver, Cond.selects RX2 yX2_layLeftOver yX2_layLeftOver]
def wsX3_pay_r2 : List Cond := [Cond.code yX2_layLeftOver cX2_layLeftOver 4 (some .int), Cond.fieldLink RX2 32 "UnionOffice$Member" "earliestOwed" "I", Cond.fieldLink RX2 9 "UnionOffice$Member" "owedFor" "[I", Cond.methodLink RX2 51 Lib.Math.min.name, Cond.static Lib.Math.min.name, Cond.initialized "java/lang/Math", Cond.code Lib.Math.min.name Lib.Math.min.code 2 (some .int), Cond.fieldLink RX2 15 "UnionOffice$Member" "laidOn" "[I", Cond.fieldLink RX2 38 "UnionOffice$Member" "branch" "LUnionOffice$Branch;", Cond.methodLink RX2 64 yX2_skipSettled, Cond.instanceMethod yX2_skipSettled, Cond.selects RX2 yX2_skipSettled yX2_skipSettled, Cond.code yX2_skipSettled cX2_skipSettled 1 none, Cond.instanceMethod yX2_sumOwed, Cond.selects RX2 yX2_sumOwed yX2_sumOwed, Cond.code yX2_sumOwed cX2_sumOwed 3 (some .int)]
def wsX3_pay : List Cond := .code yX3_pay cX3_pay 4 (some .int) :: ((wsX3_pay_r1 ++ wsX3_pay_r2) ++ wsX30 ++ wsX20 ++ wsX10 ++ (vx_atS RX3 190 "java/lang/IndexOutOfBoundsException" ["java/lang/RuntimeException", "java/lang/Exception"]).filter goodWord ++ (vx_atS RX3 163 "java/lang/IllegalArgumentException" ["java/lang/RuntimeException", "java/lang/Exception"]).filter goodWord)
def wsX3_countStanding : List Cond := .code yX3_countStanding cX3_countStanding 7 (some .int) :: ([.fieldLink RX3 27 "UnionOffice" "members" "[LUnionOffice$Member;", .fieldLink RX3 38 "UnionOffice" "today" "I", .instanceMethod yX2_standsOn, .initialized RX2, .selects RX2 yX2_standsOn yX2_standsOn, .code yX2_standsOn cX2_standsOn 3 (some .boolean), .fieldLink RX2 32 "UnionOffice$Member" "earliestOwed" "I", .fieldLink RX2 22 "UnionOffice$Member" "hasLeft" "Z"] ++ wsX30 ++ wsX20)
def wsX3_open_r1 : List Cond := [Cond.classLink RX3 63 "java/lang/IllegalStateException", Cond.initialized "java/lang/IllegalStateException", Cond.methodLink RX3 59 yX3_branchAt, Cond.instanceMethod yX3_branchAt, Cond.selects RX3 yX3_branchAt yX3_branchAt, Cond.initialized RX3, Cond.code yX3_branchAt cX3_branchAt 2 (some (.object "UnionOffice$Branch")), Cond.classLink RX3 186 "java/lang/IndexOutOfBoundsException", Cond.initialized "java/lang/IndexOutOfBoundsException", Cond.fieldLink RX3 21 "UnionOffice" "branches" "[LUnionOffice$Branch;", Cond.instanceMethod yX1_beginBallot, Cond.initialized RX1, Cond.selects RX1 yX1_beginBallot yX1_beginBallot, Cond.code yX1_beginBallot cX1_beginBallot 1 none, Cond.fieldLink RX1 15 "UnionOffice$Branch" "hasBallot" "Z", Cond.fieldLink RX1 19 "UnionOffice$Branch" "voters" "I", Cond.fieldLink RX1 23 "UnionOffice$Branch" "yesVoters" "I", Cond.methodLink RX3 116 yX3_countStanding, Cond.instanceMethod yX3_countStanding, Cond.selects RX3 yX3_countStanding yX3_countStanding, Cond.code yX3_countStanding cX3_countStanding 7 (some .int), Cond.fieldLink RX3 27 "UnionOffice" "members" "[LUnionOffice$Member;", Cond.fieldLink RX3 38 "UnionOffice" "today" "I", Cond.instanceMethod yX2_standsOn]
def wsX3_open_r2 : List Cond := [Cond.initialized RX2, Cond.selects RX2 yX2_standsOn yX2_standsOn, Cond.code yX2_standsOn cX2_standsOn 3 (some .boolean), Cond.fieldLink RX2 32 "UnionOffice$Member" "earliestOwed" "I", Cond.fieldLink RX2 22 "UnionOffice$Member" "hasLeft" "Z"]
def wsX3_open : List Cond := .code yX3_open cX3_open 3 (some .int) :: ((wsX3_open_r1 ++ wsX3_open_r2) ++ wsX10 ++ wsX30 ++ wsX20 ++ (vx_atS RX3 67 "java/lang/IllegalStateException" ["java/lang/RuntimeException", "java/lang/Exception"]).filter goodWord ++ (vx_atS RX3 190 "java/lang/IndexOutOfBoundsException" ["java/lang/RuntimeException", "java/lang/Exception"]).filter goodWord)
def wsX3_vote_r1 : List Cond := [Cond.classLink RX3 63 "java/lang/IllegalStateException", Cond.initialized "java/lang/IllegalStateException", Cond.fieldLink RX3 38 "UnionOffice" "today" "I", Cond.methodLink RX3 73 yX3_memberAt, Cond.instanceMethod yX3_memberAt, Cond.selects RX3 yX3_memberAt yX3_memberAt, Cond.initialized RX3, Cond.code yX3_memberAt cX3_memberAt 2 (some (.object "UnionOffice$Member")), Cond.classLink RX3 186 "java/lang/IndexOutOfBoundsException", Cond.initialized "java/lang/IndexOutOfBoundsException", Cond.fieldLink RX3 27 "UnionOffice" "members" "[LUnionOffice$Member;", Cond.instanceMethod yX2_standsOn, Cond.initialized RX2, Cond.selects RX2 yX2_standsOn yX2_standsOn, Cond.code yX2_standsOn cX2_standsOn 3 (some .boolean), Cond.fieldLink RX2 32 "UnionOffice$Member" "earliestOwed" "I", Cond.fieldLink RX2 22 "UnionOffice$Member" "hasLeft" "Z", Cond.instanceMethod yX1_hasVoteOf, Cond.initialized RX1, Cond.selects RX1 yX1_hasVoteOf yX1_hasVoteOf, Cond.code yX1_hasVoteOf cX1_hasVoteOf 2 (some .boolean), Cond.fieldLink RX1 19 "UnionOffice$Branch" "voters" "I", Cond.instanceMethod yX2_bit, Cond.selects RX2 yX2_bit yX2_bit]
def wsX3_vote_r2 : List Cond := [Cond.code yX2_bit cX2_bit 1 (some .int), Cond.fieldLink RX2 35 "UnionOffice$Member" "number" "I", Cond.instanceMethod yX1_takeVote, Cond.selects RX1 yX1_takeVote yX1_takeVote, Cond.code yX1_takeVote cX1_takeVote 3 none, Cond.fieldLink RX1 23 "UnionOffice$Branch" "yesVoters" "I", Cond.instanceMethod yX1_countVotes, Cond.selects RX1 yX1_countVotes yX1_countVotes, Cond.code yX1_countVotes cX1_countVotes 1 (some .int), Cond.methodLink RX1 41 yJ6_bitCount_0f7a4, Cond.static yJ6_bitCount_0f7a4, Cond.initialized RJ6, Cond.code yJ6_bitCount_0f7a4 cJ6_bitCount_0f7a4 1 (some .int), Cond.constant RJ6 265 (1431655765), Cond.constant RJ6 266 (858993459), Cond.constant RJ6 267 (252645135)]
def wsX3_vote : List Cond := .code yX3_vote cX3_vote 5 (some .int) :: ((wsX3_vote_r1 ++ wsX3_vote_r2) ++ wsX20 ++ wsX10 ++ wsX30 ++ (vx_atS RX3 67 "java/lang/IllegalStateException" ["java/lang/RuntimeException", "java/lang/Exception"]).filter goodWord ++ (vx_atS RX3 190 "java/lang/IndexOutOfBoundsException" ["java/lang/RuntimeException", "java/lang/Exception"]).filter goodWord)
def wsX3_close_r1 : List Cond := [Cond.classLink RX3 63 "java/lang/IllegalStateException", Cond.initialized "java/lang/IllegalStateException", Cond.methodLink RX3 59 yX3_branchAt, Cond.instanceMethod yX3_branchAt, Cond.selects RX3 yX3_branchAt yX3_branchAt, Cond.initialized RX3, Cond.code yX3_branchAt cX3_branchAt 2 (some (.object "UnionOffice$Branch")), Cond.classLink RX3 186 "java/lang/IndexOutOfBoundsException", Cond.initialized "java/lang/IndexOutOfBoundsException", Cond.fieldLink RX3 21 "UnionOffice" "branches" "[LUnionOffice$Branch;", Cond.methodLink RX3 116 yX3_countStanding, Cond.instanceMethod yX3_countStanding, Cond.selects RX3 yX3_countStanding yX3_countStanding, Cond.code yX3_countStanding cX3_countStanding 7 (some .int), Cond.fieldLink RX3 27 "UnionOffice" "members" "[LUnionOffice$Member;", Cond.fieldLink RX3 38 "UnionOffice" "today" "I", Cond.instanceMethod yX2_standsOn, Cond.initialized RX2, Cond.selects RX2 yX2_standsOn yX2_standsOn, Cond.code yX2_standsOn cX2_standsOn 3 (some .boolean), Cond.fieldLink RX2 32 "UnionOffice$Member" "earliestOwed" "I", Cond.fieldLink RX2 22 "UnionOffice$Member" "hasLeft" "Z", Cond.instanceMethod yX1_endBallot, Cond.initialized RX1]
def wsX3_close_r2 : List Cond := [Cond.selects RX1 yX1_endBallot yX1_endBallot, Cond.code yX1_endBallot cX1_endBallot 4 none, Cond.fieldLink RX1 23 "UnionOffice$Branch" "yesVoters" "I", Cond.fieldLink RX1 15 "UnionOffice$Branch" "hasBallot" "Z", Cond.fieldLink RX1 26 "UnionOffice$Branch" "mayStrike" "Z", Cond.methodLink RX1 47 yX1_countVotes, Cond.instanceMethod yX1_countVotes, Cond.selects RX1 yX1_countVotes yX1_countVotes, Cond.code yX1_countVotes cX1_countVotes 1 (some .int), Cond.fieldLink RX1 19 "UnionOffice$Branch" "voters" "I", Cond.methodLink RX1 41 yJ6_bitCount_0f7a4, Cond.static yJ6_bitCount_0f7a4, Cond.initialized RJ6, Cond.code yJ6_bitCount_0f7a4 cJ6_bitCount_0f7a4 1 (some .int), Cond.constant RJ6 265 (1431655765), Cond.constant RJ6 266 (858993459), Cond.constant RJ6 267 (252645135)]
def wsX3_close : List Cond := .code yX3_close cX3_close 3 (some .boolean) :: ((wsX3_close_r1 ++ wsX3_close_r2) ++ wsX10 ++ wsX30 ++ wsX20 ++ (vx_atS RX3 67 "java/lang/IllegalStateException" ["java/lang/RuntimeException", "java/lang/Exception"]).filter goodWord ++ (vx_atS RX3 190 "java/lang/IndexOutOfBoundsException" ["java/lang/RuntimeException", "java/lang/Exception"]).filter goodWord)
def wsX3_strike : List Cond := .code yX3_strike cX3_strike 4 none :: ([.classLink RX3 63 "java/lang/IllegalStateException", .initialized "java/lang/IllegalStateException", .methodLink RX3 59 yX3_branchAt, .instanceMethod yX3_branchAt, .selects RX3 yX3_branchAt yX3_branchAt, .initialized RX3, .code yX3_branchAt cX3_branchAt 2 (some (.object "UnionOffice$Branch")), .classLink RX3 186 "java/lang/IndexOutOfBoundsException", .initialized "java/lang/IndexOutOfBoundsException", .fieldLink RX3 21 "UnionOffice" "branches" "[LUnionOffice$Branch;", .instanceMethod yX1_canBeCalledOut, .initialized RX1, .selects RX1 yX1_canBeCalledOut yX1_canBeCalledOut, .code yX1_canBeCalledOut cX1_canBeCalledOut 1 (some .boolean), .fieldLink RX1 26 "UnionOffice$Branch" "mayStrike" "Z", .fieldLink RX1 29 "UnionOffice$Branch" "isOnStrike" "Z", .fieldLink RX1 15 "UnionOffice$Branch" "hasBallot" "Z"] ++ wsX10 ++ wsX30 ++ (vx_atS RX3 67 "java/lang/IllegalStateException" ["java/lang/RuntimeException", "java/lang/Exception"]).filter goodWord ++ (vx_atS RX3 190 "java/lang/IndexOutOfBoundsException" ["java/lang/RuntimeException", "java/lang/Exception"]).filter goodWord)
def wsX3_payStrikers : List Cond := .code yX3_payStrikers cX3_payStrikers 5 none :: ([.fieldLink RX3 27 "UnionOffice" "members" "[LUnionOffice$Member;", .fieldLink RX3 38 "UnionOffice" "today" "I", .fieldLink RX3 41 "UnionOffice" "inFund" "I", .fieldLink RX3 35 "UnionOffice" "payOfStrikeDay" "I", .instanceMethod yX2_standsOn, .initialized RX2, .selects RX2 yX2_standsOn yX2_standsOn, .code yX2_standsOn cX2_standsOn 3 (some .boolean), .fieldLink RX2 32 "UnionOffice$Member" "earliestOwed" "I", .fieldLink RX2 22 "UnionOffice$Member" "hasLeft" "Z"] ++ wsX30 ++ wsX20 ++ wsX10)
def wsX3_chargeDues : List Cond := .code yX3_chargeDues cX3_chargeDues 6 none :: ([.fieldLink RX3 27 "UnionOffice" "members" "[LUnionOffice$Member;", .fieldLink RX3 41 "UnionOffice" "inFund" "I", .instanceMethod yX2_charge, .initialized RX2, .selects RX2 yX2_charge yX2_charge, .code yX2_charge cX2_charge 2 (some .int), .fieldLink RX2 42 "UnionOffice$Member" "band" "LUnionOffice$Band;", .fieldLink RX2 9 "UnionOffice$Member" "owedFor" "[I", .fieldLink RX2 32 "UnionOffice$Member" "earliestOwed" "I", .methodLink RX2 51 Lib.Math.min.name, .static Lib.Math.min.name, .initialized "java/lang/Math", .code Lib.Math.min.name Lib.Math.min.code 2 (some .int), .methodLink RX2 57 yX2_layLeftOver, .instanceMethod yX2_layLeftOver, .selects RX2 yX2_layLeftOver yX2_layLeftOver, .code yX2_layLeftOver cX2_layLeftOver 4 (some .int), .fieldLink RX2 25 "UnionOffice$Member" "leftOver" "I", .fieldLink RX2 15 "UnionOffice$Member" "laidOn" "[I", .fieldLink RX2 38 "UnionOffice$Member" "branch" "LUnionOffice$Branch;", .methodLink RX2 64 yX2_skipSettled, .instanceMethod yX2_skipSettled, .selects RX2 yX2_skipSettled yX2_skipSettled, .code yX2_skipSettled cX2_skipSettled 1 none] ++ wsX30 ++ wsX20 ++ wsX00 ++ wsX10)
def wsX3_countDelegates : List Cond := .code yX3_countDelegates cX3_countDelegates 6 none :: ([.fieldLink RX3 21 "UnionOffice" "branches" "[LUnionOffice$Branch;", .methodLink RX3 116 yX3_countStanding, .instanceMethod yX3_countStanding, .selects RX3 yX3_countStanding yX3_countStanding, .initialized RX3, .code yX3_countStanding cX3_countStanding 7 (some .int), .fieldLink RX3 27 "UnionOffice" "members" "[LUnionOffice$Member;", .fieldLink RX3 38 "UnionOffice" "today" "I", .instanceMethod yX2_standsOn, .initialized RX2, .selects RX2 yX2_standsOn yX2_standsOn, .code yX2_standsOn cX2_standsOn 3 (some .boolean), .fieldLink RX2 32 "UnionOffice$Member" "earliestOwed" "I", .fieldLink RX2 22 "UnionOffice$Member" "hasLeft" "Z"] ++ wsX30 ++ wsX10 ++ wsX20)
def wsX3_endDay_r1 : List Cond := [Cond.fieldLink RX3 38 "UnionOffice" "today" "I", Cond.methodLink RX3 201 yX3_payStrikers, Cond.instanceMethod yX3_payStrikers, Cond.selects RX3 yX3_payStrikers yX3_payStrikers, Cond.initialized RX3, Cond.code yX3_payStrikers cX3_payStrikers 5 none, Cond.fieldLink RX3 27 "UnionOffice" "members" "[LUnionOffice$Member;", Cond.fieldLink RX3 41 "UnionOffice" "inFund" "I", Cond.fieldLink RX3 35 "UnionOffice" "payOfStrikeDay" "I", Cond.instanceMethod yX2_standsOn, Cond.initialized RX2, Cond.selects RX2 yX2_standsOn yX2_standsOn, Cond.code yX2_standsOn cX2_standsOn 3 (some .boolean), Cond.fieldLink RX2 32 "UnionOffice$Member" "earliestOwed" "I", Cond.fieldLink RX2 22 "UnionOffice$Member" "hasLeft" "Z", Cond.methodLink RX3 204 yX3_chargeDues, Cond.instanceMethod yX3_chargeDues, Cond.selects RX3 yX3_chargeDues yX3_chargeDues, Cond.code yX3_chargeDues cX3_chargeDues 6 none, Cond.instanceMethod yX2_charge, Cond.selects RX2 yX2_charge yX2_charge, Cond.code yX2_charge cX2_charge 2 (some .int), Cond.fieldLink RX2 42 "UnionOffice$Member" "band" "LUnionOffice$Band;", Cond.fieldLink RX2 9 "UnionOffice$Member" "owedFor" "[I"]
def wsX3_endDay_r2 : List Cond := [Cond.methodLink RX2 51 Lib.Math.min.name, Cond.static Lib.Math.min.name, Cond.initialized "java/lang/Math", Cond.code Lib.Math.min.name Lib.Math.min.code 2 (some .int), Cond.methodLink RX2 57 yX2_layLeftOver, Cond.instanceMethod yX2_layLeftOver, Cond.selects RX2 yX2_layLeftOver yX2_layLeftOver, Cond.code yX2_layLeftOver cX2_layLeftOver 4 (some .int), Cond.fieldLink RX2 25 "UnionOffice$Member" "leftOver" "I", Cond.fieldLink RX2 15 "UnionOffice$Member" "laidOn" "[I", Cond.fieldLink RX2 38 "UnionOffice$Member" "branch" "LUnionOffice$Branch;", Cond.methodLink RX2 64 yX2_skipSettled, Cond.instanceMethod yX2_skipSettled, Cond.selects RX2 yX2_skipSettled yX2_skipSettled, Cond.code yX2_skipSettled cX2_skipSettled 1 none, Cond.methodLink RX3 207 yX3_countDelegates, Cond.instanceMethod yX3_countDelegates, Cond.selects RX3 yX3_countDelegates yX3_countDelegates, Cond.code yX3_countDelegates cX3_countDelegates 6 none, Cond.fieldLink RX3 21 "UnionOffice" "branches" "[LUnionOffice$Branch;", Cond.methodLink RX3 116 yX3_countStanding, Cond.instanceMethod yX3_countStanding, Cond.selects RX3 yX3_countStanding yX3_countStanding, Cond.code yX3_countStanding cX3_countStanding 7 (some .int)]
def wsX3_endDay : List Cond := .code yX3_endDay cX3_endDay 1 none :: ((wsX3_endDay_r1 ++ wsX3_endDay_r2) ++ wsX30 ++ wsX20 ++ wsX10 ++ wsX00)
def wsX3_advance_r1 : List Cond := [Cond.classLink RX3 63 "java/lang/IllegalStateException", Cond.initialized "java/lang/IllegalStateException", Cond.fieldLink RX3 38 "UnionOffice" "today" "I", Cond.methodLink RX3 52 yX3_checkRange, Cond.instanceMethod yX3_checkRange, Cond.selects RX3 yX3_checkRange yX3_checkRange, Cond.initialized RX3, Cond.code yX3_checkRange cX3_checkRange 4 none, Cond.classLink RX3 159 "java/lang/IllegalArgumentException", Cond.initialized "java/lang/IllegalArgumentException", Cond.methodLink RX3 153 yX3_endDay, Cond.instanceMethod yX3_endDay, Cond.selects RX3 yX3_endDay yX3_endDay, Cond.code yX3_endDay cX3_endDay 1 none, Cond.methodLink RX3 201 yX3_payStrikers, Cond.instanceMethod yX3_payStrikers, Cond.selects RX3 yX3_payStrikers yX3_payStrikers, Cond.code yX3_payStrikers cX3_payStrikers 5 none, Cond.fieldLink RX3 27 "UnionOffice" "members" "[LUnionOffice$Member;", Cond.fieldLink RX3 41 "UnionOffice" "inFund" "I", Cond.fieldLink RX3 35 "UnionOffice" "payOfStrikeDay" "I", Cond.instanceMethod yX2_standsOn, Cond.initialized RX2, Cond.selects RX2 yX2_standsOn yX2_standsOn]
def wsX3_advance_r2 : List Cond := [Cond.code yX2_standsOn cX2_standsOn 3 (some .boolean), Cond.fieldLink RX2 32 "UnionOffice$Member" "earliestOwed" "I", Cond.fieldLink RX2 22 "UnionOffice$Member" "hasLeft" "Z", Cond.methodLink RX3 204 yX3_chargeDues, Cond.instanceMethod yX3_chargeDues, Cond.selects RX3 yX3_chargeDues yX3_chargeDues, Cond.code yX3_chargeDues cX3_chargeDues 6 none, Cond.instanceMethod yX2_charge, Cond.selects RX2 yX2_charge yX2_charge, Cond.code yX2_charge cX2_charge 2 (some .int), Cond.fieldLink RX2 42 "UnionOffice$Member" "band" "LUnionOffice$Band;", Cond.fieldLink RX2 9 "UnionOffice$Member" "owedFor" "[I", Cond.methodLink RX2 51 Lib.Math.min.name, Cond.static Lib.Math.min.name, Cond.initialized "java/lang/Math", Cond.code Lib.Math.min.name Lib.Math.min.code 2 (some .int), Cond.methodLink RX2 57 yX2_layLeftOver, Cond.instanceMethod yX2_layLeftOver, Cond.selects RX2 yX2_layLeftOver yX2_layLeftOver, Cond.code yX2_layLeftOver cX2_layLeftOver 4 (some .int), Cond.fieldLink RX2 25 "UnionOffice$Member" "leftOver" "I", Cond.fieldLink RX2 15 "UnionOffice$Member" "laidOn" "[I", Cond.fieldLink RX2 38 "UnionOffice$Member" "branch" "LUnionOffice$Branch;", Cond.methodLink RX2 64 yX2_skipSettled]
def wsX3_advance_r3 : List Cond := [Cond.instanceMethod yX2_skipSettled, Cond.selects RX2 yX2_skipSettled yX2_skipSettled, Cond.code yX2_skipSettled cX2_skipSettled 1 none, Cond.methodLink RX3 207 yX3_countDelegates, Cond.instanceMethod yX3_countDelegates, Cond.selects RX3 yX3_countDelegates yX3_countDelegates, Cond.code yX3_countDelegates cX3_countDelegates 6 none, Cond.fieldLink RX3 21 "UnionOffice" "branches" "[LUnionOffice$Branch;", Cond.methodLink RX3 116 yX3_countStanding, Cond.instanceMethod yX3_countStanding, Cond.selects RX3 yX3_countStanding yX3_countStanding, Cond.code yX3_countStanding cX3_countStanding 7 (some .int)]
def wsX3_advance : List Cond := .code yX3_advance cX3_advance 3 (some .int) :: ((wsX3_advance_r1 ++ (wsX3_advance_r2 ++ wsX3_advance_r3)) ++ wsX30 ++ wsX20 ++ wsX10 ++ wsX00 ++ (vx_atS RX3 67 "java/lang/IllegalStateException" ["java/lang/RuntimeException", "java/lang/Exception"]).filter goodWord ++ (vx_atS RX3 163 "java/lang/IllegalArgumentException" ["java/lang/RuntimeException", "java/lang/Exception"]).filter goodWord)
def wsX3_hasEnded : List Cond := .code yX3_hasEnded cX3_hasEnded 2 (some .boolean) :: ([.fieldLink RX3 38 "UnionOffice" "today" "I"] ++ wsX30)
def wsX3_sumLaidOn : List Cond := .code yX3_sumLaidOn cX3_sumLaidOn 7 (some .int) :: ([.fieldLink RX3 21 "UnionOffice" "branches" "[LUnionOffice$Branch;"] ++ wsX30 ++ wsX10)
def wsX3_fold : List Cond := .code yX3_fold cX3_fold 4 (some .int) :: ([.classLink RX3 159 "java/lang/IllegalArgumentException", .initialized "java/lang/IllegalArgumentException", .fieldLink RX3 44 "UnionOffice" "foldedMonths" "I", .methodLink RX3 156 yX3_hasEnded, .instanceMethod yX3_hasEnded, .selects RX3 yX3_hasEnded yX3_hasEnded, .initialized RX3, .code yX3_hasEnded cX3_hasEnded 2 (some .boolean), .fieldLink RX3 38 "UnionOffice" "today" "I", .methodLink RX3 164 yX3_sumLaidOn, .instanceMethod yX3_sumLaidOn, .selects RX3 yX3_sumLaidOn yX3_sumLaidOn, .code yX3_sumLaidOn cX3_sumLaidOn 7 (some .int), .fieldLink RX3 21 "UnionOffice" "branches" "[LUnionOffice$Branch;"] ++ wsX30 ++ wsX10 ++ (vx_atS RX3 163 "java/lang/IllegalArgumentException" ["java/lang/RuntimeException", "java/lang/Exception"]).filter goodWord)
def wsX3_day : List Cond := .code yX3_day cX3_day 1 (some .int) :: ([.fieldLink RX3 38 "UnionOffice" "today" "I"] ++ wsX30)
def wsX3_fund : List Cond := .code yX3_fund cX3_fund 1 (some .int) :: ([.fieldLink RX3 41 "UnionOffice" "inFund" "I"] ++ wsX30)
def wsX3_owed : List Cond := .code yX3_owed cX3_owed 2 (some .int) :: ([.methodLink RX3 73 yX3_memberAt, .instanceMethod yX3_memberAt, .selects RX3 yX3_memberAt yX3_memberAt, .initialized RX3, .code yX3_memberAt cX3_memberAt 2 (some (.object "UnionOffice$Member")), .classLink RX3 186 "java/lang/IndexOutOfBoundsException", .initialized "java/lang/IndexOutOfBoundsException", .fieldLink RX3 27 "UnionOffice" "members" "[LUnionOffice$Member;", .instanceMethod yX2_sumOwed, .initialized RX2, .selects RX2 yX2_sumOwed yX2_sumOwed, .code yX2_sumOwed cX2_sumOwed 3 (some .int), .fieldLink RX2 32 "UnionOffice$Member" "earliestOwed" "I", .fieldLink RX2 9 "UnionOffice$Member" "owedFor" "[I"] ++ wsX30 ++ wsX20 ++ (vx_atS RX3 190 "java/lang/IndexOutOfBoundsException" ["java/lang/RuntimeException", "java/lang/Exception"]).filter goodWord)
def wsX3_credit : List Cond := .code yX3_credit cX3_credit 2 (some .int) :: ([.methodLink RX3 73 yX3_memberAt, .instanceMethod yX3_memberAt, .selects RX3 yX3_memberAt yX3_memberAt, .initialized RX3, .code yX3_memberAt cX3_memberAt 2 (some (.object "UnionOffice$Member")), .classLink RX3 186 "java/lang/IndexOutOfBoundsException", .initialized "java/lang/IndexOutOfBoundsException", .fieldLink RX3 27 "UnionOffice" "members" "[LUnionOffice$Member;"] ++ wsX20 ++ wsX30 ++ (vx_atS RX3 190 "java/lang/IndexOutOfBoundsException" ["java/lang/RuntimeException", "java/lang/Exception"]).filter goodWord)
def wsX3_checkEnded : List Cond := .code yX3_checkEnded cX3_checkEnded 2 none :: ([.classLink RX3 186 "java/lang/IndexOutOfBoundsException", .initialized "java/lang/IndexOutOfBoundsException", .methodLink RX3 156 yX3_hasEnded, .instanceMethod yX3_hasEnded, .selects RX3 yX3_hasEnded yX3_hasEnded, .initialized RX3, .code yX3_hasEnded cX3_hasEnded 2 (some .boolean), .fieldLink RX3 38 "UnionOffice" "today" "I"] ++ wsX30 ++ (vx_atS RX3 190 "java/lang/IndexOutOfBoundsException" ["java/lang/RuntimeException", "java/lang/Exception"]).filter goodWord)
def wsX3_laid : List Cond := .code yX3_laid cX3_laid 4 (some .int) :: ([.classLink RX3 63 "java/lang/IllegalStateException", .initialized "java/lang/IllegalStateException", .fieldLink RX3 44 "UnionOffice" "foldedMonths" "I", .methodLink RX3 73 yX3_memberAt, .instanceMethod yX3_memberAt, .selects RX3 yX3_memberAt yX3_memberAt, .initialized RX3, .code yX3_memberAt cX3_memberAt 2 (some (.object "UnionOffice$Member")), .classLink RX3 186 "java/lang/IndexOutOfBoundsException", .initialized "java/lang/IndexOutOfBoundsException", .fieldLink RX3 27 "UnionOffice" "members" "[LUnionOffice$Member;", .methodLink RX3 170 yX3_checkEnded, .instanceMethod yX3_checkEnded, .selects RX3 yX3_checkEnded yX3_checkEnded, .code yX3_checkEnded cX3_checkEnded 2 none, .methodLink RX3 156 yX3_hasEnded, .instanceMethod yX3_hasEnded, .selects RX3 yX3_hasEnded yX3_hasEnded, .code yX3_hasEnded cX3_hasEnded 2 (some .boolean), .fieldLink RX3 38 "UnionOffice" "today" "I"] ++ wsX30 ++ wsX20 ++ (vx_atS RX3 67 "java/lang/IllegalStateException" ["java/lang/RuntimeException", "java/lang/Exception"]).filter goodWord ++ (vx_atS RX3 190 "java/lang/IndexOutOfBoundsException" ["java/lang/RuntimeException", "java/lang/Exception"]).filter goodWord)
def wsX3_laidFor : List Cond := .code yX3_laidFor cX3_laidFor 4 (some .int) :: ([.methodLink RX3 59 yX3_branchAt, .instanceMethod yX3_branchAt, .selects RX3 yX3_branchAt yX3_branchAt, .initialized RX3, .code yX3_branchAt cX3_branchAt 2 (some (.object "UnionOffice$Branch")), .classLink RX3 186 "java/lang/IndexOutOfBoundsException", .initialized "java/lang/IndexOutOfBoundsException", .fieldLink RX3 21 "UnionOffice" "branches" "[LUnionOffice$Branch;", .methodLink RX3 170 yX3_checkEnded, .instanceMethod yX3_checkEnded, .selects RX3 yX3_checkEnded yX3_checkEnded, .code yX3_checkEnded cX3_checkEnded 2 none, .methodLink RX3 156 yX3_hasEnded, .instanceMethod yX3_hasEnded, .selects RX3 yX3_hasEnded yX3_hasEnded, .code yX3_hasEnded cX3_hasEnded 2 (some .boolean), .fieldLink RX3 38 "UnionOffice" "today" "I"] ++ wsX10 ++ wsX30 ++ (vx_atS RX3 190 "java/lang/IndexOutOfBoundsException" ["java/lang/RuntimeException", "java/lang/Exception"]).filter goodWord)
def wsX3_hasStanding : List Cond := .code yX3_hasStanding cX3_hasStanding 2 (some .boolean) :: ([.fieldLink RX3 38 "UnionOffice" "today" "I", .methodLink RX3 73 yX3_memberAt, .instanceMethod yX3_memberAt, .selects RX3 yX3_memberAt yX3_memberAt, .initialized RX3, .code yX3_memberAt cX3_memberAt 2 (some (.object "UnionOffice$Member")), .classLink RX3 186 "java/lang/IndexOutOfBoundsException", .initialized "java/lang/IndexOutOfBoundsException", .fieldLink RX3 27 "UnionOffice" "members" "[LUnionOffice$Member;", .instanceMethod yX2_standsOn, .initialized RX2, .selects RX2 yX2_standsOn yX2_standsOn, .code yX2_standsOn cX2_standsOn 3 (some .boolean), .fieldLink RX2 32 "UnionOffice$Member" "earliestOwed" "I", .fieldLink RX2 22 "UnionOffice$Member" "hasLeft" "Z"] ++ wsX30 ++ wsX20 ++ (vx_atS RX3 190 "java/lang/IndexOutOfBoundsException" ["java/lang/RuntimeException", "java/lang/Exception"]).filter goodWord)
def wsX3_strikePay : List Cond := .code yX3_strikePay cX3_strikePay 2 (some .int) :: ([.methodLink RX3 73 yX3_memberAt, .instanceMethod yX3_memberAt, .selects RX3 yX3_memberAt yX3_memberAt, .initialized RX3, .code yX3_memberAt cX3_memberAt 2 (some (.object "UnionOffice$Member")), .classLink RX3 186 "java/lang/IndexOutOfBoundsException", .initialized "java/lang/IndexOutOfBoundsException", .fieldLink RX3 27 "UnionOffice" "members" "[LUnionOffice$Member;"] ++ wsX20 ++ wsX30 ++ (vx_atS RX3 190 "java/lang/IndexOutOfBoundsException" ["java/lang/RuntimeException", "java/lang/Exception"]).filter goodWord)
def wsX3_delegates : List Cond := .code yX3_delegates cX3_delegates 2 (some .int) :: ([.methodLink RX3 59 yX3_branchAt, .instanceMethod yX3_branchAt, .selects RX3 yX3_branchAt yX3_branchAt, .initialized RX3, .code yX3_branchAt cX3_branchAt 2 (some (.object "UnionOffice$Branch")), .classLink RX3 186 "java/lang/IndexOutOfBoundsException", .initialized "java/lang/IndexOutOfBoundsException", .fieldLink RX3 21 "UnionOffice" "branches" "[LUnionOffice$Branch;"] ++ wsX10 ++ wsX30 ++ (vx_atS RX3 190 "java/lang/IndexOutOfBoundsException" ["java/lang/RuntimeException", "java/lang/Exception"]).filter goodWord)
def wsX3_isOut : List Cond := .code yX3_isOut cX3_isOut 2 (some .boolean) :: ([.methodLink RX3 59 yX3_branchAt, .instanceMethod yX3_branchAt, .selects RX3 yX3_branchAt yX3_branchAt, .initialized RX3, .code yX3_branchAt cX3_branchAt 2 (some (.object "UnionOffice$Branch")), .classLink RX3 186 "java/lang/IndexOutOfBoundsException", .initialized "java/lang/IndexOutOfBoundsException", .fieldLink RX3 21 "UnionOffice" "branches" "[LUnionOffice$Branch;"] ++ wsX10 ++ wsX30 ++ (vx_atS RX3 190 "java/lang/IndexOutOfBoundsException" ["java/lang/RuntimeException", "java/lang/Exception"]).filter goodWord)
def wsX4_init : List Cond := .code yX4_init cX4_init 1 none :: ([.methodLink RX4 1 objectInit, .instanceMethod objectInit, .code objectInit ⟨#[0xb1]⟩ 1 none, .arrayClass .int, .fieldLink RX4 7 "UnionOfficeModel" "duesOf" "[I", .fieldLink RX4 13 "UnionOfficeModel" "branches" "[I", .fieldLink RX4 16 "UnionOfficeModel" "bands" "[I", .arrayClass .boolean, .fieldLink RX4 19 "UnionOfficeModel" "hasLeft" "[Z", .fieldLink RX4 23 "UnionOfficeModel" "isAway" "[Z", .fieldLink RX4 26 "UnionOfficeModel" "credits" "[I", .fieldLink RX4 29 "UnionOfficeModel" "strikePays" "[I", .fieldLink RX4 32 "UnionOfficeModel" "debts" "[I", .fieldLink RX4 35 "UnionOfficeModel" "laidBy" "[I", .fieldLink RX4 38 "UnionOfficeModel" "laidOf" "[I", .fieldLink RX4 41 "UnionOfficeModel" "hasBallot" "[Z", .fieldLink RX4 44 "UnionOfficeModel" "yes" "[I", .fieldLink RX4 47 "UnionOfficeModel" "no" "[I", .fieldLink RX4 50 "UnionOfficeModel" "canStrike" "[Z", .fieldLink RX4 53 "UnionOfficeModel" "isStriking" "[Z", .fieldLink RX4 56 "UnionOfficeModel" "hasVoted" "[Z", .fieldLink RX4 59 "UnionOfficeModel" "delegateMany" "[I", .fieldLink RX4 62 "UnionOfficeModel" "pay" "I", .fieldLink RX4 66 "UnionOfficeModel" "folded" "I"] ++ wsX40)
def wsX4_thrown : List Cond := .code yX4_thrown cX4_thrown 1 (some .int) :: ([.fieldLink RX4 69 "UnionOfficeModel" "thrown" "I"] ++ wsX40)
def wsX4_in : List Cond := .code yX4_in cX4_in 3 (some .boolean) :: ([])
def wsX4_isMember : List Cond := .code yX4_isMember cX4_isMember 2 (some .boolean) :: ([.fieldLink RX4 72 "UnionOfficeModel" "memberMany" "I", .methodLink RX4 75 yX4_in, .static yX4_in, .initialized RX4, .code yX4_in cX4_in 3 (some .boolean)] ++ wsX40)
def wsX4_isBranch : List Cond := .code yX4_isBranch cX4_isBranch 1 (some .boolean) :: ([.methodLink RX4 75 yX4_in, .static yX4_in, .initialized RX4, .code yX4_in cX4_in 3 (some .boolean)])
def wsX4_isBand : List Cond := .code yX4_isBand cX4_isBand 1 (some .boolean) :: ([.methodLink RX4 75 yX4_in, .static yX4_in, .initialized RX4, .code yX4_in cX4_in 3 (some .boolean)])
def wsX4_stands : List Cond := .code yX4_stands cX4_stands 4 (some .boolean) :: ([.fieldLink RX4 19 "UnionOfficeModel" "hasLeft" "[Z", .fieldLink RX4 32 "UnionOfficeModel" "debts" "[I", .fieldLink RX4 79 "UnionOfficeModel" "now" "I"] ++ wsX40)
def wsX4_standing : List Cond := .code yX4_standing cX4_standing 4 (some .int) :: ([.fieldLink RX4 72 "UnionOfficeModel" "memberMany" "I", .fieldLink RX4 13 "UnionOfficeModel" "branches" "[I", .methodLink RX4 82 yX4_stands, .instanceMethod yX4_stands, .selects RX4 yX4_stands yX4_stands, .initialized RX4, .code yX4_stands cX4_stands 4 (some .boolean), .fieldLink RX4 19 "UnionOfficeModel" "hasLeft" "[Z", .fieldLink RX4 32 "UnionOfficeModel" "debts" "[I", .fieldLink RX4 79 "UnionOfficeModel" "now" "I"] ++ wsX40)
def wsX4_owedBy : List Cond := .code yX4_owedBy cX4_owedBy 4 (some .int) :: ([.fieldLink RX4 32 "UnionOfficeModel" "debts" "[I"] ++ wsX40)
def wsX4_setDues : List Cond := .code yX4_setDues cX4_setDues 4 (some .int) :: ([.constant RX4 89 (100000), .fieldLink RX4 69 "UnionOfficeModel" "thrown" "I", .fieldLink RX4 7 "UnionOfficeModel" "duesOf" "[I", .methodLink RX4 86 yX4_isBand, .static yX4_isBand, .initialized RX4, .code yX4_isBand cX4_isBand 1 (some .boolean), .methodLink RX4 75 yX4_in, .static yX4_in, .code yX4_in cX4_in 3 (some .boolean)] ++ wsX40)
def wsX4_setStrikePay : List Cond := .code yX4_setStrikePay cX4_setStrikePay 3 (some .int) :: ([.constant RX4 89 (100000), .fieldLink RX4 69 "UnionOfficeModel" "thrown" "I", .fieldLink RX4 62 "UnionOfficeModel" "pay" "I", .methodLink RX4 75 yX4_in, .static yX4_in, .initialized RX4, .code yX4_in cX4_in 3 (some .boolean)] ++ wsX40)
def wsX4_join : List Cond := .code yX4_join cX4_join 3 (some .int) :: ([.fieldLink RX4 72 "UnionOfficeModel" "memberMany" "I", .fieldLink RX4 69 "UnionOfficeModel" "thrown" "I", .fieldLink RX4 13 "UnionOfficeModel" "branches" "[I", .fieldLink RX4 16 "UnionOfficeModel" "bands" "[I", .methodLink RX4 90 yX4_isBranch, .static yX4_isBranch, .initialized RX4, .code yX4_isBranch cX4_isBranch 1 (some .boolean), .methodLink RX4 75 yX4_in, .static yX4_in, .code yX4_in cX4_in 3 (some .boolean), .methodLink RX4 86 yX4_isBand, .static yX4_isBand, .code yX4_isBand cX4_isBand 1 (some .boolean)] ++ wsX40)
def wsX4_move : List Cond := .code yX4_move cX4_move 4 none :: ([.fieldLink RX4 19 "UnionOfficeModel" "hasLeft" "[Z", .fieldLink RX4 69 "UnionOfficeModel" "thrown" "I", .fieldLink RX4 13 "UnionOfficeModel" "branches" "[I", .fieldLink RX4 16 "UnionOfficeModel" "bands" "[I", .methodLink RX4 93 yX4_isMember, .instanceMethod yX4_isMember, .selects RX4 yX4_isMember yX4_isMember, .initialized RX4, .code yX4_isMember cX4_isMember 2 (some .boolean), .fieldLink RX4 72 "UnionOfficeModel" "memberMany" "I", .methodLink RX4 75 yX4_in, .static yX4_in, .code yX4_in cX4_in 3 (some .boolean), .methodLink RX4 90 yX4_isBranch, .static yX4_isBranch, .code yX4_isBranch cX4_isBranch 1 (some .boolean), .methodLink RX4 86 yX4_isBand, .static yX4_isBand, .code yX4_isBand cX4_isBand 1 (some .boolean)] ++ wsX40)
def wsX4_leave : List Cond := .code yX4_leave cX4_leave 4 (some .boolean) :: ([.fieldLink RX4 19 "UnionOfficeModel" "hasLeft" "[Z", .fieldLink RX4 69 "UnionOfficeModel" "thrown" "I", .fieldLink RX4 23 "UnionOfficeModel" "isAway" "[Z", .methodLink RX4 93 yX4_isMember, .instanceMethod yX4_isMember, .selects RX4 yX4_isMember yX4_isMember, .initialized RX4, .code yX4_isMember cX4_isMember 2 (some .boolean), .fieldLink RX4 72 "UnionOfficeModel" "memberMany" "I", .methodLink RX4 75 yX4_in, .static yX4_in, .code yX4_in cX4_in 3 (some .boolean)] ++ wsX40)
def wsX4_quit : List Cond := .code yX4_quit cX4_quit 2 (some .int) :: ([.fieldLink RX4 19 "UnionOfficeModel" "hasLeft" "[Z", .fieldLink RX4 69 "UnionOfficeModel" "thrown" "I", .methodLink RX4 93 yX4_isMember, .instanceMethod yX4_isMember, .selects RX4 yX4_isMember yX4_isMember, .initialized RX4, .code yX4_isMember cX4_isMember 2 (some .boolean), .fieldLink RX4 72 "UnionOfficeModel" "memberMany" "I", .methodLink RX4 75 yX4_in, .static yX4_in, .code yX4_in cX4_in 3 (some .boolean), .methodLink RX4 96 yX4_owedBy, .instanceMethod yX4_owedBy, .selects RX4 yX4_owedBy yX4_owedBy, .code yX4_owedBy cX4_owedBy 4 (some .int), .fieldLink RX4 32 "UnionOfficeModel" "debts" "[I"] ++ wsX40)
def wsX4_lay : List Cond := .code yX4_lay cX4_lay 5 none :: ([.fieldLink RX4 26 "UnionOfficeModel" "credits" "[I", .fieldLink RX4 32 "UnionOfficeModel" "debts" "[I", .fieldLink RX4 35 "UnionOfficeModel" "laidBy" "[I", .fieldLink RX4 38 "UnionOfficeModel" "laidOf" "[I", .fieldLink RX4 13 "UnionOfficeModel" "branches" "[I", .fieldLink RX4 100 "UnionOfficeModel" "money" "I"] ++ wsX40)
def wsX4_pay_r1 : List Cond := [Cond.constant RX4 103 (1000000), Cond.fieldLink RX4 69 "UnionOfficeModel" "thrown" "I", Cond.fieldLink RX4 26 "UnionOfficeModel" "credits" "[I", Cond.methodLink RX4 93 yX4_isMember, Cond.instanceMethod yX4_isMember, Cond.selects RX4 yX4_isMember yX4_isMember, Cond.initialized RX4, Cond.code yX4_isMember cX4_isMember 2 (some .boolean), Cond.fieldLink RX4 72 "UnionOfficeModel" "memberMany" "I", Cond.methodLink RX4 75 yX4_in, Cond.static yX4_in, Cond.code yX4_in cX4_in 3 (some .boolean), Cond.methodLink RX4 104 yX4_lay, Cond.instanceMethod yX4_lay, Cond.selects RX4 yX4_lay yX4_lay, Cond.code yX4_lay cX4_lay 5 none, Cond.fieldLink RX4 32 "UnionOfficeModel" "debts" "[I", Cond.fieldLink RX4 35 "UnionOfficeModel" "laidBy" "[I", Cond.fieldLink RX4 38 "UnionOfficeModel" "laidOf" "[I", Cond.fieldLink RX4 13 "UnionOfficeModel" "branches" "[I", Cond.fieldLink RX4 100 "UnionOfficeModel" "money" "I", Cond.methodLink RX4 96 yX4_owedBy, Cond.instanceMethod yX4_owedBy, Cond.selects RX4 yX4_owedBy yX4_owedBy]
def wsX4_pay_r2 : List Cond := [Cond.code yX4_owedBy cX4_owedBy 4 (some .int)]
def wsX4_pay : List Cond := .code yX4_pay cX4_pay 3 (some .int) :: ((wsX4_pay_r1 ++ wsX4_pay_r2) ++ wsX40)
def wsX4_open_r1 : List Cond := [Cond.fieldLink RX4 41 "UnionOfficeModel" "hasBallot" "[Z", Cond.fieldLink RX4 53 "UnionOfficeModel" "isStriking" "[Z", Cond.fieldLink RX4 69 "UnionOfficeModel" "thrown" "I", Cond.fieldLink RX4 44 "UnionOfficeModel" "yes" "[I", Cond.fieldLink RX4 47 "UnionOfficeModel" "no" "[I", Cond.fieldLink RX4 56 "UnionOfficeModel" "hasVoted" "[Z", Cond.methodLink RX4 90 yX4_isBranch, Cond.static yX4_isBranch, Cond.initialized RX4, Cond.code yX4_isBranch cX4_isBranch 1 (some .boolean), Cond.methodLink RX4 75 yX4_in, Cond.static yX4_in, Cond.code yX4_in cX4_in 3 (some .boolean), Cond.methodLink RX4 108 yX4_standing, Cond.instanceMethod yX4_standing, Cond.selects RX4 yX4_standing yX4_standing, Cond.code yX4_standing cX4_standing 4 (some .int), Cond.fieldLink RX4 72 "UnionOfficeModel" "memberMany" "I", Cond.fieldLink RX4 13 "UnionOfficeModel" "branches" "[I", Cond.methodLink RX4 82 yX4_stands, Cond.instanceMethod yX4_stands, Cond.selects RX4 yX4_stands yX4_stands, Cond.code yX4_stands cX4_stands 4 (some .boolean), Cond.fieldLink RX4 19 "UnionOfficeModel" "hasLeft" "[Z"]
def wsX4_open_r2 : List Cond := [Cond.fieldLink RX4 32 "UnionOfficeModel" "debts" "[I", Cond.fieldLink RX4 79 "UnionOfficeModel" "now" "I"]
def wsX4_open : List Cond := .code yX4_open cX4_open 3 (some .int) :: ((wsX4_open_r1 ++ wsX4_open_r2) ++ wsX40)
def wsX4_vote : List Cond := .code yX4_vote cX4_vote 4 (some .int) :: ([.fieldLink RX4 69 "UnionOfficeModel" "thrown" "I", .fieldLink RX4 13 "UnionOfficeModel" "branches" "[I", .fieldLink RX4 41 "UnionOfficeModel" "hasBallot" "[Z", .fieldLink RX4 56 "UnionOfficeModel" "hasVoted" "[Z", .fieldLink RX4 44 "UnionOfficeModel" "yes" "[I", .fieldLink RX4 47 "UnionOfficeModel" "no" "[I", .methodLink RX4 93 yX4_isMember, .instanceMethod yX4_isMember, .selects RX4 yX4_isMember yX4_isMember, .initialized RX4, .code yX4_isMember cX4_isMember 2 (some .boolean), .fieldLink RX4 72 "UnionOfficeModel" "memberMany" "I", .methodLink RX4 75 yX4_in, .static yX4_in, .code yX4_in cX4_in 3 (some .boolean), .methodLink RX4 82 yX4_stands, .instanceMethod yX4_stands, .selects RX4 yX4_stands yX4_stands, .code yX4_stands cX4_stands 4 (some .boolean), .fieldLink RX4 19 "UnionOfficeModel" "hasLeft" "[Z", .fieldLink RX4 32 "UnionOfficeModel" "debts" "[I", .fieldLink RX4 79 "UnionOfficeModel" "now" "I"] ++ wsX40)
def wsX4_close_r1 : List Cond := [Cond.fieldLink RX4 41 "UnionOfficeModel" "hasBallot" "[Z", Cond.fieldLink RX4 69 "UnionOfficeModel" "thrown" "I", Cond.fieldLink RX4 44 "UnionOfficeModel" "yes" "[I", Cond.fieldLink RX4 47 "UnionOfficeModel" "no" "[I", Cond.fieldLink RX4 50 "UnionOfficeModel" "canStrike" "[Z", Cond.methodLink RX4 90 yX4_isBranch, Cond.static yX4_isBranch, Cond.initialized RX4, Cond.code yX4_isBranch cX4_isBranch 1 (some .boolean), Cond.methodLink RX4 75 yX4_in, Cond.static yX4_in, Cond.code yX4_in cX4_in 3 (some .boolean), Cond.methodLink RX4 108 yX4_standing, Cond.instanceMethod yX4_standing, Cond.selects RX4 yX4_standing yX4_standing, Cond.code yX4_standing cX4_standing 4 (some .int), Cond.fieldLink RX4 72 "UnionOfficeModel" "memberMany" "I", Cond.fieldLink RX4 13 "UnionOfficeModel" "branches" "[I", Cond.methodLink RX4 82 yX4_stands, Cond.instanceMethod yX4_stands, Cond.selects RX4 yX4_stands yX4_stands, Cond.code yX4_stands cX4_stands 4 (some .boolean), Cond.fieldLink RX4 19 "UnionOfficeModel" "hasLeft" "[Z", Cond.fieldLink RX4 32 "UnionOfficeModel" "debts" "[I"]
def wsX4_close_r2 : List Cond := [Cond.fieldLink RX4 79 "UnionOfficeModel" "now" "I"]
def wsX4_close : List Cond := .code yX4_close cX4_close 3 (some .boolean) :: ((wsX4_close_r1 ++ wsX4_close_r2) ++ wsX40)
def wsX4_strike : List Cond := .code yX4_strike cX4_strike 4 none :: ([.fieldLink RX4 69 "UnionOfficeModel" "thrown" "I", .fieldLink RX4 50 "UnionOfficeModel" "canStrike" "[Z", .fieldLink RX4 53 "UnionOfficeModel" "isStriking" "[Z", .fieldLink RX4 41 "UnionOfficeModel" "hasBallot" "[Z", .methodLink RX4 90 yX4_isBranch, .static yX4_isBranch, .initialized RX4, .code yX4_isBranch cX4_isBranch 1 (some .boolean), .methodLink RX4 75 yX4_in, .static yX4_in, .code yX4_in cX4_in 3 (some .boolean)] ++ wsX40)
def wsX4_payStrikes : List Cond := .code yX4_payStrikes cX4_payStrikes 2 none :: ([.fieldLink RX4 72 "UnionOfficeModel" "memberMany" "I", .fieldLink RX4 53 "UnionOfficeModel" "isStriking" "[Z", .fieldLink RX4 13 "UnionOfficeModel" "branches" "[I", .fieldLink RX4 100 "UnionOfficeModel" "money" "I", .fieldLink RX4 62 "UnionOfficeModel" "pay" "I", .fieldLink RX4 29 "UnionOfficeModel" "strikePays" "[I", .methodLink RX4 82 yX4_stands, .instanceMethod yX4_stands, .selects RX4 yX4_stands yX4_stands, .initialized RX4, .code yX4_stands cX4_stands 4 (some .boolean), .fieldLink RX4 19 "UnionOfficeModel" "hasLeft" "[Z", .fieldLink RX4 32 "UnionOfficeModel" "debts" "[I", .fieldLink RX4 79 "UnionOfficeModel" "now" "I"] ++ wsX40)
def wsX4_takeDues : List Cond := .code yX4_takeDues cX4_takeDues 3 none :: ([.fieldLink RX4 79 "UnionOfficeModel" "now" "I", .fieldLink RX4 72 "UnionOfficeModel" "memberMany" "I", .fieldLink RX4 19 "UnionOfficeModel" "hasLeft" "[Z", .fieldLink RX4 23 "UnionOfficeModel" "isAway" "[Z", .fieldLink RX4 32 "UnionOfficeModel" "debts" "[I", .fieldLink RX4 7 "UnionOfficeModel" "duesOf" "[I", .fieldLink RX4 16 "UnionOfficeModel" "bands" "[I", .methodLink RX4 104 yX4_lay, .instanceMethod yX4_lay, .selects RX4 yX4_lay yX4_lay, .initialized RX4, .code yX4_lay cX4_lay 5 none, .fieldLink RX4 26 "UnionOfficeModel" "credits" "[I", .fieldLink RX4 35 "UnionOfficeModel" "laidBy" "[I", .fieldLink RX4 38 "UnionOfficeModel" "laidOf" "[I", .fieldLink RX4 13 "UnionOfficeModel" "branches" "[I", .fieldLink RX4 100 "UnionOfficeModel" "money" "I"] ++ wsX40)
def wsX4_advance_r1 : List Cond := [Cond.fieldLink RX4 79 "UnionOfficeModel" "now" "I", Cond.fieldLink RX4 69 "UnionOfficeModel" "thrown" "I", Cond.fieldLink RX4 59 "UnionOfficeModel" "delegateMany" "[I", Cond.methodLink RX4 75 yX4_in, Cond.static yX4_in, Cond.initialized RX4, Cond.code yX4_in cX4_in 3 (some .boolean), Cond.methodLink RX4 111 yX4_payStrikes, Cond.instanceMethod yX4_payStrikes, Cond.selects RX4 yX4_payStrikes yX4_payStrikes, Cond.code yX4_payStrikes cX4_payStrikes 2 none, Cond.fieldLink RX4 72 "UnionOfficeModel" "memberMany" "I", Cond.fieldLink RX4 53 "UnionOfficeModel" "isStriking" "[Z", Cond.fieldLink RX4 13 "UnionOfficeModel" "branches" "[I", Cond.fieldLink RX4 100 "UnionOfficeModel" "money" "I", Cond.fieldLink RX4 62 "UnionOfficeModel" "pay" "I", Cond.fieldLink RX4 29 "UnionOfficeModel" "strikePays" "[I", Cond.methodLink RX4 82 yX4_stands, Cond.instanceMethod yX4_stands, Cond.selects RX4 yX4_stands yX4_stands, Cond.code yX4_stands cX4_stands 4 (some .boolean), Cond.fieldLink RX4 19 "UnionOfficeModel" "hasLeft" "[Z", Cond.fieldLink RX4 32 "UnionOfficeModel" "debts" "[I", Cond.methodLink RX4 114 yX4_takeDues]
def wsX4_advance_r2 : List Cond := [Cond.instanceMethod yX4_takeDues, Cond.selects RX4 yX4_takeDues yX4_takeDues, Cond.code yX4_takeDues cX4_takeDues 3 none, Cond.fieldLink RX4 23 "UnionOfficeModel" "isAway" "[Z", Cond.fieldLink RX4 7 "UnionOfficeModel" "duesOf" "[I", Cond.fieldLink RX4 16 "UnionOfficeModel" "bands" "[I", Cond.methodLink RX4 104 yX4_lay, Cond.instanceMethod yX4_lay, Cond.selects RX4 yX4_lay yX4_lay, Cond.code yX4_lay cX4_lay 5 none, Cond.fieldLink RX4 26 "UnionOfficeModel" "credits" "[I", Cond.fieldLink RX4 35 "UnionOfficeModel" "laidBy" "[I", Cond.fieldLink RX4 38 "UnionOfficeModel" "laidOf" "[I", Cond.methodLink RX4 108 yX4_standing, Cond.instanceMethod yX4_standing, Cond.selects RX4 yX4_standing yX4_standing, Cond.code yX4_standing cX4_standing 4 (some .int)]
def wsX4_advance : List Cond := .code yX4_advance cX4_advance 4 (some .int) :: ((wsX4_advance_r1 ++ wsX4_advance_r2) ++ wsX40)
def wsX4_hasEnded : List Cond := .code yX4_hasEnded cX4_hasEnded 2 (some .boolean) :: ([.fieldLink RX4 79 "UnionOfficeModel" "now" "I"] ++ wsX40)
def wsX4_fold : List Cond := .code yX4_fold cX4_fold 5 (some .int) :: ([.fieldLink RX4 66 "UnionOfficeModel" "folded" "I", .fieldLink RX4 69 "UnionOfficeModel" "thrown" "I", .fieldLink RX4 38 "UnionOfficeModel" "laidOf" "[I", .methodLink RX4 117 yX4_hasEnded, .instanceMethod yX4_hasEnded, .selects RX4 yX4_hasEnded yX4_hasEnded, .initialized RX4, .code yX4_hasEnded cX4_hasEnded 2 (some .boolean), .fieldLink RX4 79 "UnionOfficeModel" "now" "I"] ++ wsX40)
def wsX4_day : List Cond := .code yX4_day cX4_day 1 (some .int) :: ([.fieldLink RX4 69 "UnionOfficeModel" "thrown" "I", .fieldLink RX4 79 "UnionOfficeModel" "now" "I"] ++ wsX40)
def wsX4_fund : List Cond := .code yX4_fund cX4_fund 1 (some .int) :: ([.fieldLink RX4 69 "UnionOfficeModel" "thrown" "I", .fieldLink RX4 100 "UnionOfficeModel" "money" "I"] ++ wsX40)
def wsX4_asksFor : List Cond := .code yX4_asksFor cX4_asksFor 2 (some .boolean) :: ([.fieldLink RX4 69 "UnionOfficeModel" "thrown" "I", .methodLink RX4 93 yX4_isMember, .instanceMethod yX4_isMember, .selects RX4 yX4_isMember yX4_isMember, .initialized RX4, .code yX4_isMember cX4_isMember 2 (some .boolean), .fieldLink RX4 72 "UnionOfficeModel" "memberMany" "I", .methodLink RX4 75 yX4_in, .static yX4_in, .code yX4_in cX4_in 3 (some .boolean)] ++ wsX40)
def wsX4_owed : List Cond := .code yX4_owed cX4_owed 2 (some .int) :: ([.methodLink RX4 120 yX4_asksFor, .instanceMethod yX4_asksFor, .selects RX4 yX4_asksFor yX4_asksFor, .initialized RX4, .code yX4_asksFor cX4_asksFor 2 (some .boolean), .fieldLink RX4 69 "UnionOfficeModel" "thrown" "I", .methodLink RX4 93 yX4_isMember, .instanceMethod yX4_isMember, .selects RX4 yX4_isMember yX4_isMember, .code yX4_isMember cX4_isMember 2 (some .boolean), .fieldLink RX4 72 "UnionOfficeModel" "memberMany" "I", .methodLink RX4 75 yX4_in, .static yX4_in, .code yX4_in cX4_in 3 (some .boolean), .methodLink RX4 96 yX4_owedBy, .instanceMethod yX4_owedBy, .selects RX4 yX4_owedBy yX4_owedBy, .code yX4_owedBy cX4_owedBy 4 (some .int), .fieldLink RX4 32 "UnionOfficeModel" "debts" "[I"] ++ wsX40)
def wsX4_credit : List Cond := .code yX4_credit cX4_credit 2 (some .int) :: ([.fieldLink RX4 26 "UnionOfficeModel" "credits" "[I", .methodLink RX4 120 yX4_asksFor, .instanceMethod yX4_asksFor, .selects RX4 yX4_asksFor yX4_asksFor, .initialized RX4, .code yX4_asksFor cX4_asksFor 2 (some .boolean), .fieldLink RX4 69 "UnionOfficeModel" "thrown" "I", .methodLink RX4 93 yX4_isMember, .instanceMethod yX4_isMember, .selects RX4 yX4_isMember yX4_isMember, .code yX4_isMember cX4_isMember 2 (some .boolean), .fieldLink RX4 72 "UnionOfficeModel" "memberMany" "I", .methodLink RX4 75 yX4_in, .static yX4_in, .code yX4_in cX4_in 3 (some .boolean)] ++ wsX40)
def wsX4_laid : List Cond := .code yX4_laid cX4_laid 3 (some .int) :: ([.fieldLink RX4 66 "UnionOfficeModel" "folded" "I", .fieldLink RX4 69 "UnionOfficeModel" "thrown" "I", .fieldLink RX4 35 "UnionOfficeModel" "laidBy" "[I", .methodLink RX4 93 yX4_isMember, .instanceMethod yX4_isMember, .selects RX4 yX4_isMember yX4_isMember, .initialized RX4, .code yX4_isMember cX4_isMember 2 (some .boolean), .fieldLink RX4 72 "UnionOfficeModel" "memberMany" "I", .methodLink RX4 75 yX4_in, .static yX4_in, .code yX4_in cX4_in 3 (some .boolean), .methodLink RX4 117 yX4_hasEnded, .instanceMethod yX4_hasEnded, .selects RX4 yX4_hasEnded yX4_hasEnded, .code yX4_hasEnded cX4_hasEnded 2 (some .boolean), .fieldLink RX4 79 "UnionOfficeModel" "now" "I"] ++ wsX40)
def wsX4_laidFor : List Cond := .code yX4_laidFor cX4_laidFor 3 (some .int) :: ([.fieldLink RX4 69 "UnionOfficeModel" "thrown" "I", .fieldLink RX4 38 "UnionOfficeModel" "laidOf" "[I", .methodLink RX4 90 yX4_isBranch, .static yX4_isBranch, .initialized RX4, .code yX4_isBranch cX4_isBranch 1 (some .boolean), .methodLink RX4 75 yX4_in, .static yX4_in, .code yX4_in cX4_in 3 (some .boolean), .methodLink RX4 117 yX4_hasEnded, .instanceMethod yX4_hasEnded, .selects RX4 yX4_hasEnded yX4_hasEnded, .code yX4_hasEnded cX4_hasEnded 2 (some .boolean), .fieldLink RX4 79 "UnionOfficeModel" "now" "I"] ++ wsX40)
def wsX4_hasStanding : List Cond := .code yX4_hasStanding cX4_hasStanding 2 (some .boolean) :: ([.methodLink RX4 120 yX4_asksFor, .instanceMethod yX4_asksFor, .selects RX4 yX4_asksFor yX4_asksFor, .initialized RX4, .code yX4_asksFor cX4_asksFor 2 (some .boolean), .fieldLink RX4 69 "UnionOfficeModel" "thrown" "I", .methodLink RX4 93 yX4_isMember, .instanceMethod yX4_isMember, .selects RX4 yX4_isMember yX4_isMember, .code yX4_isMember cX4_isMember 2 (some .boolean), .fieldLink RX4 72 "UnionOfficeModel" "memberMany" "I", .methodLink RX4 75 yX4_in, .static yX4_in, .code yX4_in cX4_in 3 (some .boolean), .methodLink RX4 82 yX4_stands, .instanceMethod yX4_stands, .selects RX4 yX4_stands yX4_stands, .code yX4_stands cX4_stands 4 (some .boolean), .fieldLink RX4 19 "UnionOfficeModel" "hasLeft" "[Z", .fieldLink RX4 32 "UnionOfficeModel" "debts" "[I", .fieldLink RX4 79 "UnionOfficeModel" "now" "I"] ++ wsX40)
def wsX4_strikePay : List Cond := .code yX4_strikePay cX4_strikePay 2 (some .int) :: ([.fieldLink RX4 29 "UnionOfficeModel" "strikePays" "[I", .methodLink RX4 120 yX4_asksFor, .instanceMethod yX4_asksFor, .selects RX4 yX4_asksFor yX4_asksFor, .initialized RX4, .code yX4_asksFor cX4_asksFor 2 (some .boolean), .fieldLink RX4 69 "UnionOfficeModel" "thrown" "I", .methodLink RX4 93 yX4_isMember, .instanceMethod yX4_isMember, .selects RX4 yX4_isMember yX4_isMember, .code yX4_isMember cX4_isMember 2 (some .boolean), .fieldLink RX4 72 "UnionOfficeModel" "memberMany" "I", .methodLink RX4 75 yX4_in, .static yX4_in, .code yX4_in cX4_in 3 (some .boolean)] ++ wsX40)
def wsX4_delegates : List Cond := .code yX4_delegates cX4_delegates 2 (some .int) :: ([.fieldLink RX4 69 "UnionOfficeModel" "thrown" "I", .fieldLink RX4 59 "UnionOfficeModel" "delegateMany" "[I", .methodLink RX4 90 yX4_isBranch, .static yX4_isBranch, .initialized RX4, .code yX4_isBranch cX4_isBranch 1 (some .boolean), .methodLink RX4 75 yX4_in, .static yX4_in, .code yX4_in cX4_in 3 (some .boolean)] ++ wsX40)
def wsX4_isOut : List Cond := .code yX4_isOut cX4_isOut 2 (some .boolean) :: ([.fieldLink RX4 69 "UnionOfficeModel" "thrown" "I", .fieldLink RX4 53 "UnionOfficeModel" "isStriking" "[Z", .methodLink RX4 90 yX4_isBranch, .static yX4_isBranch, .initialized RX4, .code yX4_isBranch cX4_isBranch 1 (some .boolean), .methodLink RX4 75 yX4_in, .static yX4_in, .code yX4_in cX4_in 3 (some .boolean)] ++ wsX40)
def wsJ9_min_7cf53 : List Cond := .code yJ9_min_7cf53 cJ9_min_7cf53 2 (some .int) :: ([])
def wsL_setDues : List Cond := .codeWith yL_setDues cL_setDues 5 (some .int) [(0, 10, 13, 13), (0, 10, 17, 15)] :: ([.classLink RL 13 "java/lang/IndexOutOfBoundsException", .classLink RL 15 "java/lang/IllegalArgumentException", .methodLink RL 7 yX3_setDues, .instanceMethod yX3_setDues, .selects RX3 yX3_setDues yX3_setDues, .initialized RX3, .code yX3_setDues cX3_setDues 5 (some .int), .constant RX3 51 (100000), .methodLink RX3 47 yX3_bandAt, .instanceMethod yX3_bandAt, .selects RX3 yX3_bandAt yX3_bandAt, .code yX3_bandAt cX3_bandAt 2 (some (.object "UnionOffice$Band")), .classLink RX3 186 "java/lang/IndexOutOfBoundsException", .initialized "java/lang/IndexOutOfBoundsException", .fieldLink RX3 14 "UnionOffice" "bands" "[LUnionOffice$Band;", .methodLink RX3 52 yX3_checkRange, .instanceMethod yX3_checkRange, .selects RX3 yX3_checkRange yX3_checkRange, .code yX3_checkRange cX3_checkRange 4 none, .classLink RX3 159 "java/lang/IllegalArgumentException", .initialized "java/lang/IllegalArgumentException"] ++ wsX00 ++ wsX30 ++ (vx_atS RX3 190 "java/lang/IndexOutOfBoundsException" ["java/lang/RuntimeException", "java/lang/Exception"]).filter goodWord ++ (vx_atS RX3 163 "java/lang/IllegalArgumentException" ["java/lang/RuntimeException", "java/lang/Exception"]).filter goodWord)
def wsL_setStrikePay : List Cond := .codeWith yL_setStrikePay cL_setStrikePay 4 (some .int) [(0, 9, 12, 15)] :: ([.classLink RL 15 "java/lang/IllegalArgumentException", .methodLink RL 17 yX3_setStrikePay, .instanceMethod yX3_setStrikePay, .selects RX3 yX3_setStrikePay yX3_setStrikePay, .initialized RX3, .code yX3_setStrikePay cX3_setStrikePay 3 (some .int), .constant RX3 51 (100000), .fieldLink RX3 35 "UnionOffice" "payOfStrikeDay" "I", .methodLink RX3 52 yX3_checkRange, .instanceMethod yX3_checkRange, .selects RX3 yX3_checkRange yX3_checkRange, .code yX3_checkRange cX3_checkRange 4 none, .classLink RX3 159 "java/lang/IllegalArgumentException", .initialized "java/lang/IllegalArgumentException"] ++ wsX30 ++ (vx_atS RX3 163 "java/lang/IllegalArgumentException" ["java/lang/RuntimeException", "java/lang/Exception"]).filter goodWord)
def wsL_join_r1 : List Cond := [Cond.classLink RL 13 "java/lang/IndexOutOfBoundsException", Cond.classLink RL 24 "java/lang/IllegalStateException", Cond.methodLink RL 21 yX3_join, Cond.instanceMethod yX3_join, Cond.selects RX3 yX3_join yX3_join, Cond.initialized RX3, Cond.code yX3_join cX3_join 6 (some .int), Cond.classLink RX3 63 "java/lang/IllegalStateException", Cond.initialized "java/lang/IllegalStateException", Cond.fieldLink RX3 31 "UnionOffice" "joined" "I", Cond.fieldLink RX3 27 "UnionOffice" "members" "[LUnionOffice$Member;", Cond.classLink RX3 25 RX2, Cond.instantiable RX2 10, Cond.initialized RX2, Cond.methodLink RX3 59 yX3_branchAt, Cond.instanceMethod yX3_branchAt, Cond.selects RX3 yX3_branchAt yX3_branchAt, Cond.code yX3_branchAt cX3_branchAt 2 (some (.object "UnionOffice$Branch")), Cond.classLink RX3 186 "java/lang/IndexOutOfBoundsException", Cond.initialized "java/lang/IndexOutOfBoundsException", Cond.fieldLink RX3 21 "UnionOffice" "branches" "[LUnionOffice$Branch;", Cond.methodLink RX3 47 yX3_bandAt, Cond.instanceMethod yX3_bandAt, Cond.selects RX3 yX3_bandAt yX3_bandAt]
def wsL_join_r2 : List Cond := [Cond.code yX3_bandAt cX3_bandAt 2 (some (.object "UnionOffice$Band")), Cond.fieldLink RX3 14 "UnionOffice" "bands" "[LUnionOffice$Band;", Cond.instanceMethod yX2_init, Cond.code yX2_init cX2_init 4 none, Cond.methodLink RX2 3 objectInit, Cond.instanceMethod objectInit, Cond.code objectInit ⟨#[0xb1]⟩ 1 none, Cond.arrayClass .int, Cond.fieldLink RX2 9 "UnionOffice$Member" "owedFor" "[I", Cond.fieldLink RX2 15 "UnionOffice$Member" "laidOn" "[I", Cond.fieldLink RX2 18 "UnionOffice$Member" "isOnLeave" "Z", Cond.fieldLink RX2 22 "UnionOffice$Member" "hasLeft" "Z", Cond.fieldLink RX2 25 "UnionOffice$Member" "leftOver" "I", Cond.fieldLink RX2 29 "UnionOffice$Member" "strikePayHad" "I", Cond.fieldLink RX2 32 "UnionOffice$Member" "earliestOwed" "I", Cond.fieldLink RX2 35 "UnionOffice$Member" "number" "I", Cond.fieldLink RX2 38 "UnionOffice$Member" "branch" "LUnionOffice$Branch;", Cond.fieldLink RX2 42 "UnionOffice$Member" "band" "LUnionOffice$Band;"]
def wsL_join : List Cond := .codeWith yL_join cL_join 5 (some .int) [(0, 10, 13, 13), (0, 10, 17, 24)] :: ((wsL_join_r1 ++ wsL_join_r2) ++ wsX30 ++ wsX20 ++ (vx_atS RX3 67 "java/lang/IllegalStateException" ["java/lang/RuntimeException", "java/lang/Exception"]).filter goodWord ++ (vx_atS RX3 190 "java/lang/IndexOutOfBoundsException" ["java/lang/RuntimeException", "java/lang/Exception"]).filter goodWord)
def wsL_move_r1 : List Cond := [Cond.classLink RL 13 "java/lang/IndexOutOfBoundsException", Cond.classLink RL 24 "java/lang/IllegalStateException", Cond.methodLink RL 26 yX3_move, Cond.instanceMethod yX3_move, Cond.selects RX3 yX3_move yX3_move, Cond.initialized RX3, Cond.code yX3_move cX3_move 7 none, Cond.methodLink RX3 73 yX3_memberAt, Cond.instanceMethod yX3_memberAt, Cond.selects RX3 yX3_memberAt yX3_memberAt, Cond.code yX3_memberAt cX3_memberAt 2 (some (.object "UnionOffice$Member")), Cond.classLink RX3 186 "java/lang/IndexOutOfBoundsException", Cond.initialized "java/lang/IndexOutOfBoundsException", Cond.fieldLink RX3 27 "UnionOffice" "members" "[LUnionOffice$Member;", Cond.methodLink RX3 59 yX3_branchAt, Cond.instanceMethod yX3_branchAt, Cond.selects RX3 yX3_branchAt yX3_branchAt, Cond.code yX3_branchAt cX3_branchAt 2 (some (.object "UnionOffice$Branch")), Cond.fieldLink RX3 21 "UnionOffice" "branches" "[LUnionOffice$Branch;", Cond.methodLink RX3 47 yX3_bandAt, Cond.instanceMethod yX3_bandAt, Cond.selects RX3 yX3_bandAt yX3_bandAt, Cond.code yX3_bandAt cX3_bandAt 2 (some (.object "UnionOffice$Band")), Cond.fieldLink RX3 14 "UnionOffice" "bands" "[LUnionOffice$Band;"]
def wsL_move_r2 : List Cond := [Cond.methodLink RX3 77 yX3_checkNotLeft, Cond.instanceMethod yX3_checkNotLeft, Cond.selects RX3 yX3_checkNotLeft yX3_checkNotLeft, Cond.code yX3_checkNotLeft cX3_checkNotLeft 2 none, Cond.classLink RX3 63 "java/lang/IllegalStateException", Cond.initialized "java/lang/IllegalStateException"]
def wsL_move : List Cond := .codeWith yL_move cL_move 5 (some .int) [(0, 7, 10, 13), (0, 7, 14, 24)] :: ((wsL_move_r1 ++ wsL_move_r2) ++ wsX20 ++ wsX30 ++ (vx_atS RX3 190 "java/lang/IndexOutOfBoundsException" ["java/lang/RuntimeException", "java/lang/Exception"]).filter goodWord ++ (vx_atS RX3 67 "java/lang/IllegalStateException" ["java/lang/RuntimeException", "java/lang/Exception"]).filter goodWord)
def wsL_leave : List Cond := .codeWith yL_leave cL_leave 5 (some .int) [(0, 17, 20, 13), (0, 17, 24, 24)] :: ([.classLink RL 13 "java/lang/IndexOutOfBoundsException", .classLink RL 24 "java/lang/IllegalStateException", .methodLink RL 30 yX3_leave, .instanceMethod yX3_leave, .selects RX3 yX3_leave yX3_leave, .initialized RX3, .code yX3_leave cX3_leave 5 (some .boolean), .methodLink RX3 73 yX3_memberAt, .instanceMethod yX3_memberAt, .selects RX3 yX3_memberAt yX3_memberAt, .code yX3_memberAt cX3_memberAt 2 (some (.object "UnionOffice$Member")), .classLink RX3 186 "java/lang/IndexOutOfBoundsException", .initialized "java/lang/IndexOutOfBoundsException", .fieldLink RX3 27 "UnionOffice" "members" "[LUnionOffice$Member;", .methodLink RX3 77 yX3_checkNotLeft, .instanceMethod yX3_checkNotLeft, .selects RX3 yX3_checkNotLeft yX3_checkNotLeft, .code yX3_checkNotLeft cX3_checkNotLeft 2 none, .classLink RX3 63 "java/lang/IllegalStateException", .initialized "java/lang/IllegalStateException"] ++ wsX20 ++ wsX30 ++ (vx_atS RX3 190 "java/lang/IndexOutOfBoundsException" ["java/lang/RuntimeException", "java/lang/Exception"]).filter goodWord ++ (vx_atS RX3 67 "java/lang/IllegalStateException" ["java/lang/RuntimeException", "java/lang/Exception"]).filter goodWord)
def wsL_quit_r1 : List Cond := [Cond.classLink RL 13 "java/lang/IndexOutOfBoundsException", Cond.classLink RL 24 "java/lang/IllegalStateException", Cond.methodLink RL 34 yX3_quit, Cond.instanceMethod yX3_quit, Cond.selects RX3 yX3_quit yX3_quit, Cond.initialized RX3, Cond.code yX3_quit cX3_quit 3 (some .int), Cond.methodLink RX3 73 yX3_memberAt, Cond.instanceMethod yX3_memberAt, Cond.selects RX3 yX3_memberAt yX3_memberAt, Cond.code yX3_memberAt cX3_memberAt 2 (some (.object "UnionOffice$Member")), Cond.classLink RX3 186 "java/lang/IndexOutOfBoundsException", Cond.initialized "java/lang/IndexOutOfBoundsException", Cond.fieldLink RX3 27 "UnionOffice" "members" "[LUnionOffice$Member;", Cond.methodLink RX3 77 yX3_checkNotLeft, Cond.instanceMethod yX3_checkNotLeft, Cond.selects RX3 yX3_checkNotLeft yX3_checkNotLeft, Cond.code yX3_checkNotLeft cX3_checkNotLeft 2 none, Cond.classLink RX3 63 "java/lang/IllegalStateException", Cond.initialized "java/lang/IllegalStateException", Cond.instanceMethod yX2_sumOwed, Cond.initialized RX2, Cond.selects RX2 yX2_sumOwed yX2_sumOwed, Cond.code yX2_sumOwed cX2_sumOwed 3 (some .int)]
def wsL_quit_r2 : List Cond := [Cond.fieldLink RX2 32 "UnionOffice$Member" "earliestOwed" "I", Cond.fieldLink RX2 9 "UnionOffice$Member" "owedFor" "[I"]
def wsL_quit : List Cond := .codeWith yL_quit cL_quit 4 (some .int) [(0, 9, 12, 13), (0, 9, 15, 24)] :: ((wsL_quit_r1 ++ wsL_quit_r2) ++ wsX20 ++ wsX30 ++ (vx_atS RX3 190 "java/lang/IndexOutOfBoundsException" ["java/lang/RuntimeException", "java/lang/Exception"]).filter goodWord ++ (vx_atS RX3 67 "java/lang/IllegalStateException" ["java/lang/RuntimeException", "java/lang/Exception"]).filter goodWord)
def wsL_pay_r1 : List Cond := [Cond.classLink RL 13 "java/lang/IndexOutOfBoundsException", Cond.classLink RL 15 "java/lang/IllegalArgumentException", Cond.methodLink RL 37 yX3_pay, Cond.instanceMethod yX3_pay, Cond.selects RX3 yX3_pay yX3_pay, Cond.initialized RX3, Cond.code yX3_pay cX3_pay 4 (some .int), Cond.constant RX3 100 (1000000), Cond.fieldLink RX3 41 "UnionOffice" "inFund" "I", Cond.methodLink RX3 73 yX3_memberAt, Cond.instanceMethod yX3_memberAt, Cond.selects RX3 yX3_memberAt yX3_memberAt, Cond.code yX3_memberAt cX3_memberAt 2 (some (.object "UnionOffice$Member")), Cond.classLink RX3 186 "java/lang/IndexOutOfBoundsException", Cond.initialized "java/lang/IndexOutOfBoundsException", Cond.fieldLink RX3 27 "UnionOffice" "members" "[LUnionOffice$Member;", Cond.methodLink RX3 52 yX3_checkRange, Cond.instanceMethod yX3_checkRange, Cond.selects RX3 yX3_checkRange yX3_checkRange, Cond.code yX3_checkRange cX3_checkRange 4 none, Cond.classLink RX3 159 "java/lang/IllegalArgumentException", Cond.initialized "java/lang/IllegalArgumentException", Cond.instanceMethod yX2_takeIn, Cond.initialized RX2]
def wsL_pay_r2 : List Cond := [Cond.selects RX2 yX2_takeIn yX2_takeIn, Cond.code yX2_takeIn cX2_takeIn 2 (some .int), Cond.fieldLink RX2 25 "UnionOffice$Member" "leftOver" "I", Cond.methodLink RX2 57 yX2_layLeftOver, Cond.instanceMethod yX2_layLeftOver, Cond.selects RX2 yX2_layLeftOver yX2_layLeftOver, Cond.code yX2_layLeftOver cX2_layLeftOver 4 (some .int), Cond.fieldLink RX2 32 "UnionOffice$Member" "earliestOwed" "I", Cond.fieldLink RX2 9 "UnionOffice$Member" "owedFor" "[I", Cond.methodLink RX2 51 Lib.Math.min.name, Cond.static Lib.Math.min.name, Cond.initialized "java/lang/Math", Cond.code Lib.Math.min.name Lib.Math.min.code 2 (some .int), Cond.fieldLink RX2 15 "UnionOffice$Member" "laidOn" "[I", Cond.fieldLink RX2 38 "UnionOffice$Member" "branch" "LUnionOffice$Branch;", Cond.methodLink RX2 64 yX2_skipSettled, Cond.instanceMethod yX2_skipSettled, Cond.selects RX2 yX2_skipSettled yX2_skipSettled, Cond.code yX2_skipSettled cX2_skipSettled 1 none, Cond.instanceMethod yX2_sumOwed, Cond.selects RX2 yX2_sumOwed yX2_sumOwed, Cond.code yX2_sumOwed cX2_sumOwed 3 (some .int)]
def wsL_pay : List Cond := .codeWith yL_pay cL_pay 5 (some .int) [(0, 10, 13, 13), (0, 10, 17, 15)] :: ((wsL_pay_r1 ++ wsL_pay_r2) ++ wsX30 ++ wsX20 ++ wsX10 ++ (vx_atS RX3 190 "java/lang/IndexOutOfBoundsException" ["java/lang/RuntimeException", "java/lang/Exception"]).filter goodWord ++ (vx_atS RX3 163 "java/lang/IllegalArgumentException" ["java/lang/RuntimeException", "java/lang/Exception"]).filter goodWord)
def wsL_open_r1 : List Cond := [Cond.classLink RL 13 "java/lang/IndexOutOfBoundsException", Cond.classLink RL 24 "java/lang/IllegalStateException", Cond.methodLink RL 40 yX3_open, Cond.instanceMethod yX3_open, Cond.selects RX3 yX3_open yX3_open, Cond.initialized RX3, Cond.code yX3_open cX3_open 3 (some .int), Cond.classLink RX3 63 "java/lang/IllegalStateException", Cond.initialized "java/lang/IllegalStateException", Cond.methodLink RX3 59 yX3_branchAt, Cond.instanceMethod yX3_branchAt, Cond.selects RX3 yX3_branchAt yX3_branchAt, Cond.code yX3_branchAt cX3_branchAt 2 (some (.object "UnionOffice$Branch")), Cond.classLink RX3 186 "java/lang/IndexOutOfBoundsException", Cond.initialized "java/lang/IndexOutOfBoundsException", Cond.fieldLink RX3 21 "UnionOffice" "branches" "[LUnionOffice$Branch;", Cond.instanceMethod yX1_beginBallot, Cond.initialized RX1, Cond.selects RX1 yX1_beginBallot yX1_beginBallot, Cond.code yX1_beginBallot cX1_beginBallot 1 none, Cond.fieldLink RX1 15 "UnionOffice$Branch" "hasBallot" "Z", Cond.fieldLink RX1 19 "UnionOffice$Branch" "voters" "I", Cond.fieldLink RX1 23 "UnionOffice$Branch" "yesVoters" "I", Cond.methodLink RX3 116 yX3_countStanding]
def wsL_open_r2 : List Cond := [Cond.instanceMethod yX3_countStanding, Cond.selects RX3 yX3_countStanding yX3_countStanding, Cond.code yX3_countStanding cX3_countStanding 7 (some .int), Cond.fieldLink RX3 27 "UnionOffice" "members" "[LUnionOffice$Member;", Cond.fieldLink RX3 38 "UnionOffice" "today" "I", Cond.instanceMethod yX2_standsOn, Cond.initialized RX2, Cond.selects RX2 yX2_standsOn yX2_standsOn, Cond.code yX2_standsOn cX2_standsOn 3 (some .boolean), Cond.fieldLink RX2 32 "UnionOffice$Member" "earliestOwed" "I", Cond.fieldLink RX2 22 "UnionOffice$Member" "hasLeft" "Z"]
def wsL_open : List Cond := .codeWith yL_open cL_open 4 (some .int) [(0, 9, 12, 13), (0, 9, 15, 24)] :: ((wsL_open_r1 ++ wsL_open_r2) ++ wsX10 ++ wsX30 ++ wsX20 ++ (vx_atS RX3 67 "java/lang/IllegalStateException" ["java/lang/RuntimeException", "java/lang/Exception"]).filter goodWord ++ (vx_atS RX3 190 "java/lang/IndexOutOfBoundsException" ["java/lang/RuntimeException", "java/lang/Exception"]).filter goodWord)
def wsL_vote_r1 : List Cond := [Cond.classLink RL 13 "java/lang/IndexOutOfBoundsException", Cond.classLink RL 24 "java/lang/IllegalStateException", Cond.methodLink RL 43 yX3_vote, Cond.instanceMethod yX3_vote, Cond.selects RX3 yX3_vote yX3_vote, Cond.initialized RX3, Cond.code yX3_vote cX3_vote 5 (some .int), Cond.classLink RX3 63 "java/lang/IllegalStateException", Cond.initialized "java/lang/IllegalStateException", Cond.fieldLink RX3 38 "UnionOffice" "today" "I", Cond.methodLink RX3 73 yX3_memberAt, Cond.instanceMethod yX3_memberAt, Cond.selects RX3 yX3_memberAt yX3_memberAt, Cond.code yX3_memberAt cX3_memberAt 2 (some (.object "UnionOffice$Member")), Cond.classLink RX3 186 "java/lang/IndexOutOfBoundsException", Cond.initialized "java/lang/IndexOutOfBoundsException", Cond.fieldLink RX3 27 "UnionOffice" "members" "[LUnionOffice$Member;", Cond.instanceMethod yX2_standsOn, Cond.initialized RX2, Cond.selects RX2 yX2_standsOn yX2_standsOn, Cond.code yX2_standsOn cX2_standsOn 3 (some .boolean), Cond.fieldLink RX2 32 "UnionOffice$Member" "earliestOwed" "I", Cond.fieldLink RX2 22 "UnionOffice$Member" "hasLeft" "Z", Cond.instanceMethod yX1_hasVoteOf]
def wsL_vote_r2 : List Cond := [Cond.initialized RX1, Cond.selects RX1 yX1_hasVoteOf yX1_hasVoteOf, Cond.code yX1_hasVoteOf cX1_hasVoteOf 2 (some .boolean), Cond.fieldLink RX1 19 "UnionOffice$Branch" "voters" "I", Cond.instanceMethod yX2_bit, Cond.selects RX2 yX2_bit yX2_bit, Cond.code yX2_bit cX2_bit 1 (some .int), Cond.fieldLink RX2 35 "UnionOffice$Member" "number" "I", Cond.instanceMethod yX1_takeVote, Cond.selects RX1 yX1_takeVote yX1_takeVote, Cond.code yX1_takeVote cX1_takeVote 3 none, Cond.fieldLink RX1 23 "UnionOffice$Branch" "yesVoters" "I", Cond.instanceMethod yX1_countVotes, Cond.selects RX1 yX1_countVotes yX1_countVotes, Cond.code yX1_countVotes cX1_countVotes 1 (some .int), Cond.methodLink RX1 41 yJ6_bitCount_0f7a4, Cond.static yJ6_bitCount_0f7a4, Cond.initialized RJ6, Cond.code yJ6_bitCount_0f7a4 cJ6_bitCount_0f7a4 1 (some .int), Cond.constant RJ6 265 (1431655765), Cond.constant RJ6 266 (858993459), Cond.constant RJ6 267 (252645135)]
def wsL_vote : List Cond := .codeWith yL_vote cL_vote 5 (some .int) [(0, 10, 13, 13), (0, 10, 17, 24)] :: ((wsL_vote_r1 ++ wsL_vote_r2) ++ wsX20 ++ wsX10 ++ wsX30 ++ (vx_atS RX3 67 "java/lang/IllegalStateException" ["java/lang/RuntimeException", "java/lang/Exception"]).filter goodWord ++ (vx_atS RX3 190 "java/lang/IndexOutOfBoundsException" ["java/lang/RuntimeException", "java/lang/Exception"]).filter goodWord)
def wsL_close_r1 : List Cond := [Cond.classLink RL 13 "java/lang/IndexOutOfBoundsException", Cond.classLink RL 24 "java/lang/IllegalStateException", Cond.methodLink RL 47 yX3_close, Cond.instanceMethod yX3_close, Cond.selects RX3 yX3_close yX3_close, Cond.initialized RX3, Cond.code yX3_close cX3_close 3 (some .boolean), Cond.classLink RX3 63 "java/lang/IllegalStateException", Cond.initialized "java/lang/IllegalStateException", Cond.methodLink RX3 59 yX3_branchAt, Cond.instanceMethod yX3_branchAt, Cond.selects RX3 yX3_branchAt yX3_branchAt, Cond.code yX3_branchAt cX3_branchAt 2 (some (.object "UnionOffice$Branch")), Cond.classLink RX3 186 "java/lang/IndexOutOfBoundsException", Cond.initialized "java/lang/IndexOutOfBoundsException", Cond.fieldLink RX3 21 "UnionOffice" "branches" "[LUnionOffice$Branch;", Cond.methodLink RX3 116 yX3_countStanding, Cond.instanceMethod yX3_countStanding, Cond.selects RX3 yX3_countStanding yX3_countStanding, Cond.code yX3_countStanding cX3_countStanding 7 (some .int), Cond.fieldLink RX3 27 "UnionOffice" "members" "[LUnionOffice$Member;", Cond.fieldLink RX3 38 "UnionOffice" "today" "I", Cond.instanceMethod yX2_standsOn, Cond.initialized RX2]
def wsL_close_r2 : List Cond := [Cond.selects RX2 yX2_standsOn yX2_standsOn, Cond.code yX2_standsOn cX2_standsOn 3 (some .boolean), Cond.fieldLink RX2 32 "UnionOffice$Member" "earliestOwed" "I", Cond.fieldLink RX2 22 "UnionOffice$Member" "hasLeft" "Z", Cond.instanceMethod yX1_endBallot, Cond.initialized RX1, Cond.selects RX1 yX1_endBallot yX1_endBallot, Cond.code yX1_endBallot cX1_endBallot 4 none, Cond.fieldLink RX1 23 "UnionOffice$Branch" "yesVoters" "I", Cond.fieldLink RX1 15 "UnionOffice$Branch" "hasBallot" "Z", Cond.fieldLink RX1 26 "UnionOffice$Branch" "mayStrike" "Z", Cond.methodLink RX1 47 yX1_countVotes, Cond.instanceMethod yX1_countVotes, Cond.selects RX1 yX1_countVotes yX1_countVotes, Cond.code yX1_countVotes cX1_countVotes 1 (some .int), Cond.fieldLink RX1 19 "UnionOffice$Branch" "voters" "I", Cond.methodLink RX1 41 yJ6_bitCount_0f7a4, Cond.static yJ6_bitCount_0f7a4, Cond.initialized RJ6, Cond.code yJ6_bitCount_0f7a4 cJ6_bitCount_0f7a4 1 (some .int), Cond.constant RJ6 265 (1431655765), Cond.constant RJ6 266 (858993459), Cond.constant RJ6 267 (252645135)]
def wsL_close : List Cond := .codeWith yL_close cL_close 4 (some .int) [(0, 16, 19, 13), (0, 16, 22, 24)] :: ((wsL_close_r1 ++ wsL_close_r2) ++ wsX10 ++ wsX30 ++ wsX20 ++ (vx_atS RX3 67 "java/lang/IllegalStateException" ["java/lang/RuntimeException", "java/lang/Exception"]).filter goodWord ++ (vx_atS RX3 190 "java/lang/IndexOutOfBoundsException" ["java/lang/RuntimeException", "java/lang/Exception"]).filter goodWord)
def wsL_strike : List Cond := .codeWith yL_strike cL_strike 4 (some .int) [(0, 6, 9, 13), (0, 6, 12, 24)] :: ([.classLink RL 13 "java/lang/IndexOutOfBoundsException", .classLink RL 24 "java/lang/IllegalStateException", .methodLink RL 51 yX3_strike, .instanceMethod yX3_strike, .selects RX3 yX3_strike yX3_strike, .initialized RX3, .code yX3_strike cX3_strike 4 none, .classLink RX3 63 "java/lang/IllegalStateException", .initialized "java/lang/IllegalStateException", .methodLink RX3 59 yX3_branchAt, .instanceMethod yX3_branchAt, .selects RX3 yX3_branchAt yX3_branchAt, .code yX3_branchAt cX3_branchAt 2 (some (.object "UnionOffice$Branch")), .classLink RX3 186 "java/lang/IndexOutOfBoundsException", .initialized "java/lang/IndexOutOfBoundsException", .fieldLink RX3 21 "UnionOffice" "branches" "[LUnionOffice$Branch;", .instanceMethod yX1_canBeCalledOut, .initialized RX1, .selects RX1 yX1_canBeCalledOut yX1_canBeCalledOut, .code yX1_canBeCalledOut cX1_canBeCalledOut 1 (some .boolean), .fieldLink RX1 26 "UnionOffice$Branch" "mayStrike" "Z", .fieldLink RX1 29 "UnionOffice$Branch" "isOnStrike" "Z", .fieldLink RX1 15 "UnionOffice$Branch" "hasBallot" "Z"] ++ wsX10 ++ wsX30 ++ (vx_atS RX3 67 "java/lang/IllegalStateException" ["java/lang/RuntimeException", "java/lang/Exception"]).filter goodWord ++ (vx_atS RX3 190 "java/lang/IndexOutOfBoundsException" ["java/lang/RuntimeException", "java/lang/Exception"]).filter goodWord)
def wsL_advance_r1 : List Cond := [Cond.classLink RL 15 "java/lang/IllegalArgumentException", Cond.classLink RL 24 "java/lang/IllegalStateException", Cond.methodLink RL 55 yX3_advance, Cond.instanceMethod yX3_advance, Cond.selects RX3 yX3_advance yX3_advance, Cond.initialized RX3, Cond.code yX3_advance cX3_advance 3 (some .int), Cond.classLink RX3 63 "java/lang/IllegalStateException", Cond.initialized "java/lang/IllegalStateException", Cond.fieldLink RX3 38 "UnionOffice" "today" "I", Cond.methodLink RX3 52 yX3_checkRange, Cond.instanceMethod yX3_checkRange, Cond.selects RX3 yX3_checkRange yX3_checkRange, Cond.code yX3_checkRange cX3_checkRange 4 none, Cond.classLink RX3 159 "java/lang/IllegalArgumentException", Cond.initialized "java/lang/IllegalArgumentException", Cond.methodLink RX3 153 yX3_endDay, Cond.instanceMethod yX3_endDay, Cond.selects RX3 yX3_endDay yX3_endDay, Cond.code yX3_endDay cX3_endDay 1 none, Cond.methodLink RX3 201 yX3_payStrikers, Cond.instanceMethod yX3_payStrikers, Cond.selects RX3 yX3_payStrikers yX3_payStrikers, Cond.code yX3_payStrikers cX3_payStrikers 5 none]
def wsL_advance_r2 : List Cond := [Cond.fieldLink RX3 27 "UnionOffice" "members" "[LUnionOffice$Member;", Cond.fieldLink RX3 41 "UnionOffice" "inFund" "I", Cond.fieldLink RX3 35 "UnionOffice" "payOfStrikeDay" "I", Cond.instanceMethod yX2_standsOn, Cond.initialized RX2, Cond.selects RX2 yX2_standsOn yX2_standsOn, Cond.code yX2_standsOn cX2_standsOn 3 (some .boolean), Cond.fieldLink RX2 32 "UnionOffice$Member" "earliestOwed" "I", Cond.fieldLink RX2 22 "UnionOffice$Member" "hasLeft" "Z", Cond.methodLink RX3 204 yX3_chargeDues, Cond.instanceMethod yX3_chargeDues, Cond.selects RX3 yX3_chargeDues yX3_chargeDues, Cond.code yX3_chargeDues cX3_chargeDues 6 none, Cond.instanceMethod yX2_charge, Cond.selects RX2 yX2_charge yX2_charge, Cond.code yX2_charge cX2_charge 2 (some .int), Cond.fieldLink RX2 42 "UnionOffice$Member" "band" "LUnionOffice$Band;", Cond.fieldLink RX2 9 "UnionOffice$Member" "owedFor" "[I", Cond.methodLink RX2 51 Lib.Math.min.name, Cond.static Lib.Math.min.name, Cond.initialized "java/lang/Math", Cond.code Lib.Math.min.name Lib.Math.min.code 2 (some .int), Cond.methodLink RX2 57 yX2_layLeftOver, Cond.instanceMethod yX2_layLeftOver]
def wsL_advance_r3 : List Cond := [Cond.selects RX2 yX2_layLeftOver yX2_layLeftOver, Cond.code yX2_layLeftOver cX2_layLeftOver 4 (some .int), Cond.fieldLink RX2 25 "UnionOffice$Member" "leftOver" "I", Cond.fieldLink RX2 15 "UnionOffice$Member" "laidOn" "[I", Cond.fieldLink RX2 38 "UnionOffice$Member" "branch" "LUnionOffice$Branch;", Cond.methodLink RX2 64 yX2_skipSettled, Cond.instanceMethod yX2_skipSettled, Cond.selects RX2 yX2_skipSettled yX2_skipSettled, Cond.code yX2_skipSettled cX2_skipSettled 1 none, Cond.methodLink RX3 207 yX3_countDelegates, Cond.instanceMethod yX3_countDelegates, Cond.selects RX3 yX3_countDelegates yX3_countDelegates, Cond.code yX3_countDelegates cX3_countDelegates 6 none, Cond.fieldLink RX3 21 "UnionOffice" "branches" "[LUnionOffice$Branch;", Cond.methodLink RX3 116 yX3_countStanding, Cond.instanceMethod yX3_countStanding, Cond.selects RX3 yX3_countStanding yX3_countStanding, Cond.code yX3_countStanding cX3_countStanding 7 (some .int)]
def wsL_advance : List Cond := .codeWith yL_advance cL_advance 4 (some .int) [(0, 9, 12, 15), (0, 9, 15, 24)] :: ((wsL_advance_r1 ++ (wsL_advance_r2 ++ wsL_advance_r3)) ++ wsX30 ++ wsX20 ++ wsX10 ++ wsX00 ++ (vx_atS RX3 67 "java/lang/IllegalStateException" ["java/lang/RuntimeException", "java/lang/Exception"]).filter goodWord ++ (vx_atS RX3 163 "java/lang/IllegalArgumentException" ["java/lang/RuntimeException", "java/lang/Exception"]).filter goodWord)
def wsL_fold : List Cond := .codeWith yL_fold cL_fold 4 (some .int) [(0, 9, 12, 15)] :: ([.classLink RL 15 "java/lang/IllegalArgumentException", .methodLink RL 58 yX3_fold, .instanceMethod yX3_fold, .selects RX3 yX3_fold yX3_fold, .initialized RX3, .code yX3_fold cX3_fold 4 (some .int), .classLink RX3 159 "java/lang/IllegalArgumentException", .initialized "java/lang/IllegalArgumentException", .fieldLink RX3 44 "UnionOffice" "foldedMonths" "I", .methodLink RX3 156 yX3_hasEnded, .instanceMethod yX3_hasEnded, .selects RX3 yX3_hasEnded yX3_hasEnded, .code yX3_hasEnded cX3_hasEnded 2 (some .boolean), .fieldLink RX3 38 "UnionOffice" "today" "I", .methodLink RX3 164 yX3_sumLaidOn, .instanceMethod yX3_sumLaidOn, .selects RX3 yX3_sumLaidOn yX3_sumLaidOn, .code yX3_sumLaidOn cX3_sumLaidOn 7 (some .int), .fieldLink RX3 21 "UnionOffice" "branches" "[LUnionOffice$Branch;"] ++ wsX30 ++ wsX10 ++ (vx_atS RX3 163 "java/lang/IllegalArgumentException" ["java/lang/RuntimeException", "java/lang/Exception"]).filter goodWord)
def wsL_owed : List Cond := .codeWith yL_owed cL_owed 4 (some .int) [(0, 9, 12, 13)] :: ([.classLink RL 13 "java/lang/IndexOutOfBoundsException", .methodLink RL 61 yX3_owed, .instanceMethod yX3_owed, .selects RX3 yX3_owed yX3_owed, .initialized RX3, .code yX3_owed cX3_owed 2 (some .int), .methodLink RX3 73 yX3_memberAt, .instanceMethod yX3_memberAt, .selects RX3 yX3_memberAt yX3_memberAt, .code yX3_memberAt cX3_memberAt 2 (some (.object "UnionOffice$Member")), .classLink RX3 186 "java/lang/IndexOutOfBoundsException", .initialized "java/lang/IndexOutOfBoundsException", .fieldLink RX3 27 "UnionOffice" "members" "[LUnionOffice$Member;", .instanceMethod yX2_sumOwed, .initialized RX2, .selects RX2 yX2_sumOwed yX2_sumOwed, .code yX2_sumOwed cX2_sumOwed 3 (some .int), .fieldLink RX2 32 "UnionOffice$Member" "earliestOwed" "I", .fieldLink RX2 9 "UnionOffice$Member" "owedFor" "[I"] ++ wsX30 ++ wsX20 ++ (vx_atS RX3 190 "java/lang/IndexOutOfBoundsException" ["java/lang/RuntimeException", "java/lang/Exception"]).filter goodWord)
def wsL_credit : List Cond := .codeWith yL_credit cL_credit 4 (some .int) [(0, 9, 12, 13)] :: ([.classLink RL 13 "java/lang/IndexOutOfBoundsException", .methodLink RL 64 yX3_credit, .instanceMethod yX3_credit, .selects RX3 yX3_credit yX3_credit, .initialized RX3, .code yX3_credit cX3_credit 2 (some .int), .methodLink RX3 73 yX3_memberAt, .instanceMethod yX3_memberAt, .selects RX3 yX3_memberAt yX3_memberAt, .code yX3_memberAt cX3_memberAt 2 (some (.object "UnionOffice$Member")), .classLink RX3 186 "java/lang/IndexOutOfBoundsException", .initialized "java/lang/IndexOutOfBoundsException", .fieldLink RX3 27 "UnionOffice" "members" "[LUnionOffice$Member;"] ++ wsX20 ++ wsX30 ++ (vx_atS RX3 190 "java/lang/IndexOutOfBoundsException" ["java/lang/RuntimeException", "java/lang/Exception"]).filter goodWord)
def wsL_laid_r1 : List Cond := [Cond.classLink RL 13 "java/lang/IndexOutOfBoundsException", Cond.classLink RL 24 "java/lang/IllegalStateException", Cond.methodLink RL 67 yX3_laid, Cond.instanceMethod yX3_laid, Cond.selects RX3 yX3_laid yX3_laid, Cond.initialized RX3, Cond.code yX3_laid cX3_laid 4 (some .int), Cond.classLink RX3 63 "java/lang/IllegalStateException", Cond.initialized "java/lang/IllegalStateException", Cond.fieldLink RX3 44 "UnionOffice" "foldedMonths" "I", Cond.methodLink RX3 73 yX3_memberAt, Cond.instanceMethod yX3_memberAt, Cond.selects RX3 yX3_memberAt yX3_memberAt, Cond.code yX3_memberAt cX3_memberAt 2 (some (.object "UnionOffice$Member")), Cond.classLink RX3 186 "java/lang/IndexOutOfBoundsException", Cond.initialized "java/lang/IndexOutOfBoundsException", Cond.fieldLink RX3 27 "UnionOffice" "members" "[LUnionOffice$Member;", Cond.methodLink RX3 170 yX3_checkEnded, Cond.instanceMethod yX3_checkEnded, Cond.selects RX3 yX3_checkEnded yX3_checkEnded, Cond.code yX3_checkEnded cX3_checkEnded 2 none, Cond.methodLink RX3 156 yX3_hasEnded, Cond.instanceMethod yX3_hasEnded, Cond.selects RX3 yX3_hasEnded yX3_hasEnded]
def wsL_laid_r2 : List Cond := [Cond.code yX3_hasEnded cX3_hasEnded 2 (some .boolean), Cond.fieldLink RX3 38 "UnionOffice" "today" "I"]
def wsL_laid : List Cond := .codeWith yL_laid cL_laid 5 (some .int) [(0, 10, 13, 13), (0, 10, 17, 24)] :: ((wsL_laid_r1 ++ wsL_laid_r2) ++ wsX30 ++ wsX20 ++ (vx_atS RX3 67 "java/lang/IllegalStateException" ["java/lang/RuntimeException", "java/lang/Exception"]).filter goodWord ++ (vx_atS RX3 190 "java/lang/IndexOutOfBoundsException" ["java/lang/RuntimeException", "java/lang/Exception"]).filter goodWord)
def wsL_laidFor : List Cond := .codeWith yL_laidFor cL_laidFor 5 (some .int) [(0, 10, 13, 13)] :: ([.classLink RL 13 "java/lang/IndexOutOfBoundsException", .methodLink RL 70 yX3_laidFor, .instanceMethod yX3_laidFor, .selects RX3 yX3_laidFor yX3_laidFor, .initialized RX3, .code yX3_laidFor cX3_laidFor 4 (some .int), .methodLink RX3 59 yX3_branchAt, .instanceMethod yX3_branchAt, .selects RX3 yX3_branchAt yX3_branchAt, .code yX3_branchAt cX3_branchAt 2 (some (.object "UnionOffice$Branch")), .classLink RX3 186 "java/lang/IndexOutOfBoundsException", .initialized "java/lang/IndexOutOfBoundsException", .fieldLink RX3 21 "UnionOffice" "branches" "[LUnionOffice$Branch;", .methodLink RX3 170 yX3_checkEnded, .instanceMethod yX3_checkEnded, .selects RX3 yX3_checkEnded yX3_checkEnded, .code yX3_checkEnded cX3_checkEnded 2 none, .methodLink RX3 156 yX3_hasEnded, .instanceMethod yX3_hasEnded, .selects RX3 yX3_hasEnded yX3_hasEnded, .code yX3_hasEnded cX3_hasEnded 2 (some .boolean), .fieldLink RX3 38 "UnionOffice" "today" "I"] ++ wsX10 ++ wsX30 ++ (vx_atS RX3 190 "java/lang/IndexOutOfBoundsException" ["java/lang/RuntimeException", "java/lang/Exception"]).filter goodWord)
def wsL_hasStanding : List Cond := .codeWith yL_hasStanding cL_hasStanding 4 (some .int) [(0, 16, 19, 13)] :: ([.classLink RL 13 "java/lang/IndexOutOfBoundsException", .methodLink RL 73 yX3_hasStanding, .instanceMethod yX3_hasStanding, .selects RX3 yX3_hasStanding yX3_hasStanding, .initialized RX3, .code yX3_hasStanding cX3_hasStanding 2 (some .boolean), .fieldLink RX3 38 "UnionOffice" "today" "I", .methodLink RX3 73 yX3_memberAt, .instanceMethod yX3_memberAt, .selects RX3 yX3_memberAt yX3_memberAt, .code yX3_memberAt cX3_memberAt 2 (some (.object "UnionOffice$Member")), .classLink RX3 186 "java/lang/IndexOutOfBoundsException", .initialized "java/lang/IndexOutOfBoundsException", .fieldLink RX3 27 "UnionOffice" "members" "[LUnionOffice$Member;", .instanceMethod yX2_standsOn, .initialized RX2, .selects RX2 yX2_standsOn yX2_standsOn, .code yX2_standsOn cX2_standsOn 3 (some .boolean), .fieldLink RX2 32 "UnionOffice$Member" "earliestOwed" "I", .fieldLink RX2 22 "UnionOffice$Member" "hasLeft" "Z"] ++ wsX30 ++ wsX20 ++ (vx_atS RX3 190 "java/lang/IndexOutOfBoundsException" ["java/lang/RuntimeException", "java/lang/Exception"]).filter goodWord)
def wsL_strikePay : List Cond := .codeWith yL_strikePay cL_strikePay 4 (some .int) [(0, 9, 12, 13)] :: ([.classLink RL 13 "java/lang/IndexOutOfBoundsException", .methodLink RL 76 yX3_strikePay, .instanceMethod yX3_strikePay, .selects RX3 yX3_strikePay yX3_strikePay, .initialized RX3, .code yX3_strikePay cX3_strikePay 2 (some .int), .methodLink RX3 73 yX3_memberAt, .instanceMethod yX3_memberAt, .selects RX3 yX3_memberAt yX3_memberAt, .code yX3_memberAt cX3_memberAt 2 (some (.object "UnionOffice$Member")), .classLink RX3 186 "java/lang/IndexOutOfBoundsException", .initialized "java/lang/IndexOutOfBoundsException", .fieldLink RX3 27 "UnionOffice" "members" "[LUnionOffice$Member;"] ++ wsX20 ++ wsX30 ++ (vx_atS RX3 190 "java/lang/IndexOutOfBoundsException" ["java/lang/RuntimeException", "java/lang/Exception"]).filter goodWord)
def wsL_delegates : List Cond := .codeWith yL_delegates cL_delegates 4 (some .int) [(0, 9, 12, 13)] :: ([.classLink RL 13 "java/lang/IndexOutOfBoundsException", .methodLink RL 79 yX3_delegates, .instanceMethod yX3_delegates, .selects RX3 yX3_delegates yX3_delegates, .initialized RX3, .code yX3_delegates cX3_delegates 2 (some .int), .methodLink RX3 59 yX3_branchAt, .instanceMethod yX3_branchAt, .selects RX3 yX3_branchAt yX3_branchAt, .code yX3_branchAt cX3_branchAt 2 (some (.object "UnionOffice$Branch")), .classLink RX3 186 "java/lang/IndexOutOfBoundsException", .initialized "java/lang/IndexOutOfBoundsException", .fieldLink RX3 21 "UnionOffice" "branches" "[LUnionOffice$Branch;"] ++ wsX10 ++ wsX30 ++ (vx_atS RX3 190 "java/lang/IndexOutOfBoundsException" ["java/lang/RuntimeException", "java/lang/Exception"]).filter goodWord)
def wsL_isOut : List Cond := .codeWith yL_isOut cL_isOut 4 (some .int) [(0, 16, 19, 13)] :: ([.classLink RL 13 "java/lang/IndexOutOfBoundsException", .methodLink RL 82 yX3_isOut, .instanceMethod yX3_isOut, .selects RX3 yX3_isOut yX3_isOut, .initialized RX3, .code yX3_isOut cX3_isOut 2 (some .boolean), .methodLink RX3 59 yX3_branchAt, .instanceMethod yX3_branchAt, .selects RX3 yX3_branchAt yX3_branchAt, .code yX3_branchAt cX3_branchAt 2 (some (.object "UnionOffice$Branch")), .classLink RX3 186 "java/lang/IndexOutOfBoundsException", .initialized "java/lang/IndexOutOfBoundsException", .fieldLink RX3 21 "UnionOffice" "branches" "[LUnionOffice$Branch;"] ++ wsX10 ++ wsX30 ++ (vx_atS RX3 190 "java/lang/IndexOutOfBoundsException" ["java/lang/RuntimeException", "java/lang/Exception"]).filter goodWord)
def wsL_law0_r1 : List Cond := [Cond.classLink RL 8 RX3, Cond.instantiable RX3 8, Cond.initialized RX3, Cond.classLink RL 86 RX4, Cond.instantiable RX4 23, Cond.initialized RX4, Cond.arrayClass .long, Cond.methodLink RL 85 yX3_init, Cond.instanceMethod yX3_init, Cond.code yX3_init cX3_init 1 none, Cond.methodLink RX3 3 objectInit, Cond.instanceMethod objectInit, Cond.code objectInit ⟨#[0xb1]⟩ 1 none, Cond.classLink RX3 9 RX0, Cond.instantiable RX0 1, Cond.initialized RX0, Cond.fieldLink RX3 14 "UnionOffice" "bands" "[LUnionOffice$Band;", Cond.classLink RX3 18 RX1, Cond.instantiable RX1 7, Cond.initialized RX1, Cond.fieldLink RX3 21 "UnionOffice" "branches" "[LUnionOffice$Branch;", Cond.classLink RX3 25 RX2, Cond.fieldLink RX3 27 "UnionOffice" "members" "[LUnionOffice$Member;", Cond.fieldLink RX3 31 "UnionOffice" "joined" "I"]
def wsL_law0_r2 : List Cond := [Cond.fieldLink RX3 35 "UnionOffice" "payOfStrikeDay" "I", Cond.fieldLink RX3 38 "UnionOffice" "today" "I", Cond.fieldLink RX3 41 "UnionOffice" "inFund" "I", Cond.fieldLink RX3 44 "UnionOffice" "foldedMonths" "I", Cond.instanceMethod yX0_init, Cond.code yX0_init cX0_init 2 none, Cond.methodLink RX0 1 objectInit, Cond.fieldLink RX0 7 "UnionOffice$Band" "monthlyDues" "I", Cond.instanceMethod yX1_init, Cond.code yX1_init cX1_init 1 none, Cond.methodLink RX1 3 objectInit, Cond.arrayClass .int, Cond.fieldLink RX1 9 "UnionOffice$Branch" "laidOn" "[I", Cond.fieldLink RX1 15 "UnionOffice$Branch" "hasBallot" "Z", Cond.fieldLink RX1 19 "UnionOffice$Branch" "voters" "I", Cond.fieldLink RX1 23 "UnionOffice$Branch" "yesVoters" "I", Cond.fieldLink RX1 26 "UnionOffice$Branch" "mayStrike" "Z", Cond.fieldLink RX1 29 "UnionOffice$Branch" "isOnStrike" "Z", Cond.fieldLink RX1 32 "UnionOffice$Branch" "delegatesOfYear" "I", Cond.methodLink RL 88 yX4_init, Cond.instanceMethod yX4_init, Cond.code yX4_init cX4_init 1 none, Cond.methodLink RX4 1 objectInit, Cond.fieldLink RX4 7 "UnionOfficeModel" "duesOf" "[I"]
def wsL_law0_r3 : List Cond := [Cond.fieldLink RX4 13 "UnionOfficeModel" "branches" "[I", Cond.fieldLink RX4 16 "UnionOfficeModel" "bands" "[I", Cond.arrayClass .boolean, Cond.fieldLink RX4 19 "UnionOfficeModel" "hasLeft" "[Z", Cond.fieldLink RX4 23 "UnionOfficeModel" "isAway" "[Z", Cond.fieldLink RX4 26 "UnionOfficeModel" "credits" "[I", Cond.fieldLink RX4 29 "UnionOfficeModel" "strikePays" "[I", Cond.fieldLink RX4 32 "UnionOfficeModel" "debts" "[I", Cond.fieldLink RX4 35 "UnionOfficeModel" "laidBy" "[I", Cond.fieldLink RX4 38 "UnionOfficeModel" "laidOf" "[I", Cond.fieldLink RX4 41 "UnionOfficeModel" "hasBallot" "[Z", Cond.fieldLink RX4 44 "UnionOfficeModel" "yes" "[I", Cond.fieldLink RX4 47 "UnionOfficeModel" "no" "[I", Cond.fieldLink RX4 50 "UnionOfficeModel" "canStrike" "[Z", Cond.fieldLink RX4 53 "UnionOfficeModel" "isStriking" "[Z", Cond.fieldLink RX4 56 "UnionOfficeModel" "hasVoted" "[Z", Cond.fieldLink RX4 59 "UnionOfficeModel" "delegateMany" "[I", Cond.fieldLink RX4 62 "UnionOfficeModel" "pay" "I", Cond.fieldLink RX4 66 "UnionOfficeModel" "folded" "I", Cond.methodLink RL 89 yL_setDues, Cond.static yL_setDues, Cond.initialized RL, Cond.codeWith yL_setDues cL_setDues 5 (some .int) [(0, 10, 13, 13), (0, 10, 17, 15)], Cond.classLink RL 13 "java/lang/IndexOutOfBoundsException"]
def wsL_law0_r4 : List Cond := [Cond.classLink RL 15 "java/lang/IllegalArgumentException", Cond.methodLink RL 7 yX3_setDues, Cond.instanceMethod yX3_setDues, Cond.selects RX3 yX3_setDues yX3_setDues, Cond.code yX3_setDues cX3_setDues 5 (some .int), Cond.constant RX3 51 (100000), Cond.methodLink RX3 47 yX3_bandAt, Cond.instanceMethod yX3_bandAt, Cond.selects RX3 yX3_bandAt yX3_bandAt, Cond.code yX3_bandAt cX3_bandAt 2 (some (.object "UnionOffice$Band")), Cond.classLink RX3 186 "java/lang/IndexOutOfBoundsException", Cond.initialized "java/lang/IndexOutOfBoundsException", Cond.methodLink RX3 52 yX3_checkRange, Cond.instanceMethod yX3_checkRange, Cond.selects RX3 yX3_checkRange yX3_checkRange, Cond.code yX3_checkRange cX3_checkRange 4 none, Cond.classLink RX3 159 "java/lang/IllegalArgumentException", Cond.initialized "java/lang/IllegalArgumentException", Cond.methodLink RL 94 yX4_setDues, Cond.instanceMethod yX4_setDues, Cond.selects RX4 yX4_setDues yX4_setDues, Cond.code yX4_setDues cX4_setDues 4 (some .int), Cond.constant RX4 89 (100000), Cond.fieldLink RX4 69 "UnionOfficeModel" "thrown" "I"]
def wsL_law0_r5 : List Cond := [Cond.methodLink RX4 86 yX4_isBand, Cond.static yX4_isBand, Cond.code yX4_isBand cX4_isBand 1 (some .boolean), Cond.methodLink RX4 75 yX4_in, Cond.static yX4_in, Cond.code yX4_in cX4_in 3 (some .boolean), Cond.methodLink RL 95 yX4_thrown, Cond.instanceMethod yX4_thrown, Cond.selects RX4 yX4_thrown yX4_thrown, Cond.code yX4_thrown cX4_thrown 1 (some .int), Cond.methodLink RL 99 yL_setStrikePay, Cond.static yL_setStrikePay, Cond.codeWith yL_setStrikePay cL_setStrikePay 4 (some .int) [(0, 9, 12, 15)], Cond.methodLink RL 17 yX3_setStrikePay, Cond.instanceMethod yX3_setStrikePay, Cond.selects RX3 yX3_setStrikePay yX3_setStrikePay, Cond.code yX3_setStrikePay cX3_setStrikePay 3 (some .int), Cond.methodLink RL 102 yX4_setStrikePay, Cond.instanceMethod yX4_setStrikePay, Cond.selects RX4 yX4_setStrikePay yX4_setStrikePay, Cond.code yX4_setStrikePay cX4_setStrikePay 3 (some .int), Cond.methodLink RL 103 yL_join, Cond.static yL_join, Cond.codeWith yL_join cL_join 5 (some .int) [(0, 10, 13, 13), (0, 10, 17, 24)]]
def wsL_law0_r6 : List Cond := [Cond.classLink RL 24 "java/lang/IllegalStateException", Cond.methodLink RL 21 yX3_join, Cond.instanceMethod yX3_join, Cond.selects RX3 yX3_join yX3_join, Cond.code yX3_join cX3_join 6 (some .int), Cond.classLink RX3 63 "java/lang/IllegalStateException", Cond.initialized "java/lang/IllegalStateException", Cond.instantiable RX2 10, Cond.initialized RX2, Cond.methodLink RX3 59 yX3_branchAt, Cond.instanceMethod yX3_branchAt, Cond.selects RX3 yX3_branchAt yX3_branchAt, Cond.code yX3_branchAt cX3_branchAt 2 (some (.object "UnionOffice$Branch")), Cond.instanceMethod yX2_init, Cond.code yX2_init cX2_init 4 none, Cond.methodLink RX2 3 objectInit, Cond.fieldLink RX2 9 "UnionOffice$Member" "owedFor" "[I", Cond.fieldLink RX2 15 "UnionOffice$Member" "laidOn" "[I", Cond.fieldLink RX2 18 "UnionOffice$Member" "isOnLeave" "Z", Cond.fieldLink RX2 22 "UnionOffice$Member" "hasLeft" "Z", Cond.fieldLink RX2 25 "UnionOffice$Member" "leftOver" "I", Cond.fieldLink RX2 29 "UnionOffice$Member" "strikePayHad" "I", Cond.fieldLink RX2 32 "UnionOffice$Member" "earliestOwed" "I", Cond.fieldLink RX2 35 "UnionOffice$Member" "number" "I"]
def wsL_law0_r7 : List Cond := [Cond.fieldLink RX2 38 "UnionOffice$Member" "branch" "LUnionOffice$Branch;", Cond.fieldLink RX2 42 "UnionOffice$Member" "band" "LUnionOffice$Band;", Cond.methodLink RL 105 yX4_join, Cond.instanceMethod yX4_join, Cond.selects RX4 yX4_join yX4_join, Cond.code yX4_join cX4_join 3 (some .int), Cond.fieldLink RX4 72 "UnionOfficeModel" "memberMany" "I", Cond.methodLink RX4 90 yX4_isBranch, Cond.static yX4_isBranch, Cond.code yX4_isBranch cX4_isBranch 1 (some .boolean), Cond.methodLink RL 106 yL_move, Cond.static yL_move, Cond.codeWith yL_move cL_move 5 (some .int) [(0, 7, 10, 13), (0, 7, 14, 24)], Cond.methodLink RL 26 yX3_move, Cond.instanceMethod yX3_move, Cond.selects RX3 yX3_move yX3_move, Cond.code yX3_move cX3_move 7 none, Cond.methodLink RX3 73 yX3_memberAt, Cond.instanceMethod yX3_memberAt, Cond.selects RX3 yX3_memberAt yX3_memberAt, Cond.code yX3_memberAt cX3_memberAt 2 (some (.object "UnionOffice$Member")), Cond.methodLink RX3 77 yX3_checkNotLeft, Cond.instanceMethod yX3_checkNotLeft, Cond.selects RX3 yX3_checkNotLeft yX3_checkNotLeft]
def wsL_law0_r8 : List Cond := [Cond.code yX3_checkNotLeft cX3_checkNotLeft 2 none, Cond.methodLink RL 109 yX4_move, Cond.instanceMethod yX4_move, Cond.selects RX4 yX4_move yX4_move, Cond.code yX4_move cX4_move 4 none, Cond.methodLink RX4 93 yX4_isMember, Cond.instanceMethod yX4_isMember, Cond.selects RX4 yX4_isMember yX4_isMember, Cond.code yX4_isMember cX4_isMember 2 (some .boolean), Cond.methodLink RL 110 yL_leave, Cond.static yL_leave, Cond.codeWith yL_leave cL_leave 5 (some .int) [(0, 17, 20, 13), (0, 17, 24, 24)], Cond.methodLink RL 30 yX3_leave, Cond.instanceMethod yX3_leave, Cond.selects RX3 yX3_leave yX3_leave, Cond.code yX3_leave cX3_leave 5 (some .boolean), Cond.methodLink RL 113 yX4_leave, Cond.instanceMethod yX4_leave, Cond.selects RX4 yX4_leave yX4_leave, Cond.code yX4_leave cX4_leave 4 (some .boolean), Cond.methodLink RL 114 yL_quit, Cond.static yL_quit, Cond.codeWith yL_quit cL_quit 4 (some .int) [(0, 9, 12, 13), (0, 9, 15, 24)], Cond.methodLink RL 34 yX3_quit]
def wsL_law0_r9 : List Cond := [Cond.instanceMethod yX3_quit, Cond.selects RX3 yX3_quit yX3_quit, Cond.code yX3_quit cX3_quit 3 (some .int), Cond.instanceMethod yX2_sumOwed, Cond.selects RX2 yX2_sumOwed yX2_sumOwed, Cond.code yX2_sumOwed cX2_sumOwed 3 (some .int), Cond.methodLink RL 116 yX4_quit, Cond.instanceMethod yX4_quit, Cond.selects RX4 yX4_quit yX4_quit, Cond.code yX4_quit cX4_quit 2 (some .int), Cond.methodLink RX4 96 yX4_owedBy, Cond.instanceMethod yX4_owedBy, Cond.selects RX4 yX4_owedBy yX4_owedBy, Cond.code yX4_owedBy cX4_owedBy 4 (some .int), Cond.methodLink RL 117 yL_pay, Cond.static yL_pay, Cond.codeWith yL_pay cL_pay 5 (some .int) [(0, 10, 13, 13), (0, 10, 17, 15)], Cond.methodLink RL 37 yX3_pay, Cond.instanceMethod yX3_pay, Cond.selects RX3 yX3_pay yX3_pay, Cond.code yX3_pay cX3_pay 4 (some .int), Cond.constant RX3 100 (1000000), Cond.instanceMethod yX2_takeIn, Cond.selects RX2 yX2_takeIn yX2_takeIn]
def wsL_law0_r10 : List Cond := [Cond.code yX2_takeIn cX2_takeIn 2 (some .int), Cond.methodLink RX2 57 yX2_layLeftOver, Cond.instanceMethod yX2_layLeftOver, Cond.selects RX2 yX2_layLeftOver yX2_layLeftOver, Cond.code yX2_layLeftOver cX2_layLeftOver 4 (some .int), Cond.methodLink RX2 51 Lib.Math.min.name, Cond.static Lib.Math.min.name, Cond.initialized "java/lang/Math", Cond.code Lib.Math.min.name Lib.Math.min.code 2 (some .int), Cond.methodLink RX2 64 yX2_skipSettled, Cond.instanceMethod yX2_skipSettled, Cond.selects RX2 yX2_skipSettled yX2_skipSettled, Cond.code yX2_skipSettled cX2_skipSettled 1 none, Cond.methodLink RL 119 yX4_pay, Cond.instanceMethod yX4_pay, Cond.selects RX4 yX4_pay yX4_pay, Cond.code yX4_pay cX4_pay 3 (some .int), Cond.constant RX4 103 (1000000), Cond.methodLink RX4 104 yX4_lay, Cond.instanceMethod yX4_lay, Cond.selects RX4 yX4_lay yX4_lay, Cond.code yX4_lay cX4_lay 5 none, Cond.fieldLink RX4 100 "UnionOfficeModel" "money" "I", Cond.methodLink RL 120 yL_open]
def wsL_law0_r11 : List Cond := [Cond.static yL_open, Cond.codeWith yL_open cL_open 4 (some .int) [(0, 9, 12, 13), (0, 9, 15, 24)], Cond.methodLink RL 40 yX3_open, Cond.instanceMethod yX3_open, Cond.selects RX3 yX3_open yX3_open, Cond.code yX3_open cX3_open 3 (some .int), Cond.instanceMethod yX1_beginBallot, Cond.selects RX1 yX1_beginBallot yX1_beginBallot, Cond.code yX1_beginBallot cX1_beginBallot 1 none, Cond.methodLink RX3 116 yX3_countStanding, Cond.instanceMethod yX3_countStanding, Cond.selects RX3 yX3_countStanding yX3_countStanding, Cond.code yX3_countStanding cX3_countStanding 7 (some .int), Cond.instanceMethod yX2_standsOn, Cond.selects RX2 yX2_standsOn yX2_standsOn, Cond.code yX2_standsOn cX2_standsOn 3 (some .boolean), Cond.methodLink RL 122 yX4_open, Cond.instanceMethod yX4_open, Cond.selects RX4 yX4_open yX4_open, Cond.code yX4_open cX4_open 3 (some .int), Cond.methodLink RX4 108 yX4_standing, Cond.instanceMethod yX4_standing, Cond.selects RX4 yX4_standing yX4_standing, Cond.code yX4_standing cX4_standing 4 (some .int)]
def wsL_law0_r12 : List Cond := [Cond.methodLink RX4 82 yX4_stands, Cond.instanceMethod yX4_stands, Cond.selects RX4 yX4_stands yX4_stands, Cond.code yX4_stands cX4_stands 4 (some .boolean), Cond.fieldLink RX4 79 "UnionOfficeModel" "now" "I", Cond.methodLink RL 123 yL_vote, Cond.static yL_vote, Cond.codeWith yL_vote cL_vote 5 (some .int) [(0, 10, 13, 13), (0, 10, 17, 24)], Cond.methodLink RL 43 yX3_vote, Cond.instanceMethod yX3_vote, Cond.selects RX3 yX3_vote yX3_vote, Cond.code yX3_vote cX3_vote 5 (some .int), Cond.instanceMethod yX1_hasVoteOf, Cond.selects RX1 yX1_hasVoteOf yX1_hasVoteOf, Cond.code yX1_hasVoteOf cX1_hasVoteOf 2 (some .boolean), Cond.instanceMethod yX2_bit, Cond.selects RX2 yX2_bit yX2_bit, Cond.code yX2_bit cX2_bit 1 (some .int), Cond.instanceMethod yX1_takeVote, Cond.selects RX1 yX1_takeVote yX1_takeVote, Cond.code yX1_takeVote cX1_takeVote 3 none, Cond.instanceMethod yX1_countVotes, Cond.selects RX1 yX1_countVotes yX1_countVotes, Cond.code yX1_countVotes cX1_countVotes 1 (some .int)]
def wsL_law0_r13 : List Cond := [Cond.methodLink RX1 41 yJ6_bitCount_0f7a4, Cond.static yJ6_bitCount_0f7a4, Cond.initialized RJ6, Cond.code yJ6_bitCount_0f7a4 cJ6_bitCount_0f7a4 1 (some .int), Cond.constant RJ6 265 (1431655765), Cond.constant RJ6 266 (858993459), Cond.constant RJ6 267 (252645135), Cond.methodLink RL 125 yX4_vote, Cond.instanceMethod yX4_vote, Cond.selects RX4 yX4_vote yX4_vote, Cond.code yX4_vote cX4_vote 4 (some .int), Cond.methodLink RL 126 yL_close, Cond.static yL_close, Cond.codeWith yL_close cL_close 4 (some .int) [(0, 16, 19, 13), (0, 16, 22, 24)], Cond.methodLink RL 47 yX3_close, Cond.instanceMethod yX3_close, Cond.selects RX3 yX3_close yX3_close, Cond.code yX3_close cX3_close 3 (some .boolean), Cond.instanceMethod yX1_endBallot, Cond.selects RX1 yX1_endBallot yX1_endBallot, Cond.code yX1_endBallot cX1_endBallot 4 none, Cond.methodLink RX1 47 yX1_countVotes, Cond.methodLink RL 128 yX4_close, Cond.instanceMethod yX4_close]
def wsL_law0_r14 : List Cond := [Cond.selects RX4 yX4_close yX4_close, Cond.code yX4_close cX4_close 3 (some .boolean), Cond.methodLink RL 129 yL_strike, Cond.static yL_strike, Cond.codeWith yL_strike cL_strike 4 (some .int) [(0, 6, 9, 13), (0, 6, 12, 24)], Cond.methodLink RL 51 yX3_strike, Cond.instanceMethod yX3_strike, Cond.selects RX3 yX3_strike yX3_strike, Cond.code yX3_strike cX3_strike 4 none, Cond.instanceMethod yX1_canBeCalledOut, Cond.selects RX1 yX1_canBeCalledOut yX1_canBeCalledOut, Cond.code yX1_canBeCalledOut cX1_canBeCalledOut 1 (some .boolean), Cond.methodLink RL 132 yX4_strike, Cond.instanceMethod yX4_strike, Cond.selects RX4 yX4_strike yX4_strike, Cond.code yX4_strike cX4_strike 4 none, Cond.methodLink RL 133 yL_advance, Cond.static yL_advance, Cond.codeWith yL_advance cL_advance 4 (some .int) [(0, 9, 12, 15), (0, 9, 15, 24)], Cond.methodLink RL 55 yX3_advance, Cond.instanceMethod yX3_advance, Cond.selects RX3 yX3_advance yX3_advance, Cond.code yX3_advance cX3_advance 3 (some .int), Cond.methodLink RX3 153 yX3_endDay]
def wsL_law0_r15 : List Cond := [Cond.instanceMethod yX3_endDay, Cond.selects RX3 yX3_endDay yX3_endDay, Cond.code yX3_endDay cX3_endDay 1 none, Cond.methodLink RX3 201 yX3_payStrikers, Cond.instanceMethod yX3_payStrikers, Cond.selects RX3 yX3_payStrikers yX3_payStrikers, Cond.code yX3_payStrikers cX3_payStrikers 5 none, Cond.methodLink RX3 204 yX3_chargeDues, Cond.instanceMethod yX3_chargeDues, Cond.selects RX3 yX3_chargeDues yX3_chargeDues, Cond.code yX3_chargeDues cX3_chargeDues 6 none, Cond.instanceMethod yX2_charge, Cond.selects RX2 yX2_charge yX2_charge, Cond.code yX2_charge cX2_charge 2 (some .int), Cond.methodLink RX3 207 yX3_countDelegates, Cond.instanceMethod yX3_countDelegates, Cond.selects RX3 yX3_countDelegates yX3_countDelegates, Cond.code yX3_countDelegates cX3_countDelegates 6 none, Cond.methodLink RL 135 yX4_advance, Cond.instanceMethod yX4_advance, Cond.selects RX4 yX4_advance yX4_advance, Cond.code yX4_advance cX4_advance 4 (some .int), Cond.methodLink RX4 111 yX4_payStrikes, Cond.instanceMethod yX4_payStrikes]
def wsL_law0_r16 : List Cond := [Cond.selects RX4 yX4_payStrikes yX4_payStrikes, Cond.code yX4_payStrikes cX4_payStrikes 2 none, Cond.methodLink RX4 114 yX4_takeDues, Cond.instanceMethod yX4_takeDues, Cond.selects RX4 yX4_takeDues yX4_takeDues, Cond.code yX4_takeDues cX4_takeDues 3 none, Cond.methodLink RL 136 yL_fold, Cond.static yL_fold, Cond.codeWith yL_fold cL_fold 4 (some .int) [(0, 9, 12, 15)], Cond.methodLink RL 58 yX3_fold, Cond.instanceMethod yX3_fold, Cond.selects RX3 yX3_fold yX3_fold, Cond.code yX3_fold cX3_fold 4 (some .int), Cond.methodLink RX3 156 yX3_hasEnded, Cond.instanceMethod yX3_hasEnded, Cond.selects RX3 yX3_hasEnded yX3_hasEnded, Cond.code yX3_hasEnded cX3_hasEnded 2 (some .boolean), Cond.methodLink RX3 164 yX3_sumLaidOn, Cond.instanceMethod yX3_sumLaidOn, Cond.selects RX3 yX3_sumLaidOn yX3_sumLaidOn, Cond.code yX3_sumLaidOn cX3_sumLaidOn 7 (some .int), Cond.methodLink RL 138 yX4_fold, Cond.instanceMethod yX4_fold, Cond.selects RX4 yX4_fold yX4_fold]
def wsL_law0_r17 : List Cond := [Cond.code yX4_fold cX4_fold 5 (some .int), Cond.methodLink RX4 117 yX4_hasEnded, Cond.instanceMethod yX4_hasEnded, Cond.selects RX4 yX4_hasEnded yX4_hasEnded, Cond.code yX4_hasEnded cX4_hasEnded 2 (some .boolean), Cond.methodLink RL 139 yX3_day, Cond.instanceMethod yX3_day, Cond.selects RX3 yX3_day yX3_day, Cond.code yX3_day cX3_day 1 (some .int), Cond.methodLink RL 142 yX4_day, Cond.instanceMethod yX4_day, Cond.selects RX4 yX4_day yX4_day, Cond.code yX4_day cX4_day 1 (some .int), Cond.methodLink RL 143 yX3_fund, Cond.instanceMethod yX3_fund, Cond.selects RX3 yX3_fund yX3_fund, Cond.code yX3_fund cX3_fund 1 (some .int), Cond.methodLink RL 146 yX4_fund, Cond.instanceMethod yX4_fund, Cond.selects RX4 yX4_fund yX4_fund, Cond.code yX4_fund cX4_fund 1 (some .int), Cond.methodLink RL 147 yL_owed, Cond.static yL_owed, Cond.codeWith yL_owed cL_owed 4 (some .int) [(0, 9, 12, 13)]]
def wsL_law0_r18 : List Cond := [Cond.methodLink RL 61 yX3_owed, Cond.instanceMethod yX3_owed, Cond.selects RX3 yX3_owed yX3_owed, Cond.code yX3_owed cX3_owed 2 (some .int), Cond.methodLink RL 149 yX4_owed, Cond.instanceMethod yX4_owed, Cond.selects RX4 yX4_owed yX4_owed, Cond.code yX4_owed cX4_owed 2 (some .int), Cond.methodLink RX4 120 yX4_asksFor, Cond.instanceMethod yX4_asksFor, Cond.selects RX4 yX4_asksFor yX4_asksFor, Cond.code yX4_asksFor cX4_asksFor 2 (some .boolean), Cond.methodLink RL 150 yL_credit, Cond.static yL_credit, Cond.codeWith yL_credit cL_credit 4 (some .int) [(0, 9, 12, 13)], Cond.methodLink RL 64 yX3_credit, Cond.instanceMethod yX3_credit, Cond.selects RX3 yX3_credit yX3_credit, Cond.code yX3_credit cX3_credit 2 (some .int), Cond.methodLink RL 152 yX4_credit, Cond.instanceMethod yX4_credit, Cond.selects RX4 yX4_credit yX4_credit, Cond.code yX4_credit cX4_credit 2 (some .int), Cond.methodLink RL 153 yL_laid]
def wsL_law0_r19 : List Cond := [Cond.static yL_laid, Cond.codeWith yL_laid cL_laid 5 (some .int) [(0, 10, 13, 13), (0, 10, 17, 24)], Cond.methodLink RL 67 yX3_laid, Cond.instanceMethod yX3_laid, Cond.selects RX3 yX3_laid yX3_laid, Cond.code yX3_laid cX3_laid 4 (some .int), Cond.methodLink RX3 170 yX3_checkEnded, Cond.instanceMethod yX3_checkEnded, Cond.selects RX3 yX3_checkEnded yX3_checkEnded, Cond.code yX3_checkEnded cX3_checkEnded 2 none, Cond.methodLink RL 155 yX4_laid, Cond.instanceMethod yX4_laid, Cond.selects RX4 yX4_laid yX4_laid, Cond.code yX4_laid cX4_laid 3 (some .int), Cond.methodLink RL 156 yL_laidFor, Cond.static yL_laidFor, Cond.codeWith yL_laidFor cL_laidFor 5 (some .int) [(0, 10, 13, 13)], Cond.methodLink RL 70 yX3_laidFor, Cond.instanceMethod yX3_laidFor, Cond.selects RX3 yX3_laidFor yX3_laidFor, Cond.code yX3_laidFor cX3_laidFor 4 (some .int), Cond.methodLink RL 158 yX4_laidFor, Cond.instanceMethod yX4_laidFor, Cond.selects RX4 yX4_laidFor yX4_laidFor]
def wsL_law0_r20 : List Cond := [Cond.code yX4_laidFor cX4_laidFor 3 (some .int), Cond.methodLink RL 159 yL_hasStanding, Cond.static yL_hasStanding, Cond.codeWith yL_hasStanding cL_hasStanding 4 (some .int) [(0, 16, 19, 13)], Cond.methodLink RL 73 yX3_hasStanding, Cond.instanceMethod yX3_hasStanding, Cond.selects RX3 yX3_hasStanding yX3_hasStanding, Cond.code yX3_hasStanding cX3_hasStanding 2 (some .boolean), Cond.methodLink RL 161 yX4_hasStanding, Cond.instanceMethod yX4_hasStanding, Cond.selects RX4 yX4_hasStanding yX4_hasStanding, Cond.code yX4_hasStanding cX4_hasStanding 2 (some .boolean), Cond.methodLink RL 162 yL_strikePay, Cond.static yL_strikePay, Cond.codeWith yL_strikePay cL_strikePay 4 (some .int) [(0, 9, 12, 13)], Cond.methodLink RL 76 yX3_strikePay, Cond.instanceMethod yX3_strikePay, Cond.selects RX3 yX3_strikePay yX3_strikePay, Cond.code yX3_strikePay cX3_strikePay 2 (some .int), Cond.methodLink RL 164 yX4_strikePay, Cond.instanceMethod yX4_strikePay, Cond.selects RX4 yX4_strikePay yX4_strikePay, Cond.code yX4_strikePay cX4_strikePay 2 (some .int), Cond.methodLink RL 165 yL_delegates]
def wsL_law0_r21 : List Cond := [Cond.static yL_delegates, Cond.codeWith yL_delegates cL_delegates 4 (some .int) [(0, 9, 12, 13)], Cond.methodLink RL 79 yX3_delegates, Cond.instanceMethod yX3_delegates, Cond.selects RX3 yX3_delegates yX3_delegates, Cond.code yX3_delegates cX3_delegates 2 (some .int), Cond.methodLink RL 167 yX4_delegates, Cond.instanceMethod yX4_delegates, Cond.selects RX4 yX4_delegates yX4_delegates, Cond.code yX4_delegates cX4_delegates 2 (some .int), Cond.methodLink RL 168 yL_isOut, Cond.static yL_isOut, Cond.codeWith yL_isOut cL_isOut 4 (some .int) [(0, 16, 19, 13)], Cond.methodLink RL 82 yX3_isOut, Cond.instanceMethod yX3_isOut, Cond.selects RX3 yX3_isOut yX3_isOut, Cond.code yX3_isOut cX3_isOut 2 (some .boolean), Cond.methodLink RL 170 yX4_isOut, Cond.instanceMethod yX4_isOut, Cond.selects RX4 yX4_isOut yX4_isOut, Cond.code yX4_isOut cX4_isOut 2 (some .boolean)]
def wsL_law0 : List Cond := (wsL_law0_r1 ++ (wsL_law0_r2 ++ (wsL_law0_r3 ++ (wsL_law0_r4 ++ (wsL_law0_r5 ++ (wsL_law0_r6 ++ (wsL_law0_r7 ++ (wsL_law0_r8 ++ (wsL_law0_r9 ++ (wsL_law0_r10 ++ (wsL_law0_r11 ++ (wsL_law0_r12 ++ (wsL_law0_r13 ++ (wsL_law0_r14 ++ (wsL_law0_r15 ++ (wsL_law0_r16 ++ (wsL_law0_r17 ++ (wsL_law0_r18 ++ (wsL_law0_r19 ++ (wsL_law0_r20 ++ wsL_law0_r21)))))))))))))))))))) ++ wsX30 ++ wsX40 ++ wsX00 ++ wsX10 ++ wsX20 ++ ([] : List Cond)
def wsL_law : List Cond := wsL_law0 ++ (vx_atS RX3 190 "java/lang/IndexOutOfBoundsException" ["java/lang/RuntimeException", "java/lang/Exception"]).filter goodWord ++ (vx_atS RX3 163 "java/lang/IllegalArgumentException" ["java/lang/RuntimeException", "java/lang/Exception"]).filter goodWord ++ (vx_atS RX3 67 "java/lang/IllegalStateException" ["java/lang/RuntimeException", "java/lang/Exception"]).filter goodWord
end
section
set_option maxRecDepth 20000 in
theorem wsL_law_q1 : ∀ w ∈ wsL_law0_r1, w ∈ lw_tbl := fun w h => (goodIn_p wsL_law0_r1 [54, 57] (by decide +kernel) (by decide +kernel) w h).1
set_option maxRecDepth 20000 in
theorem wsL_law_q2 : ∀ w ∈ wsL_law0_r2, w ∈ lw_tbl := fun w h => (goodIn_p wsL_law0_r2 [63, 76, 566] (by decide +kernel) (by decide +kernel) w h).1
set_option maxRecDepth 20000 in
theorem wsL_law_q3 : ∀ w ∈ wsL_law0_r3, w ∈ lw_tbl := fun w h => (goodIn_p wsL_law0_r3 [] (by decide +kernel) (by decide +kernel) w h).1
set_option maxRecDepth 20000 in
theorem wsL_law_q4 : ∀ w ∈ wsL_law0_r4, w ∈ lw_tbl := fun w h => (goodIn_p wsL_law0_r4 [150, 154, 227, 646] (by decide +kernel) (by decide +kernel) w h).1
set_option maxRecDepth 20000 in
theorem wsL_law_q5 : ∀ w ∈ wsL_law0_r5, w ∈ lw_tbl := fun w h => (goodIn_p wsL_law0_r5 [649, 652, 642, 250, 657] (by decide +kernel) (by decide +kernel) w h).1
set_option maxRecDepth 20000 in
theorem wsL_law_q6 : ∀ w ∈ wsL_law0_r6, w ∈ lw_tbl := fun w h => (goodIn_p wsL_law0_r6 [258, 262, 283] (by decide +kernel) (by decide +kernel) w h).1
set_option maxRecDepth 20000 in
theorem wsL_law_q7 : ∀ w ∈ wsL_law0_r7, w ∈ lw_tbl := fun w h => (goodIn_p wsL_law0_r7 [661, 664, 329, 333] (by decide +kernel) (by decide +kernel) w h).1
set_option maxRecDepth 20000 in
theorem wsL_law_q8 : ∀ w ∈ wsL_law0_r8, w ∈ lw_tbl := fun w h => (goodIn_p wsL_law0_r8 [338, 668, 672, 346, 676] (by decide +kernel) (by decide +kernel) w h).1
set_option maxRecDepth 20000 in
theorem wsL_law_q9 : ∀ w ∈ wsL_law0_r9, w ∈ lw_tbl := fun w h => (goodIn_p wsL_law0_r9 [353, 357, 680, 684, 364] (by decide +kernel) (by decide +kernel) w h).1
set_option maxRecDepth 20000 in
theorem wsL_law_q10 : ∀ w ∈ wsL_law0_r10, w ∈ lw_tbl := fun w h => (goodIn_p wsL_law0_r10 [369, 373, 376, 380, 688, 693] (by decide +kernel) (by decide +kernel) w h).1
set_option maxRecDepth 20000 in
theorem wsL_law_q11 : ∀ w ∈ wsL_law0_r11, w ∈ lw_tbl := fun w h => (goodIn_p wsL_law0_r11 [387, 392, 396, 400, 697, 701] (by decide +kernel) (by decide +kernel) w h).1
set_option maxRecDepth 20000 in
theorem wsL_law_q12 : ∀ w ∈ wsL_law0_r12, w ∈ lw_tbl := fun w h => (goodIn_p wsL_law0_r12 [705, 407, 411, 415, 420, 424] (by decide +kernel) (by decide +kernel) w h).1
set_option maxRecDepth 20000 in
theorem wsL_law_q13 : ∀ w ∈ wsL_law0_r13, w ∈ lw_tbl := fun w h => (goodIn_p wsL_law0_r13 [427, 709, 437, 442] (by decide +kernel) (by decide +kernel) w h).1
set_option maxRecDepth 20000 in
theorem wsL_law_q14 : ∀ w ∈ wsL_law0_r14, w ∈ lw_tbl := fun w h => (goodIn_p wsL_law0_r14 [713, 450, 454, 717, 462] (by decide +kernel) (by decide +kernel) w h).1
set_option maxRecDepth 20000 in
theorem wsL_law_q15 : ∀ w ∈ wsL_law0_r15, w ∈ lw_tbl := fun w h => (goodIn_p wsL_law0_r15 [467, 471, 475, 479, 483, 721] (by decide +kernel) (by decide +kernel) w h).1
set_option maxRecDepth 20000 in
theorem wsL_law_q16 : ∀ w ∈ wsL_law0_r16, w ∈ lw_tbl := fun w h => (goodIn_p wsL_law0_r16 [725, 729, 490, 494, 499] (by decide +kernel) (by decide +kernel) w h).1
set_option maxRecDepth 20000 in
theorem wsL_law_q17 : ∀ w ∈ wsL_law0_r17, w ∈ lw_tbl := fun w h => (goodIn_p wsL_law0_r17 [733, 737, 137, 741, 141, 745] (by decide +kernel) (by decide +kernel) w h).1
set_option maxRecDepth 20000 in
theorem wsL_law_q18 : ∀ w ∈ wsL_law0_r18, w ∈ lw_tbl := fun w h => (goodIn_p wsL_law0_r18 [506, 749, 753, 513, 757] (by decide +kernel) (by decide +kernel) w h).1
set_option maxRecDepth 20000 in
theorem wsL_law_q19 : ∀ w ∈ wsL_law0_r19, w ∈ lw_tbl := fun w h => (goodIn_p wsL_law0_r19 [520, 524, 761, 533] (by decide +kernel) (by decide +kernel) w h).1
set_option maxRecDepth 20000 in
theorem wsL_law_q20 : ∀ w ∈ wsL_law0_r20, w ∈ lw_tbl := fun w h => (goodIn_p wsL_law0_r20 [765, 540, 769, 547, 773] (by decide +kernel) (by decide +kernel) w h).1
set_option maxRecDepth 20000 in
theorem wsL_law_q21 : ∀ w ∈ wsL_law0_r21, w ∈ lw_tbl := fun w h => (goodIn_p wsL_law0_r21 [554, 777, 561, 781] (by decide +kernel) (by decide +kernel) w h).1
theorem wsL_law_w30 : ∀ w ∈ wsX30, w ∈ lw_tbl := by decide +kernel
theorem wsL_law_w40 : ∀ w ∈ wsX40, w ∈ lw_tbl := by decide +kernel
theorem wsL_law_w00 : ∀ w ∈ wsX00, w ∈ lw_tbl := by decide +kernel
theorem wsL_law_w10 : ∀ w ∈ wsX10, w ∈ lw_tbl := by decide +kernel
theorem wsL_law_w20 : ∀ w ∈ wsX20, w ∈ lw_tbl := by decide +kernel
theorem wsL_law_in0 : ∀ w ∈ wsL_law0, w ∈ lw_tbl := (List.forall_mem_append.mpr ⟨(List.forall_mem_append.mpr ⟨(List.forall_mem_append.mpr ⟨(List.forall_mem_append.mpr ⟨(List.forall_mem_append.mpr ⟨(List.forall_mem_append.mpr ⟨(List.forall_mem_append.mpr ⟨wsL_law_q1, (List.forall_mem_append.mpr ⟨wsL_law_q2, (List.forall_mem_append.mpr ⟨wsL_law_q3, (List.forall_mem_append.mpr ⟨wsL_law_q4, (List.forall_mem_append.mpr ⟨wsL_law_q5, (List.forall_mem_append.mpr ⟨wsL_law_q6, (List.forall_mem_append.mpr ⟨wsL_law_q7, (List.forall_mem_append.mpr ⟨wsL_law_q8, (List.forall_mem_append.mpr ⟨wsL_law_q9, (List.forall_mem_append.mpr ⟨wsL_law_q10, (List.forall_mem_append.mpr ⟨wsL_law_q11, (List.forall_mem_append.mpr ⟨wsL_law_q12, (List.forall_mem_append.mpr ⟨wsL_law_q13, (List.forall_mem_append.mpr ⟨wsL_law_q14, (List.forall_mem_append.mpr ⟨wsL_law_q15, (List.forall_mem_append.mpr ⟨wsL_law_q16, (List.forall_mem_append.mpr ⟨wsL_law_q17, (List.forall_mem_append.mpr ⟨wsL_law_q18, (List.forall_mem_append.mpr ⟨wsL_law_q19, (List.forall_mem_append.mpr ⟨wsL_law_q20, wsL_law_q21⟩)⟩)⟩)⟩)⟩)⟩)⟩)⟩)⟩)⟩)⟩)⟩)⟩)⟩)⟩)⟩)⟩)⟩)⟩)⟩), wsL_law_w30⟩), wsL_law_w40⟩), wsL_law_w00⟩), wsL_law_w10⟩), wsL_law_w20⟩), (fun _ h => absurd h List.not_mem_nil)⟩)
theorem wsL_law_x0 : ∀ w ∈ (vx_atS RX3 190 "java/lang/IndexOutOfBoundsException" ["java/lang/RuntimeException", "java/lang/Exception"]).filter goodWord, w ∈ lw_tbl := by decide +kernel
theorem wsL_law_x1 : ∀ w ∈ (vx_atS RX3 163 "java/lang/IllegalArgumentException" ["java/lang/RuntimeException", "java/lang/Exception"]).filter goodWord, w ∈ lw_tbl := by decide +kernel
theorem wsL_law_x2 : ∀ w ∈ (vx_atS RX3 67 "java/lang/IllegalStateException" ["java/lang/RuntimeException", "java/lang/Exception"]).filter goodWord, w ∈ lw_tbl := by decide +kernel
theorem wsL_law_in : ∀ w ∈ wsL_law, w ∈ lw_tbl := fun w h => (List.mem_append.mp h).elim (fun h => (List.mem_append.mp h).elim (fun h => (List.mem_append.mp h).elim (fun h => wsL_law_in0 w h) (fun h => wsL_law_x0 w h)) (fun h => wsL_law_x1 w h)) (fun h => wsL_law_x2 w h)
theorem inlX0 : ∀ w ∈ wsX00, w ∈ wsL_law := fun _ h => List.mem_append_left _ (List.mem_append_left _ (List.mem_append_left _ (List.mem_append_left _ (List.mem_append_left _ (List.mem_append_left _ (List.mem_append_right _ h))))))
theorem inX0 : ∀ w ∈ wsX00, w ∈ lw_tbl := fun w h => wsL_law_in w (inlX0 w h)
theorem inlX1 : ∀ w ∈ wsX10, w ∈ wsL_law := fun _ h => List.mem_append_left _ (List.mem_append_left _ (List.mem_append_left _ (List.mem_append_left _ (List.mem_append_left _ (List.mem_append_right _ h)))))
theorem inX1 : ∀ w ∈ wsX10, w ∈ lw_tbl := fun w h => wsL_law_in w (inlX1 w h)
theorem inlX2 : ∀ w ∈ wsX20, w ∈ wsL_law := fun _ h => List.mem_append_left _ (List.mem_append_left _ (List.mem_append_left _ (List.mem_append_left _ (List.mem_append_right _ h))))
theorem inX2 : ∀ w ∈ wsX20, w ∈ lw_tbl := fun w h => wsL_law_in w (inlX2 w h)
theorem inlX3 : ∀ w ∈ wsX30, w ∈ wsL_law := fun _ h => List.mem_append_left _ (List.mem_append_left _ (List.mem_append_left _ (List.mem_append_left _ (List.mem_append_left _ (List.mem_append_left _ (List.mem_append_left _ (List.mem_append_left _ (List.mem_append_right _ h))))))))
theorem inX3 : ∀ w ∈ wsX30, w ∈ lw_tbl := fun w h => wsL_law_in w (inlX3 w h)
theorem inlX4 : ∀ w ∈ wsX40, w ∈ wsL_law := fun _ h => List.mem_append_left _ (List.mem_append_left _ (List.mem_append_left _ (List.mem_append_left _ (List.mem_append_left _ (List.mem_append_left _ (List.mem_append_left _ (List.mem_append_right _ h)))))))
theorem inX4 : ∀ w ∈ wsX40, w ∈ lw_tbl := fun w h => wsL_law_in w (inlX4 w h)
theorem inJ6 : ∀ w ∈ wsJ60, w ∈ lw_tbl := by decide +kernel
theorem inJ9 : ∀ w ∈ wsJ90, w ∈ lw_tbl := by decide +kernel
theorem inJ0 : ∀ w ∈ wsJ00, w ∈ lw_tbl := by decide +kernel
end
section
theorem dX0_init_0 : decode cX0_init 0 = .ok (.aload_n 0, 1) := by decide +kernel
theorem dX0_init_1 : decode cX0_init 1 = .ok (.invokespecial 1, 3) := by decide +kernel
theorem dX0_init_4 : decode cX0_init 4 = .ok (.aload_n 0, 1) := by decide +kernel
theorem dX0_init_5 : decode cX0_init 5 = .ok (.iload_n 1, 1) := by decide +kernel
theorem dX0_init_6 : decode cX0_init 6 = .ok (.putfield 7, 3) := by decide +kernel
theorem dX0_init_9 : decode cX0_init 9 = .ok (.return_, 1) := by decide +kernel
theorem dX1_init_0 : decode cX1_init 0 = .ok (.aload_n 0, 1) := by decide +kernel
theorem dX1_init_1 : decode cX1_init 1 = .ok (.invokespecial 3, 3) := by decide +kernel
theorem dX1_init_4 : decode cX1_init 4 = .ok (.aload_n 0, 1) := by decide +kernel
theorem dX1_init_5 : decode cX1_init 5 = .ok (.bipush 60, 2) := by decide +kernel
theorem dX1_init_7 : decode cX1_init 7 = .ok (.newarray .int, 2) := by decide +kernel
theorem dX1_init_9 : decode cX1_init 9 = .ok (.putfield 9, 3) := by decide +kernel
theorem dX1_init_12 : decode cX1_init 12 = .ok (.aload_n 0, 1) := by decide +kernel
theorem dX1_init_13 : decode cX1_init 13 = .ok (.iconst 0, 1) := by decide +kernel
theorem dX1_init_14 : decode cX1_init 14 = .ok (.putfield 15, 3) := by decide +kernel
theorem dX1_init_17 : decode cX1_init 17 = .ok (.aload_n 0, 1) := by decide +kernel
theorem dX1_init_18 : decode cX1_init 18 = .ok (.iconst 0, 1) := by decide +kernel
theorem dX1_init_19 : decode cX1_init 19 = .ok (.putfield 19, 3) := by decide +kernel
theorem dX1_init_22 : decode cX1_init 22 = .ok (.aload_n 0, 1) := by decide +kernel
theorem dX1_init_23 : decode cX1_init 23 = .ok (.iconst 0, 1) := by decide +kernel
theorem dX1_init_24 : decode cX1_init 24 = .ok (.putfield 23, 3) := by decide +kernel
theorem dX1_init_27 : decode cX1_init 27 = .ok (.aload_n 0, 1) := by decide +kernel
theorem dX1_init_28 : decode cX1_init 28 = .ok (.iconst 0, 1) := by decide +kernel
theorem dX1_init_29 : decode cX1_init 29 = .ok (.putfield 26, 3) := by decide +kernel
theorem dX1_init_32 : decode cX1_init 32 = .ok (.aload_n 0, 1) := by decide +kernel
theorem dX1_init_33 : decode cX1_init 33 = .ok (.iconst 0, 1) := by decide +kernel
theorem dX1_init_34 : decode cX1_init 34 = .ok (.putfield 29, 3) := by decide +kernel
theorem dX1_init_37 : decode cX1_init 37 = .ok (.aload_n 0, 1) := by decide +kernel
theorem dX1_init_38 : decode cX1_init 38 = .ok (.iconst 0, 1) := by decide +kernel
theorem dX1_init_39 : decode cX1_init 39 = .ok (.putfield 32, 3) := by decide +kernel
theorem dX1_init_42 : decode cX1_init 42 = .ok (.return_, 1) := by decide +kernel
theorem dX1_beginBallot_0 : decode cX1_beginBallot 0 = .ok (.aload_n 0, 1) := by decide +kernel
theorem dX1_beginBallot_1 : decode cX1_beginBallot 1 = .ok (.iconst 1, 1) := by decide +kernel
theorem dX1_beginBallot_2 : decode cX1_beginBallot 2 = .ok (.putfield 15, 3) := by decide +kernel
theorem dX1_beginBallot_5 : decode cX1_beginBallot 5 = .ok (.aload_n 0, 1) := by decide +kernel
theorem dX1_beginBallot_6 : decode cX1_beginBallot 6 = .ok (.iconst 0, 1) := by decide +kernel
theorem dX1_beginBallot_7 : decode cX1_beginBallot 7 = .ok (.putfield 19, 3) := by decide +kernel
theorem dX1_beginBallot_10 : decode cX1_beginBallot 10 = .ok (.aload_n 0, 1) := by decide +kernel
theorem dX1_beginBallot_11 : decode cX1_beginBallot 11 = .ok (.iconst 0, 1) := by decide +kernel
theorem dX1_beginBallot_12 : decode cX1_beginBallot 12 = .ok (.putfield 23, 3) := by decide +kernel
theorem dX1_beginBallot_15 : decode cX1_beginBallot 15 = .ok (.return_, 1) := by decide +kernel
set_option maxRecDepth 20000 in
theorem ggX1_hasVoteOf_X2_bit : GoodIn wsX1_hasVoteOf wsX2_bit := goodIn_r _ [5, 6, 14, 15, 16, 17, 18, 19, 20, 21, 22, 23] (by decide +kernel) (by decide +kernel)
set_option maxRecDepth 20000 in
theorem gX1_hasVoteOf_X2_bit_n35 : GoodIn wsX1_hasVoteOf (wsX2_bit) := ggX1_hasVoteOf_X2_bit
theorem dX1_hasVoteOf_0 : decode cX1_hasVoteOf 0 = .ok (.aload_n 0, 1) := by decide +kernel
theorem dX1_hasVoteOf_1 : decode cX1_hasVoteOf 1 = .ok (.getfield 19, 3) := by decide +kernel
theorem dX1_hasVoteOf_4 : decode cX1_hasVoteOf 4 = .ok (.aload_n 1, 1) := by decide +kernel
theorem dX1_hasVoteOf_5 : decode cX1_hasVoteOf 5 = .ok (.invokevirtual 35, 3) := by decide +kernel
theorem dX1_hasVoteOf_8 : decode cX1_hasVoteOf 8 = .ok (.iand, 1) := by decide +kernel
theorem dX1_hasVoteOf_9 : decode cX1_hasVoteOf 9 = .ok (.ifCond .eq 7, 3) := by decide +kernel
theorem dX1_hasVoteOf_12 : decode cX1_hasVoteOf 12 = .ok (.iconst 1, 1) := by decide +kernel
theorem dX1_hasVoteOf_13 : decode cX1_hasVoteOf 13 = .ok (.goto 4, 3) := by decide +kernel
theorem dX1_hasVoteOf_16 : decode cX1_hasVoteOf 16 = .ok (.iconst 0, 1) := by decide +kernel
theorem dX1_hasVoteOf_17 : decode cX1_hasVoteOf 17 = .ok (.ireturn, 1) := by decide +kernel
set_option maxRecDepth 20000 in
theorem ggX1_takeVote_X2_bit : GoodIn wsX1_takeVote wsX2_bit := goodIn_r _ [6, 7, 15, 16, 17, 18, 19, 20, 21, 22, 23, 24] (by decide +kernel) (by decide +kernel)
set_option maxRecDepth 20000 in
theorem gX1_takeVote_X2_bit_n35 : GoodIn wsX1_takeVote (wsX2_bit) := ggX1_takeVote_X2_bit
theorem dX1_takeVote_0 : decode cX1_takeVote 0 = .ok (.aload_n 0, 1) := by decide +kernel
theorem dX1_takeVote_1 : decode cX1_takeVote 1 = .ok (.dup, 1) := by decide +kernel
theorem dX1_takeVote_2 : decode cX1_takeVote 2 = .ok (.getfield 19, 3) := by decide +kernel
theorem dX1_takeVote_5 : decode cX1_takeVote 5 = .ok (.aload_n 1, 1) := by decide +kernel
theorem dX1_takeVote_6 : decode cX1_takeVote 6 = .ok (.invokevirtual 35, 3) := by decide +kernel
theorem dX1_takeVote_9 : decode cX1_takeVote 9 = .ok (.ior, 1) := by decide +kernel
theorem dX1_takeVote_10 : decode cX1_takeVote 10 = .ok (.putfield 19, 3) := by decide +kernel
theorem dX1_takeVote_13 : decode cX1_takeVote 13 = .ok (.iload_n 2, 1) := by decide +kernel
theorem dX1_takeVote_14 : decode cX1_takeVote 14 = .ok (.ifCond .eq 16, 3) := by decide +kernel
theorem dX1_takeVote_17 : decode cX1_takeVote 17 = .ok (.aload_n 0, 1) := by decide +kernel
theorem dX1_takeVote_18 : decode cX1_takeVote 18 = .ok (.dup, 1) := by decide +kernel
theorem dX1_takeVote_19 : decode cX1_takeVote 19 = .ok (.getfield 23, 3) := by decide +kernel
theorem dX1_takeVote_22 : decode cX1_takeVote 22 = .ok (.aload_n 1, 1) := by decide +kernel
theorem dX1_takeVote_23 : decode cX1_takeVote 23 = .ok (.invokevirtual 35, 3) := by decide +kernel
theorem dX1_takeVote_26 : decode cX1_takeVote 26 = .ok (.ior, 1) := by decide +kernel
theorem dX1_takeVote_27 : decode cX1_takeVote 27 = .ok (.putfield 23, 3) := by decide +kernel
theorem dX1_takeVote_30 : decode cX1_takeVote 30 = .ok (.return_, 1) := by decide +kernel
set_option maxRecDepth 20000 in
theorem ggX1_countVotes_J6_bitCount_0f7a4 : GoodIn wsX1_countVotes wsJ6_bitCount_0f7a4 := goodIn_r _ [5, 6, 7, 8] (by decide +kernel) (by decide +kernel)
set_option maxRecDepth 20000 in
theorem gX1_countVotes_J6_bitCount_0f7a4 : GoodIn wsX1_countVotes (va_wsS RX1 41 yJ6_bitCount_0f7a4 wsJ6_bitCount_0f7a4) := goodIn_app (goodIn_of _ (by decide +kernel)) ggX1_countVotes_J6_bitCount_0f7a4
theorem dX1_countVotes_0 : decode cX1_countVotes 0 = .ok (.aload_n 0, 1) := by decide +kernel
theorem dX1_countVotes_1 : decode cX1_countVotes 1 = .ok (.getfield 19, 3) := by decide +kernel
theorem dX1_countVotes_4 : decode cX1_countVotes 4 = .ok (.invokestatic 41, 3) := by decide +kernel
theorem dX1_countVotes_7 : decode cX1_countVotes 7 = .ok (.ireturn, 1) := by decide +kernel
set_option maxRecDepth 20000 in
theorem ggX1_endBallot_X1_countVotes : GoodIn wsX1_endBallot wsX1_countVotes := goodIn_r _ [8, 9, 10, 11, 12, 13, 14, 15, 16, 17, 18, 19, 20, 21, 22, 23] (by decide +kernel) (by decide +kernel)
set_option maxRecDepth 20000 in
theorem gX1_endBallot_X1_countVotes : GoodIn wsX1_endBallot (wsV RX1 47 RX1 yX1_countVotes wsX1_countVotes) := goodIn_app (goodIn_of _ (by decide +kernel)) ggX1_endBallot_X1_countVotes
set_option maxRecDepth 20000 in
theorem ggX1_endBallot_J6_bitCount_0f7a4 : GoodIn wsX1_endBallot wsJ6_bitCount_0f7a4 := goodIn_r _ [13, 14, 15, 16] (by decide +kernel) (by decide +kernel)
set_option maxRecDepth 20000 in
theorem gX1_endBallot_J6_bitCount_0f7a4 : GoodIn wsX1_endBallot (va_wsS RX1 41 yJ6_bitCount_0f7a4 wsJ6_bitCount_0f7a4) := goodIn_app (goodIn_of _ (by decide +kernel)) ggX1_endBallot_J6_bitCount_0f7a4
theorem dX1_endBallot_0 : decode cX1_endBallot 0 = .ok (.aload_n 0, 1) := by decide +kernel
theorem dX1_endBallot_1 : decode cX1_endBallot 1 = .ok (.invokevirtual 47, 3) := by decide +kernel
theorem dX1_endBallot_4 : decode cX1_endBallot 4 = .ok (.istore_n 2, 1) := by decide +kernel
theorem dX1_endBallot_5 : decode cX1_endBallot 5 = .ok (.aload_n 0, 1) := by decide +kernel
theorem dX1_endBallot_6 : decode cX1_endBallot 6 = .ok (.getfield 23, 3) := by decide +kernel
theorem dX1_endBallot_9 : decode cX1_endBallot 9 = .ok (.invokestatic 41, 3) := by decide +kernel
theorem dX1_endBallot_12 : decode cX1_endBallot 12 = .ok (.istore_n 3, 1) := by decide +kernel
theorem dX1_endBallot_13 : decode cX1_endBallot 13 = .ok (.aload_n 0, 1) := by decide +kernel
theorem dX1_endBallot_14 : decode cX1_endBallot 14 = .ok (.iconst 0, 1) := by decide +kernel
theorem dX1_endBallot_15 : decode cX1_endBallot 15 = .ok (.putfield 15, 3) := by decide +kernel
theorem dX1_endBallot_18 : decode cX1_endBallot 18 = .ok (.aload_n 0, 1) := by decide +kernel
theorem dX1_endBallot_19 : decode cX1_endBallot 19 = .ok (.iload_n 3, 1) := by decide +kernel
theorem dX1_endBallot_20 : decode cX1_endBallot 20 = .ok (.iload_n 2, 1) := by decide +kernel
theorem dX1_endBallot_21 : decode cX1_endBallot 21 = .ok (.iload_n 3, 1) := by decide +kernel
theorem dX1_endBallot_22 : decode cX1_endBallot 22 = .ok (.isub, 1) := by decide +kernel
theorem dX1_endBallot_23 : decode cX1_endBallot 23 = .ok (.if_icmp .le 14, 3) := by decide +kernel
theorem dX1_endBallot_26 : decode cX1_endBallot 26 = .ok (.iconst 2, 1) := by decide +kernel
theorem dX1_endBallot_27 : decode cX1_endBallot 27 = .ok (.iload_n 2, 1) := by decide +kernel
theorem dX1_endBallot_28 : decode cX1_endBallot 28 = .ok (.imul, 1) := by decide +kernel
theorem dX1_endBallot_29 : decode cX1_endBallot 29 = .ok (.iload_n 1, 1) := by decide +kernel
theorem dX1_endBallot_30 : decode cX1_endBallot 30 = .ok (.if_icmp .lt 7, 3) := by decide +kernel
theorem dX1_endBallot_33 : decode cX1_endBallot 33 = .ok (.iconst 1, 1) := by decide +kernel
theorem dX1_endBallot_34 : decode cX1_endBallot 34 = .ok (.goto 4, 3) := by decide +kernel
theorem dX1_endBallot_37 : decode cX1_endBallot 37 = .ok (.iconst 0, 1) := by decide +kernel
theorem dX1_endBallot_38 : decode cX1_endBallot 38 = .ok (.putfield 26, 3) := by decide +kernel
theorem dX1_endBallot_41 : decode cX1_endBallot 41 = .ok (.return_, 1) := by decide +kernel
theorem dX1_canBeCalledOut_0 : decode cX1_canBeCalledOut 0 = .ok (.aload_n 0, 1) := by decide +kernel
theorem dX1_canBeCalledOut_1 : decode cX1_canBeCalledOut 1 = .ok (.getfield 26, 3) := by decide +kernel
theorem dX1_canBeCalledOut_4 : decode cX1_canBeCalledOut 4 = .ok (.ifCond .eq 21, 3) := by decide +kernel
theorem dX1_canBeCalledOut_7 : decode cX1_canBeCalledOut 7 = .ok (.aload_n 0, 1) := by decide +kernel
theorem dX1_canBeCalledOut_8 : decode cX1_canBeCalledOut 8 = .ok (.getfield 29, 3) := by decide +kernel
theorem dX1_canBeCalledOut_11 : decode cX1_canBeCalledOut 11 = .ok (.ifCond .ne 14, 3) := by decide +kernel
theorem dX1_canBeCalledOut_14 : decode cX1_canBeCalledOut 14 = .ok (.aload_n 0, 1) := by decide +kernel
theorem dX1_canBeCalledOut_15 : decode cX1_canBeCalledOut 15 = .ok (.getfield 15, 3) := by decide +kernel
theorem dX1_canBeCalledOut_18 : decode cX1_canBeCalledOut 18 = .ok (.ifCond .ne 7, 3) := by decide +kernel
theorem dX1_canBeCalledOut_21 : decode cX1_canBeCalledOut 21 = .ok (.iconst 1, 1) := by decide +kernel
theorem dX1_canBeCalledOut_22 : decode cX1_canBeCalledOut 22 = .ok (.goto 4, 3) := by decide +kernel
theorem dX1_canBeCalledOut_25 : decode cX1_canBeCalledOut 25 = .ok (.iconst 0, 1) := by decide +kernel
theorem dX1_canBeCalledOut_26 : decode cX1_canBeCalledOut 26 = .ok (.ireturn, 1) := by decide +kernel
theorem dX2_init_0 : decode cX2_init 0 = .ok (.aload_n 0, 1) := by decide +kernel
theorem dX2_init_1 : decode cX2_init 1 = .ok (.invokespecial 3, 3) := by decide +kernel
theorem dX2_init_4 : decode cX2_init 4 = .ok (.aload_n 0, 1) := by decide +kernel
theorem dX2_init_5 : decode cX2_init 5 = .ok (.bipush 60, 2) := by decide +kernel
theorem dX2_init_7 : decode cX2_init 7 = .ok (.newarray .int, 2) := by decide +kernel
theorem dX2_init_9 : decode cX2_init 9 = .ok (.putfield 9, 3) := by decide +kernel
theorem dX2_init_12 : decode cX2_init 12 = .ok (.aload_n 0, 1) := by decide +kernel
theorem dX2_init_13 : decode cX2_init 13 = .ok (.bipush 60, 2) := by decide +kernel
theorem dX2_init_15 : decode cX2_init 15 = .ok (.newarray .int, 2) := by decide +kernel
theorem dX2_init_17 : decode cX2_init 17 = .ok (.putfield 15, 3) := by decide +kernel
theorem dX2_init_20 : decode cX2_init 20 = .ok (.aload_n 0, 1) := by decide +kernel
theorem dX2_init_21 : decode cX2_init 21 = .ok (.iconst 0, 1) := by decide +kernel
theorem dX2_init_22 : decode cX2_init 22 = .ok (.putfield 18, 3) := by decide +kernel
theorem dX2_init_25 : decode cX2_init 25 = .ok (.aload_n 0, 1) := by decide +kernel
theorem dX2_init_26 : decode cX2_init 26 = .ok (.iconst 0, 1) := by decide +kernel
theorem dX2_init_27 : decode cX2_init 27 = .ok (.putfield 22, 3) := by decide +kernel
theorem dX2_init_30 : decode cX2_init 30 = .ok (.aload_n 0, 1) := by decide +kernel
theorem dX2_init_31 : decode cX2_init 31 = .ok (.iconst 0, 1) := by decide +kernel
theorem dX2_init_32 : decode cX2_init 32 = .ok (.putfield 25, 3) := by decide +kernel
theorem dX2_init_35 : decode cX2_init 35 = .ok (.aload_n 0, 1) := by decide +kernel
theorem dX2_init_36 : decode cX2_init 36 = .ok (.iconst 0, 1) := by decide +kernel
theorem dX2_init_37 : decode cX2_init 37 = .ok (.putfield 29, 3) := by decide +kernel
theorem dX2_init_40 : decode cX2_init 40 = .ok (.aload_n 0, 1) := by decide +kernel
theorem dX2_init_41 : decode cX2_init 41 = .ok (.bipush 60, 2) := by decide +kernel
theorem dX2_init_43 : decode cX2_init 43 = .ok (.putfield 32, 3) := by decide +kernel
theorem dX2_init_46 : decode cX2_init 46 = .ok (.aload_n 0, 1) := by decide +kernel
theorem dX2_init_47 : decode cX2_init 47 = .ok (.iload_n 1, 1) := by decide +kernel
theorem dX2_init_48 : decode cX2_init 48 = .ok (.putfield 35, 3) := by decide +kernel
theorem dX2_init_51 : decode cX2_init 51 = .ok (.aload_n 0, 1) := by decide +kernel
theorem dX2_init_52 : decode cX2_init 52 = .ok (.aload_n 2, 1) := by decide +kernel
theorem dX2_init_53 : decode cX2_init 53 = .ok (.putfield 38, 3) := by decide +kernel
theorem dX2_init_56 : decode cX2_init 56 = .ok (.aload_n 0, 1) := by decide +kernel
theorem dX2_init_57 : decode cX2_init 57 = .ok (.aload_n 3, 1) := by decide +kernel
theorem dX2_init_58 : decode cX2_init 58 = .ok (.putfield 42, 3) := by decide +kernel
theorem dX2_init_61 : decode cX2_init 61 = .ok (.return_, 1) := by decide +kernel
theorem dX2_bit_0 : decode cX2_bit 0 = .ok (.iconst 1, 1) := by decide +kernel
theorem dX2_bit_1 : decode cX2_bit 1 = .ok (.aload_n 0, 1) := by decide +kernel
theorem dX2_bit_2 : decode cX2_bit 2 = .ok (.getfield 35, 3) := by decide +kernel
theorem dX2_bit_5 : decode cX2_bit 5 = .ok (.ishl, 1) := by decide +kernel
theorem dX2_bit_6 : decode cX2_bit 6 = .ok (.ireturn, 1) := by decide +kernel
theorem dX2_standsOn_0 : decode cX2_standsOn 0 = .ok (.aload_n 0, 1) := by decide +kernel
theorem dX2_standsOn_1 : decode cX2_standsOn 1 = .ok (.getfield 32, 3) := by decide +kernel
theorem dX2_standsOn_4 : decode cX2_standsOn 4 = .ok (.bipush 60, 2) := by decide +kernel
theorem dX2_standsOn_6 : decode cX2_standsOn 6 = .ok (.if_icmp .ge 23, 3) := by decide +kernel
theorem dX2_standsOn_9 : decode cX2_standsOn 9 = .ok (.iload_n 1, 1) := by decide +kernel
theorem dX2_standsOn_10 : decode cX2_standsOn 10 = .ok (.bipush 30, 2) := by decide +kernel
theorem dX2_standsOn_12 : decode cX2_standsOn 12 = .ok (.aload_n 0, 1) := by decide +kernel
theorem dX2_standsOn_13 : decode cX2_standsOn 13 = .ok (.getfield 32, 3) := by decide +kernel
theorem dX2_standsOn_16 : decode cX2_standsOn 16 = .ok (.iconst 1, 1) := by decide +kernel
theorem dX2_standsOn_17 : decode cX2_standsOn 17 = .ok (.iadd, 1) := by decide +kernel
theorem dX2_standsOn_18 : decode cX2_standsOn 18 = .ok (.imul, 1) := by decide +kernel
theorem dX2_standsOn_19 : decode cX2_standsOn 19 = .ok (.bipush 60, 2) := by decide +kernel
theorem dX2_standsOn_21 : decode cX2_standsOn 21 = .ok (.iadd, 1) := by decide +kernel
theorem dX2_standsOn_22 : decode cX2_standsOn 22 = .ok (.if_icmp .lt 7, 3) := by decide +kernel
theorem dX2_standsOn_25 : decode cX2_standsOn 25 = .ok (.iconst 1, 1) := by decide +kernel
theorem dX2_standsOn_26 : decode cX2_standsOn 26 = .ok (.goto 4, 3) := by decide +kernel
theorem dX2_standsOn_29 : decode cX2_standsOn 29 = .ok (.iconst 0, 1) := by decide +kernel
theorem dX2_standsOn_30 : decode cX2_standsOn 30 = .ok (.istore_n 2, 1) := by decide +kernel
theorem dX2_standsOn_31 : decode cX2_standsOn 31 = .ok (.aload_n 0, 1) := by decide +kernel
theorem dX2_standsOn_32 : decode cX2_standsOn 32 = .ok (.getfield 22, 3) := by decide +kernel
theorem dX2_standsOn_35 : decode cX2_standsOn 35 = .ok (.ifCond .ne 11, 3) := by decide +kernel
theorem dX2_standsOn_38 : decode cX2_standsOn 38 = .ok (.iload_n 2, 1) := by decide +kernel
theorem dX2_standsOn_39 : decode cX2_standsOn 39 = .ok (.ifCond .ne 7, 3) := by decide +kernel
theorem dX2_standsOn_42 : decode cX2_standsOn 42 = .ok (.iconst 1, 1) := by decide +kernel
theorem dX2_standsOn_43 : decode cX2_standsOn 43 = .ok (.goto 4, 3) := by decide +kernel
theorem dX2_standsOn_46 : decode cX2_standsOn 46 = .ok (.iconst 0, 1) := by decide +kernel
theorem dX2_standsOn_47 : decode cX2_standsOn 47 = .ok (.ireturn, 1) := by decide +kernel
theorem dX2_sumOwed_0 : decode cX2_sumOwed 0 = .ok (.iconst 0, 1) := by decide +kernel
theorem dX2_sumOwed_1 : decode cX2_sumOwed 1 = .ok (.istore_n 1, 1) := by decide +kernel
theorem dX2_sumOwed_2 : decode cX2_sumOwed 2 = .ok (.aload_n 0, 1) := by decide +kernel
theorem dX2_sumOwed_3 : decode cX2_sumOwed 3 = .ok (.getfield 32, 3) := by decide +kernel
theorem dX2_sumOwed_6 : decode cX2_sumOwed 6 = .ok (.istore_n 2, 1) := by decide +kernel
theorem dX2_sumOwed_7 : decode cX2_sumOwed 7 = .ok (.iload_n 2, 1) := by decide +kernel
theorem dX2_sumOwed_8 : decode cX2_sumOwed 8 = .ok (.bipush 60, 2) := by decide +kernel
theorem dX2_sumOwed_10 : decode cX2_sumOwed 10 = .ok (.if_icmp .ge 18, 3) := by decide +kernel
theorem dX2_sumOwed_13 : decode cX2_sumOwed 13 = .ok (.iload_n 1, 1) := by decide +kernel
theorem dX2_sumOwed_14 : decode cX2_sumOwed 14 = .ok (.aload_n 0, 1) := by decide +kernel
theorem dX2_sumOwed_15 : decode cX2_sumOwed 15 = .ok (.getfield 9, 3) := by decide +kernel
theorem dX2_sumOwed_18 : decode cX2_sumOwed 18 = .ok (.iload_n 2, 1) := by decide +kernel
theorem dX2_sumOwed_19 : decode cX2_sumOwed 19 = .ok (.iaload, 1) := by decide +kernel
theorem dX2_sumOwed_20 : decode cX2_sumOwed 20 = .ok (.iadd, 1) := by decide +kernel
theorem dX2_sumOwed_21 : decode cX2_sumOwed 21 = .ok (.istore_n 1, 1) := by decide +kernel
theorem dX2_sumOwed_22 : decode cX2_sumOwed 22 = .ok (.iinc 2 1, 3) := by decide +kernel
theorem dX2_sumOwed_25 : decode cX2_sumOwed 25 = .ok (.goto (-18), 3) := by decide +kernel
theorem dX2_sumOwed_28 : decode cX2_sumOwed 28 = .ok (.iload_n 1, 1) := by decide +kernel
theorem dX2_sumOwed_29 : decode cX2_sumOwed 29 = .ok (.ireturn, 1) := by decide +kernel
set_option maxRecDepth 20000 in
theorem ggX2_charge_X2_layLeftOver : GoodIn wsX2_charge wsX2_layLeftOver := goodIn_r _ [12, 3, 13, 2, 4, 5, 6, 7, 14, 15, 16, 17, 18, 11, 19, 20, 21, 22, 23, 24, 25, 26, 27, 28, 29, 31, 32, 33, 34, 35, 36, 37] (by decide +kernel) (by decide +kernel)
set_option maxRecDepth 20000 in
theorem gX2_charge_X2_layLeftOver : GoodIn wsX2_charge (wsV RX2 57 RX2 yX2_layLeftOver wsX2_layLeftOver) := goodIn_app (goodIn_of _ (by decide +kernel)) ggX2_charge_X2_layLeftOver
theorem dX2_charge_0 : decode cX2_charge 0 = .ok (.iload_n 1, 1) := by decide +kernel
theorem dX2_charge_1 : decode cX2_charge 1 = .ok (.ifCond .lt 19, 3) := by decide +kernel
theorem dX2_charge_4 : decode cX2_charge 4 = .ok (.iload_n 1, 1) := by decide +kernel
theorem dX2_charge_5 : decode cX2_charge 5 = .ok (.bipush 60, 2) := by decide +kernel
theorem dX2_charge_7 : decode cX2_charge 7 = .ok (.if_icmp .ge 13, 3) := by decide +kernel
theorem dX2_charge_10 : decode cX2_charge 10 = .ok (.aload_n 0, 1) := by decide +kernel
theorem dX2_charge_11 : decode cX2_charge 11 = .ok (.getfield 42, 3) := by decide +kernel
theorem dX2_charge_14 : decode cX2_charge 14 = .ok (.getfield 46, 3) := by decide +kernel
theorem dX2_charge_17 : decode cX2_charge 17 = .ok (.ifCond .ne 5, 3) := by decide +kernel
theorem dX2_charge_20 : decode cX2_charge 20 = .ok (.iconst 0, 1) := by decide +kernel
theorem dX2_charge_21 : decode cX2_charge 21 = .ok (.ireturn, 1) := by decide +kernel
theorem dX2_charge_22 : decode cX2_charge 22 = .ok (.aload_n 0, 1) := by decide +kernel
theorem dX2_charge_23 : decode cX2_charge 23 = .ok (.getfield 9, 3) := by decide +kernel
theorem dX2_charge_26 : decode cX2_charge 26 = .ok (.iload_n 1, 1) := by decide +kernel
theorem dX2_charge_27 : decode cX2_charge 27 = .ok (.aload_n 0, 1) := by decide +kernel
theorem dX2_charge_28 : decode cX2_charge 28 = .ok (.getfield 42, 3) := by decide +kernel
theorem dX2_charge_31 : decode cX2_charge 31 = .ok (.getfield 46, 3) := by decide +kernel
theorem dX2_charge_34 : decode cX2_charge 34 = .ok (.iastore, 1) := by decide +kernel
theorem dX2_charge_35 : decode cX2_charge 35 = .ok (.aload_n 0, 1) := by decide +kernel
theorem dX2_charge_36 : decode cX2_charge 36 = .ok (.aload_n 0, 1) := by decide +kernel
theorem dX2_charge_37 : decode cX2_charge 37 = .ok (.getfield 32, 3) := by decide +kernel
theorem dX2_charge_40 : decode cX2_charge 40 = .ok (.iload_n 1, 1) := by decide +kernel
theorem dX2_charge_41 : decode cX2_charge 41 = .ok (.invokestatic 51, 3) := by decide +kernel
theorem dX2_charge_44 : decode cX2_charge 44 = .ok (.putfield 32, 3) := by decide +kernel
theorem dX2_charge_47 : decode cX2_charge 47 = .ok (.aload_n 0, 1) := by decide +kernel
theorem dX2_charge_48 : decode cX2_charge 48 = .ok (.invokevirtual 57, 3) := by decide +kernel
theorem dX2_charge_51 : decode cX2_charge 51 = .ok (.ireturn, 1) := by decide +kernel
set_option maxRecDepth 20000 in
theorem ggX2_takeIn_X2_layLeftOver : GoodIn wsX2_takeIn wsX2_layLeftOver := goodIn_r _ [6, 7, 1, 8, 9, 10, 11, 12, 13, 14, 15, 16, 17, 5, 18, 19, 20, 21, 22, 23, 24, 25, 26, 27, 28, 29, 30, 31, 32, 33, 34, 35] (by decide +kernel) (by decide +kernel)
set_option maxRecDepth 20000 in
theorem gX2_takeIn_X2_layLeftOver : GoodIn wsX2_takeIn (wsV RX2 57 RX2 yX2_layLeftOver wsX2_layLeftOver) := goodIn_app (goodIn_of _ (by decide +kernel)) ggX2_takeIn_X2_layLeftOver
theorem dX2_takeIn_0 : decode cX2_takeIn 0 = .ok (.aload_n 0, 1) := by decide +kernel
theorem dX2_takeIn_1 : decode cX2_takeIn 1 = .ok (.dup, 1) := by decide +kernel
theorem dX2_takeIn_2 : decode cX2_takeIn 2 = .ok (.getfield 25, 3) := by decide +kernel
theorem dX2_takeIn_5 : decode cX2_takeIn 5 = .ok (.iload_n 1, 1) := by decide +kernel
theorem dX2_takeIn_6 : decode cX2_takeIn 6 = .ok (.iadd, 1) := by decide +kernel
theorem dX2_takeIn_7 : decode cX2_takeIn 7 = .ok (.putfield 25, 3) := by decide +kernel
theorem dX2_takeIn_10 : decode cX2_takeIn 10 = .ok (.aload_n 0, 1) := by decide +kernel
theorem dX2_takeIn_11 : decode cX2_takeIn 11 = .ok (.invokevirtual 57, 3) := by decide +kernel
theorem dX2_takeIn_14 : decode cX2_takeIn 14 = .ok (.ireturn, 1) := by decide +kernel
set_option maxRecDepth 20000 in
theorem ggX2_layLeftOver_X2_skipSettled : GoodIn wsX2_layLeftOver wsX2_skipSettled := goodIn_r _ [14, 1, 3, 15, 16, 17, 18, 19, 20, 21, 22, 23, 24] (by decide +kernel) (by decide +kernel)
set_option maxRecDepth 20000 in
theorem gX2_layLeftOver_X2_skipSettled : GoodIn wsX2_layLeftOver (wsV RX2 64 RX2 yX2_skipSettled wsX2_skipSettled) := goodIn_app (goodIn_of _ (by decide +kernel)) ggX2_layLeftOver_X2_skipSettled
theorem dX2_layLeftOver_0 : decode cX2_layLeftOver 0 = .ok (.iconst 0, 1) := by decide +kernel
theorem dX2_layLeftOver_1 : decode cX2_layLeftOver 1 = .ok (.istore_n 1, 1) := by decide +kernel
theorem dX2_layLeftOver_2 : decode cX2_layLeftOver 2 = .ok (.aload_n 0, 1) := by decide +kernel
theorem dX2_layLeftOver_3 : decode cX2_layLeftOver 3 = .ok (.getfield 32, 3) := by decide +kernel
theorem dX2_layLeftOver_6 : decode cX2_layLeftOver 6 = .ok (.istore_n 2, 1) := by decide +kernel
theorem dX2_layLeftOver_7 : decode cX2_layLeftOver 7 = .ok (.iload_n 2, 1) := by decide +kernel
theorem dX2_layLeftOver_8 : decode cX2_layLeftOver 8 = .ok (.bipush 60, 2) := by decide +kernel
theorem dX2_layLeftOver_10 : decode cX2_layLeftOver 10 = .ok (.if_icmp .ge 79, 3) := by decide +kernel
theorem dX2_layLeftOver_13 : decode cX2_layLeftOver 13 = .ok (.aload_n 0, 1) := by decide +kernel
theorem dX2_layLeftOver_14 : decode cX2_layLeftOver 14 = .ok (.getfield 25, 3) := by decide +kernel
theorem dX2_layLeftOver_17 : decode cX2_layLeftOver 17 = .ok (.ifCond .le 72, 3) := by decide +kernel
theorem dX2_layLeftOver_20 : decode cX2_layLeftOver 20 = .ok (.aload_n 0, 1) := by decide +kernel
theorem dX2_layLeftOver_21 : decode cX2_layLeftOver 21 = .ok (.getfield 25, 3) := by decide +kernel
theorem dX2_layLeftOver_24 : decode cX2_layLeftOver 24 = .ok (.aload_n 0, 1) := by decide +kernel
theorem dX2_layLeftOver_25 : decode cX2_layLeftOver 25 = .ok (.getfield 9, 3) := by decide +kernel
theorem dX2_layLeftOver_28 : decode cX2_layLeftOver 28 = .ok (.iload_n 2, 1) := by decide +kernel
theorem dX2_layLeftOver_29 : decode cX2_layLeftOver 29 = .ok (.iaload, 1) := by decide +kernel
theorem dX2_layLeftOver_30 : decode cX2_layLeftOver 30 = .ok (.invokestatic 51, 3) := by decide +kernel
theorem dX2_layLeftOver_33 : decode cX2_layLeftOver 33 = .ok (.istore_n 3, 1) := by decide +kernel
theorem dX2_layLeftOver_34 : decode cX2_layLeftOver 34 = .ok (.aload_n 0, 1) := by decide +kernel
theorem dX2_layLeftOver_35 : decode cX2_layLeftOver 35 = .ok (.dup, 1) := by decide +kernel
theorem dX2_layLeftOver_36 : decode cX2_layLeftOver 36 = .ok (.getfield 25, 3) := by decide +kernel
theorem dX2_layLeftOver_39 : decode cX2_layLeftOver 39 = .ok (.iload_n 3, 1) := by decide +kernel
theorem dX2_layLeftOver_40 : decode cX2_layLeftOver 40 = .ok (.isub, 1) := by decide +kernel
theorem dX2_layLeftOver_41 : decode cX2_layLeftOver 41 = .ok (.putfield 25, 3) := by decide +kernel
theorem dX2_layLeftOver_44 : decode cX2_layLeftOver 44 = .ok (.aload_n 0, 1) := by decide +kernel
theorem dX2_layLeftOver_45 : decode cX2_layLeftOver 45 = .ok (.getfield 9, 3) := by decide +kernel
theorem dX2_layLeftOver_48 : decode cX2_layLeftOver 48 = .ok (.iload_n 2, 1) := by decide +kernel
theorem dX2_layLeftOver_49 : decode cX2_layLeftOver 49 = .ok (.dup2, 1) := by decide +kernel
theorem dX2_layLeftOver_50 : decode cX2_layLeftOver 50 = .ok (.iaload, 1) := by decide +kernel
theorem dX2_layLeftOver_51 : decode cX2_layLeftOver 51 = .ok (.iload_n 3, 1) := by decide +kernel
theorem dX2_layLeftOver_52 : decode cX2_layLeftOver 52 = .ok (.isub, 1) := by decide +kernel
theorem dX2_layLeftOver_53 : decode cX2_layLeftOver 53 = .ok (.iastore, 1) := by decide +kernel
theorem dX2_layLeftOver_54 : decode cX2_layLeftOver 54 = .ok (.aload_n 0, 1) := by decide +kernel
theorem dX2_layLeftOver_55 : decode cX2_layLeftOver 55 = .ok (.getfield 15, 3) := by decide +kernel
theorem dX2_layLeftOver_58 : decode cX2_layLeftOver 58 = .ok (.iload_n 2, 1) := by decide +kernel
theorem dX2_layLeftOver_59 : decode cX2_layLeftOver 59 = .ok (.dup2, 1) := by decide +kernel
theorem dX2_layLeftOver_60 : decode cX2_layLeftOver 60 = .ok (.iaload, 1) := by decide +kernel
theorem dX2_layLeftOver_61 : decode cX2_layLeftOver 61 = .ok (.iload_n 3, 1) := by decide +kernel
theorem dX2_layLeftOver_62 : decode cX2_layLeftOver 62 = .ok (.iadd, 1) := by decide +kernel
theorem dX2_layLeftOver_63 : decode cX2_layLeftOver 63 = .ok (.iastore, 1) := by decide +kernel
theorem dX2_layLeftOver_64 : decode cX2_layLeftOver 64 = .ok (.aload_n 0, 1) := by decide +kernel
theorem dX2_layLeftOver_65 : decode cX2_layLeftOver 65 = .ok (.getfield 38, 3) := by decide +kernel
theorem dX2_layLeftOver_68 : decode cX2_layLeftOver 68 = .ok (.getfield 61, 3) := by decide +kernel
theorem dX2_layLeftOver_71 : decode cX2_layLeftOver 71 = .ok (.iload_n 2, 1) := by decide +kernel
theorem dX2_layLeftOver_72 : decode cX2_layLeftOver 72 = .ok (.dup2, 1) := by decide +kernel
theorem dX2_layLeftOver_73 : decode cX2_layLeftOver 73 = .ok (.iaload, 1) := by decide +kernel
theorem dX2_layLeftOver_74 : decode cX2_layLeftOver 74 = .ok (.iload_n 3, 1) := by decide +kernel
theorem dX2_layLeftOver_75 : decode cX2_layLeftOver 75 = .ok (.iadd, 1) := by decide +kernel
theorem dX2_layLeftOver_76 : decode cX2_layLeftOver 76 = .ok (.iastore, 1) := by decide +kernel
theorem dX2_layLeftOver_77 : decode cX2_layLeftOver 77 = .ok (.iload_n 1, 1) := by decide +kernel
theorem dX2_layLeftOver_78 : decode cX2_layLeftOver 78 = .ok (.iload_n 3, 1) := by decide +kernel
theorem dX2_layLeftOver_79 : decode cX2_layLeftOver 79 = .ok (.iconst 5, 1) := by decide +kernel
theorem dX2_layLeftOver_80 : decode cX2_layLeftOver 80 = .ok (.idiv, 1) := by decide +kernel
theorem dX2_layLeftOver_81 : decode cX2_layLeftOver 81 = .ok (.iadd, 1) := by decide +kernel
theorem dX2_layLeftOver_82 : decode cX2_layLeftOver 82 = .ok (.istore_n 1, 1) := by decide +kernel
theorem dX2_layLeftOver_83 : decode cX2_layLeftOver 83 = .ok (.iinc 2 1, 3) := by decide +kernel
theorem dX2_layLeftOver_86 : decode cX2_layLeftOver 86 = .ok (.goto (-79), 3) := by decide +kernel
theorem dX2_layLeftOver_89 : decode cX2_layLeftOver 89 = .ok (.aload_n 0, 1) := by decide +kernel
theorem dX2_layLeftOver_90 : decode cX2_layLeftOver 90 = .ok (.invokevirtual 64, 3) := by decide +kernel
theorem dX2_layLeftOver_93 : decode cX2_layLeftOver 93 = .ok (.iload_n 1, 1) := by decide +kernel
theorem dX2_layLeftOver_94 : decode cX2_layLeftOver 94 = .ok (.ireturn, 1) := by decide +kernel
theorem dX2_skipSettled_0 : decode cX2_skipSettled 0 = .ok (.aload_n 0, 1) := by decide +kernel
theorem dX2_skipSettled_1 : decode cX2_skipSettled 1 = .ok (.getfield 32, 3) := by decide +kernel
theorem dX2_skipSettled_4 : decode cX2_skipSettled 4 = .ok (.bipush 60, 2) := by decide +kernel
theorem dX2_skipSettled_6 : decode cX2_skipSettled 6 = .ok (.if_icmp .ge 28, 3) := by decide +kernel
theorem dX2_skipSettled_9 : decode cX2_skipSettled 9 = .ok (.aload_n 0, 1) := by decide +kernel
theorem dX2_skipSettled_10 : decode cX2_skipSettled 10 = .ok (.getfield 9, 3) := by decide +kernel
theorem dX2_skipSettled_13 : decode cX2_skipSettled 13 = .ok (.aload_n 0, 1) := by decide +kernel
theorem dX2_skipSettled_14 : decode cX2_skipSettled 14 = .ok (.getfield 32, 3) := by decide +kernel
theorem dX2_skipSettled_17 : decode cX2_skipSettled 17 = .ok (.iaload, 1) := by decide +kernel
theorem dX2_skipSettled_18 : decode cX2_skipSettled 18 = .ok (.ifCond .ne 16, 3) := by decide +kernel
theorem dX2_skipSettled_21 : decode cX2_skipSettled 21 = .ok (.aload_n 0, 1) := by decide +kernel
theorem dX2_skipSettled_22 : decode cX2_skipSettled 22 = .ok (.dup, 1) := by decide +kernel
theorem dX2_skipSettled_23 : decode cX2_skipSettled 23 = .ok (.getfield 32, 3) := by decide +kernel
theorem dX2_skipSettled_26 : decode cX2_skipSettled 26 = .ok (.iconst 1, 1) := by decide +kernel
theorem dX2_skipSettled_27 : decode cX2_skipSettled 27 = .ok (.iadd, 1) := by decide +kernel
theorem dX2_skipSettled_28 : decode cX2_skipSettled 28 = .ok (.putfield 32, 3) := by decide +kernel
theorem dX2_skipSettled_31 : decode cX2_skipSettled 31 = .ok (.goto (-31), 3) := by decide +kernel
theorem dX2_skipSettled_34 : decode cX2_skipSettled 34 = .ok (.return_, 1) := by decide +kernel
set_option maxRecDepth 20000 in
theorem ggX3_init_X0_init : GoodIn wsX3_init wsX0_init := goodIn_r _ [20, 21, 2, 3, 22, 34] (by decide +kernel) (by decide +kernel)
set_option maxRecDepth 20000 in
theorem gX3_init_X0_init_n11 : GoodIn wsX3_init (wsX0_init) := ggX3_init_X0_init
set_option maxRecDepth 20000 in
theorem ggX3_init_X1_init : GoodIn wsX3_init wsX1_init := goodIn_r _ [24, 25, 2, 3, 26, 27, 28, 29, 30, 31, 32, 33, 43, 44, 45, 46, 47, 48, 49] (by decide +kernel) (by decide +kernel)
set_option maxRecDepth 20000 in
theorem gX3_init_X1_init_n20 : GoodIn wsX3_init (wsX1_init) := ggX3_init_X1_init
theorem dX3_init_0 : decode cX3_init 0 = .ok (.aload_n 0, 1) := by decide +kernel
theorem dX3_init_1 : decode cX3_init 1 = .ok (.invokespecial 3, 3) := by decide +kernel
theorem dX3_init_4 : decode cX3_init 4 = .ok (.aload_n 0, 1) := by decide +kernel
theorem dX3_init_5 : decode cX3_init 5 = .ok (.iconst 3, 1) := by decide +kernel
theorem dX3_init_6 : decode cX3_init 6 = .ok (.anewarray 9, 3) := by decide +kernel
theorem dX3_init_9 : decode cX3_init 9 = .ok (.dup, 1) := by decide +kernel
theorem dX3_init_10 : decode cX3_init 10 = .ok (.iconst 0, 1) := by decide +kernel
theorem dX3_init_11 : decode cX3_init 11 = .ok (.new 9, 3) := by decide +kernel
theorem dX3_init_14 : decode cX3_init 14 = .ok (.dup, 1) := by decide +kernel
theorem dX3_init_15 : decode cX3_init 15 = .ok (.sipush 1000, 3) := by decide +kernel
theorem dX3_init_18 : decode cX3_init 18 = .ok (.invokespecial 11, 3) := by decide +kernel
theorem dX3_init_21 : decode cX3_init 21 = .ok (.aastore, 1) := by decide +kernel
theorem dX3_init_22 : decode cX3_init 22 = .ok (.dup, 1) := by decide +kernel
theorem dX3_init_23 : decode cX3_init 23 = .ok (.iconst 1, 1) := by decide +kernel
theorem dX3_init_24 : decode cX3_init 24 = .ok (.new 9, 3) := by decide +kernel
theorem dX3_init_27 : decode cX3_init 27 = .ok (.dup, 1) := by decide +kernel
theorem dX3_init_28 : decode cX3_init 28 = .ok (.sipush 2000, 3) := by decide +kernel
theorem dX3_init_31 : decode cX3_init 31 = .ok (.invokespecial 11, 3) := by decide +kernel
theorem dX3_init_34 : decode cX3_init 34 = .ok (.aastore, 1) := by decide +kernel
theorem dX3_init_35 : decode cX3_init 35 = .ok (.dup, 1) := by decide +kernel
theorem dX3_init_36 : decode cX3_init 36 = .ok (.iconst 2, 1) := by decide +kernel
theorem dX3_init_37 : decode cX3_init 37 = .ok (.new 9, 3) := by decide +kernel
theorem dX3_init_40 : decode cX3_init 40 = .ok (.dup, 1) := by decide +kernel
theorem dX3_init_41 : decode cX3_init 41 = .ok (.sipush 3000, 3) := by decide +kernel
theorem dX3_init_44 : decode cX3_init 44 = .ok (.invokespecial 11, 3) := by decide +kernel
theorem dX3_init_47 : decode cX3_init 47 = .ok (.aastore, 1) := by decide +kernel
theorem dX3_init_48 : decode cX3_init 48 = .ok (.putfield 14, 3) := by decide +kernel
theorem dX3_init_51 : decode cX3_init 51 = .ok (.aload_n 0, 1) := by decide +kernel
theorem dX3_init_52 : decode cX3_init 52 = .ok (.iconst 4, 1) := by decide +kernel
theorem dX3_init_53 : decode cX3_init 53 = .ok (.anewarray 18, 3) := by decide +kernel
theorem dX3_init_56 : decode cX3_init 56 = .ok (.dup, 1) := by decide +kernel
theorem dX3_init_57 : decode cX3_init 57 = .ok (.iconst 0, 1) := by decide +kernel
theorem dX3_init_58 : decode cX3_init 58 = .ok (.new 18, 3) := by decide +kernel
theorem dX3_init_61 : decode cX3_init 61 = .ok (.dup, 1) := by decide +kernel
theorem dX3_init_62 : decode cX3_init 62 = .ok (.invokespecial 20, 3) := by decide +kernel
theorem dX3_init_65 : decode cX3_init 65 = .ok (.aastore, 1) := by decide +kernel
theorem dX3_init_66 : decode cX3_init 66 = .ok (.dup, 1) := by decide +kernel
theorem dX3_init_67 : decode cX3_init 67 = .ok (.iconst 1, 1) := by decide +kernel
theorem dX3_init_68 : decode cX3_init 68 = .ok (.new 18, 3) := by decide +kernel
theorem dX3_init_71 : decode cX3_init 71 = .ok (.dup, 1) := by decide +kernel
theorem dX3_init_72 : decode cX3_init 72 = .ok (.invokespecial 20, 3) := by decide +kernel
theorem dX3_init_75 : decode cX3_init 75 = .ok (.aastore, 1) := by decide +kernel
theorem dX3_init_76 : decode cX3_init 76 = .ok (.dup, 1) := by decide +kernel
theorem dX3_init_77 : decode cX3_init 77 = .ok (.iconst 2, 1) := by decide +kernel
theorem dX3_init_78 : decode cX3_init 78 = .ok (.new 18, 3) := by decide +kernel
theorem dX3_init_81 : decode cX3_init 81 = .ok (.dup, 1) := by decide +kernel
theorem dX3_init_82 : decode cX3_init 82 = .ok (.invokespecial 20, 3) := by decide +kernel
theorem dX3_init_85 : decode cX3_init 85 = .ok (.aastore, 1) := by decide +kernel
theorem dX3_init_86 : decode cX3_init 86 = .ok (.dup, 1) := by decide +kernel
theorem dX3_init_87 : decode cX3_init 87 = .ok (.iconst 3, 1) := by decide +kernel
theorem dX3_init_88 : decode cX3_init 88 = .ok (.new 18, 3) := by decide +kernel
theorem dX3_init_91 : decode cX3_init 91 = .ok (.dup, 1) := by decide +kernel
theorem dX3_init_92 : decode cX3_init 92 = .ok (.invokespecial 20, 3) := by decide +kernel
theorem dX3_init_95 : decode cX3_init 95 = .ok (.aastore, 1) := by decide +kernel
theorem dX3_init_96 : decode cX3_init 96 = .ok (.putfield 21, 3) := by decide +kernel
theorem dX3_init_99 : decode cX3_init 99 = .ok (.aload_n 0, 1) := by decide +kernel
theorem dX3_init_100 : decode cX3_init 100 = .ok (.bipush 16, 2) := by decide +kernel
theorem dX3_init_102 : decode cX3_init 102 = .ok (.anewarray 25, 3) := by decide +kernel
theorem dX3_init_105 : decode cX3_init 105 = .ok (.putfield 27, 3) := by decide +kernel
theorem dX3_init_108 : decode cX3_init 108 = .ok (.aload_n 0, 1) := by decide +kernel
theorem dX3_init_109 : decode cX3_init 109 = .ok (.iconst 0, 1) := by decide +kernel
theorem dX3_init_110 : decode cX3_init 110 = .ok (.putfield 31, 3) := by decide +kernel
theorem dX3_init_113 : decode cX3_init 113 = .ok (.aload_n 0, 1) := by decide +kernel
theorem dX3_init_114 : decode cX3_init 114 = .ok (.sipush 500, 3) := by decide +kernel
theorem dX3_init_117 : decode cX3_init 117 = .ok (.putfield 35, 3) := by decide +kernel
theorem dX3_init_120 : decode cX3_init 120 = .ok (.aload_n 0, 1) := by decide +kernel
theorem dX3_init_121 : decode cX3_init 121 = .ok (.iconst 0, 1) := by decide +kernel
theorem dX3_init_122 : decode cX3_init 122 = .ok (.putfield 38, 3) := by decide +kernel
theorem dX3_init_125 : decode cX3_init 125 = .ok (.aload_n 0, 1) := by decide +kernel
theorem dX3_init_126 : decode cX3_init 126 = .ok (.iconst 0, 1) := by decide +kernel
theorem dX3_init_127 : decode cX3_init 127 = .ok (.putfield 41, 3) := by decide +kernel
theorem dX3_init_130 : decode cX3_init 130 = .ok (.aload_n 0, 1) := by decide +kernel
theorem dX3_init_131 : decode cX3_init 131 = .ok (.iconst 0, 1) := by decide +kernel
theorem dX3_init_132 : decode cX3_init 132 = .ok (.putfield 44, 3) := by decide +kernel
theorem dX3_init_135 : decode cX3_init 135 = .ok (.return_, 1) := by decide +kernel
set_option maxRecDepth 20000 in
theorem ggX3_setDues_X3_bandAt : GoodIn wsX3_setDues wsX3_bandAt := goodIn_ca (goodIn_r _ [6, 7, 8, 9, 17, 18, 19, 20, 21, 22, 23, 24] (by decide +kernel) (by decide +kernel)) (goodIn_sub (fun _ h => List.mem_cons_of_mem _ (List.mem_append_left _ (List.mem_append_right _ h))) (by decide +kernel))
set_option maxRecDepth 20000 in
theorem gX3_setDues_X3_bandAt : GoodIn wsX3_setDues (wsV RX3 47 RX3 yX3_bandAt wsX3_bandAt) := goodIn_app (goodIn_of _ (by decide +kernel)) ggX3_setDues_X3_bandAt
set_option maxRecDepth 20000 in
theorem ggX3_setDues_X3_checkRange : GoodIn wsX3_setDues wsX3_checkRange := goodIn_ca (goodIn_r _ [13, 14, 15] (by decide +kernel) (by decide +kernel)) (goodIn_sub (fun _ h => List.mem_cons_of_mem _ (List.mem_append_right _ h)) (by decide +kernel))
set_option maxRecDepth 20000 in
theorem gX3_setDues_X3_checkRange : GoodIn wsX3_setDues (wsV RX3 52 RX3 yX3_checkRange wsX3_checkRange) := goodIn_app (goodIn_of _ (by decide +kernel)) ggX3_setDues_X3_checkRange
theorem dX3_setDues_0 : decode cX3_setDues 0 = .ok (.aload_n 0, 1) := by decide +kernel
theorem dX3_setDues_1 : decode cX3_setDues 1 = .ok (.iload_n 1, 1) := by decide +kernel
theorem dX3_setDues_2 : decode cX3_setDues 2 = .ok (.invokevirtual 47, 3) := by decide +kernel
theorem dX3_setDues_5 : decode cX3_setDues 5 = .ok (.astore_n 3, 1) := by decide +kernel
theorem dX3_setDues_6 : decode cX3_setDues 6 = .ok (.aload_n 0, 1) := by decide +kernel
theorem dX3_setDues_7 : decode cX3_setDues 7 = .ok (.iload_n 2, 1) := by decide +kernel
theorem dX3_setDues_8 : decode cX3_setDues 8 = .ok (.iconst 0, 1) := by decide +kernel
theorem dX3_setDues_9 : decode cX3_setDues 9 = .ok (.ldc 51, 2) := by decide +kernel
theorem dX3_setDues_11 : decode cX3_setDues 11 = .ok (.invokevirtual 52, 3) := by decide +kernel
theorem dX3_setDues_14 : decode cX3_setDues 14 = .ok (.aload_n 3, 1) := by decide +kernel
theorem dX3_setDues_15 : decode cX3_setDues 15 = .ok (.getfield 56, 3) := by decide +kernel
theorem dX3_setDues_18 : decode cX3_setDues 18 = .ok (.istore 4, 2) := by decide +kernel
theorem dX3_setDues_20 : decode cX3_setDues 20 = .ok (.aload_n 3, 1) := by decide +kernel
theorem dX3_setDues_21 : decode cX3_setDues 21 = .ok (.iload_n 2, 1) := by decide +kernel
theorem dX3_setDues_22 : decode cX3_setDues 22 = .ok (.putfield 56, 3) := by decide +kernel
theorem dX3_setDues_25 : decode cX3_setDues 25 = .ok (.iload 4, 2) := by decide +kernel
theorem dX3_setDues_27 : decode cX3_setDues 27 = .ok (.ireturn, 1) := by decide +kernel
set_option maxRecDepth 20000 in
theorem ggX3_setStrikePay_X3_checkRange : GoodIn wsX3_setStrikePay wsX3_checkRange := goodIn_ca (goodIn_r _ [7, 8, 9] (by decide +kernel) (by decide +kernel)) (goodIn_sub (fun _ h => List.mem_cons_of_mem _ (List.mem_append_right _ h)) (by decide +kernel))
set_option maxRecDepth 20000 in
theorem gX3_setStrikePay_X3_checkRange : GoodIn wsX3_setStrikePay (wsV RX3 52 RX3 yX3_checkRange wsX3_checkRange) := goodIn_app (goodIn_of _ (by decide +kernel)) ggX3_setStrikePay_X3_checkRange
theorem dX3_setStrikePay_0 : decode cX3_setStrikePay 0 = .ok (.aload_n 0, 1) := by decide +kernel
theorem dX3_setStrikePay_1 : decode cX3_setStrikePay 1 = .ok (.iload_n 1, 1) := by decide +kernel
theorem dX3_setStrikePay_2 : decode cX3_setStrikePay 2 = .ok (.iconst 0, 1) := by decide +kernel
theorem dX3_setStrikePay_3 : decode cX3_setStrikePay 3 = .ok (.ldc 51, 2) := by decide +kernel
theorem dX3_setStrikePay_5 : decode cX3_setStrikePay 5 = .ok (.invokevirtual 52, 3) := by decide +kernel
theorem dX3_setStrikePay_8 : decode cX3_setStrikePay 8 = .ok (.aload_n 0, 1) := by decide +kernel
theorem dX3_setStrikePay_9 : decode cX3_setStrikePay 9 = .ok (.getfield 35, 3) := by decide +kernel
theorem dX3_setStrikePay_12 : decode cX3_setStrikePay 12 = .ok (.istore_n 2, 1) := by decide +kernel
theorem dX3_setStrikePay_13 : decode cX3_setStrikePay 13 = .ok (.aload_n 0, 1) := by decide +kernel
theorem dX3_setStrikePay_14 : decode cX3_setStrikePay 14 = .ok (.iload_n 1, 1) := by decide +kernel
theorem dX3_setStrikePay_15 : decode cX3_setStrikePay 15 = .ok (.putfield 35, 3) := by decide +kernel
theorem dX3_setStrikePay_18 : decode cX3_setStrikePay 18 = .ok (.iload_n 2, 1) := by decide +kernel
theorem dX3_setStrikePay_19 : decode cX3_setStrikePay 19 = .ok (.ireturn, 1) := by decide +kernel
set_option maxRecDepth 20000 in
theorem ggX3_join_X3_branchAt : GoodIn wsX3_join wsX3_branchAt := goodIn_ca (goodIn_r _ [12, 13, 14, 15, 37, 38, 39, 40, 41, 42, 43, 44] (by decide +kernel) (by decide +kernel)) (goodIn_sub (fun _ h => List.mem_cons_of_mem _ (List.mem_append_right _ h)) (by decide +kernel))
set_option maxRecDepth 20000 in
theorem gX3_join_X3_branchAt : GoodIn wsX3_join (wsV RX3 59 RX3 yX3_branchAt wsX3_branchAt) := goodIn_app (goodIn_of _ (by decide +kernel)) ggX3_join_X3_branchAt
set_option maxRecDepth 20000 in
theorem ggX3_join_X3_bandAt : GoodIn wsX3_join wsX3_bandAt := goodIn_ca (goodIn_r _ [19, 13, 14, 20, 37, 38, 39, 40, 41, 42, 43, 44] (by decide +kernel) (by decide +kernel)) (goodIn_sub (fun _ h => List.mem_cons_of_mem _ (List.mem_append_right _ h)) (by decide +kernel))
set_option maxRecDepth 20000 in
theorem gX3_join_X3_bandAt : GoodIn wsX3_join (wsV RX3 47 RX3 yX3_bandAt wsX3_bandAt) := goodIn_app (goodIn_of _ (by decide +kernel)) ggX3_join_X3_bandAt
set_option maxRecDepth 20000 in
theorem ggX3_join_X2_init : GoodIn wsX3_join wsX2_init := goodIn_r _ [22, 23, 24, 25, 26, 27, 28, 29, 30, 31, 32, 33, 34, 35, 36, 45, 46, 47, 48, 49, 50, 51, 52, 53, 54] (by decide +kernel) (by decide +kernel)
set_option maxRecDepth 20000 in
theorem gX3_join_X2_init_n70 : GoodIn wsX3_join (wsX2_init) := ggX3_join_X2_init
theorem dX3_join_0 : decode cX3_join 0 = .ok (.aload_n 0, 1) := by decide +kernel
theorem dX3_join_1 : decode cX3_join 1 = .ok (.iload_n 1, 1) := by decide +kernel
theorem dX3_join_2 : decode cX3_join 2 = .ok (.invokevirtual 59, 3) := by decide +kernel
theorem dX3_join_5 : decode cX3_join 5 = .ok (.astore_n 3, 1) := by decide +kernel
theorem dX3_join_6 : decode cX3_join 6 = .ok (.aload_n 0, 1) := by decide +kernel
theorem dX3_join_7 : decode cX3_join 7 = .ok (.iload_n 2, 1) := by decide +kernel
theorem dX3_join_8 : decode cX3_join 8 = .ok (.invokevirtual 47, 3) := by decide +kernel
theorem dX3_join_11 : decode cX3_join 11 = .ok (.astore 4, 2) := by decide +kernel
theorem dX3_join_13 : decode cX3_join 13 = .ok (.aload_n 0, 1) := by decide +kernel
theorem dX3_join_14 : decode cX3_join 14 = .ok (.getfield 31, 3) := by decide +kernel
theorem dX3_join_17 : decode cX3_join 17 = .ok (.aload_n 0, 1) := by decide +kernel
theorem dX3_join_18 : decode cX3_join 18 = .ok (.getfield 27, 3) := by decide +kernel
theorem dX3_join_21 : decode cX3_join 21 = .ok (.arraylength, 1) := by decide +kernel
theorem dX3_join_22 : decode cX3_join 22 = .ok (.if_icmp .lt 13, 3) := by decide +kernel
theorem dX3_join_25 : decode cX3_join 25 = .ok (.new 63, 3) := by decide +kernel
theorem dX3_join_28 : decode cX3_join 28 = .ok (.dup, 1) := by decide +kernel
theorem dX3_join_29 : decode cX3_join 29 = .ok (.ldc 65, 2) := by decide +kernel
theorem dX3_join_31 : decode cX3_join 31 = .ok (.invokespecial 67, 3) := by decide +kernel
theorem dX3_join_34 : decode cX3_join 34 = .ok (.athrow, 1) := by decide +kernel
theorem dX3_join_35 : decode cX3_join 35 = .ok (.aload_n 0, 1) := by decide +kernel
theorem dX3_join_36 : decode cX3_join 36 = .ok (.getfield 31, 3) := by decide +kernel
theorem dX3_join_39 : decode cX3_join 39 = .ok (.istore 5, 2) := by decide +kernel
theorem dX3_join_41 : decode cX3_join 41 = .ok (.aload_n 0, 1) := by decide +kernel
theorem dX3_join_42 : decode cX3_join 42 = .ok (.getfield 27, 3) := by decide +kernel
theorem dX3_join_45 : decode cX3_join 45 = .ok (.iload 5, 2) := by decide +kernel
theorem dX3_join_47 : decode cX3_join 47 = .ok (.new 25, 3) := by decide +kernel
theorem dX3_join_50 : decode cX3_join 50 = .ok (.dup, 1) := by decide +kernel
theorem dX3_join_51 : decode cX3_join 51 = .ok (.iload 5, 2) := by decide +kernel
theorem dX3_join_53 : decode cX3_join 53 = .ok (.aload_n 3, 1) := by decide +kernel
theorem dX3_join_54 : decode cX3_join 54 = .ok (.aload 4, 2) := by decide +kernel
theorem dX3_join_56 : decode cX3_join 56 = .ok (.invokespecial 70, 3) := by decide +kernel
theorem dX3_join_59 : decode cX3_join 59 = .ok (.aastore, 1) := by decide +kernel
theorem dX3_join_60 : decode cX3_join 60 = .ok (.aload_n 0, 1) := by decide +kernel
theorem dX3_join_61 : decode cX3_join 61 = .ok (.dup, 1) := by decide +kernel
theorem dX3_join_62 : decode cX3_join 62 = .ok (.getfield 31, 3) := by decide +kernel
theorem dX3_join_65 : decode cX3_join 65 = .ok (.iconst 1, 1) := by decide +kernel
theorem dX3_join_66 : decode cX3_join 66 = .ok (.iadd, 1) := by decide +kernel
theorem dX3_join_67 : decode cX3_join 67 = .ok (.putfield 31, 3) := by decide +kernel
theorem dX3_join_70 : decode cX3_join 70 = .ok (.iload 5, 2) := by decide +kernel
theorem dX3_join_72 : decode cX3_join 72 = .ok (.ireturn, 1) := by decide +kernel
set_option maxRecDepth 20000 in
theorem ggX3_move_X3_memberAt : GoodIn wsX3_move wsX3_memberAt := goodIn_ca (goodIn_r _ [5, 6, 7, 8, 35, 36, 37, 38, 39, 40, 41, 42] (by decide +kernel) (by decide +kernel)) (goodIn_sub (fun _ h => List.mem_cons_of_mem _ (List.mem_append_left _ (List.mem_append_right _ h))) (by decide +kernel))
set_option maxRecDepth 20000 in
theorem gX3_move_X3_memberAt : GoodIn wsX3_move (wsV RX3 73 RX3 yX3_memberAt wsX3_memberAt) := goodIn_app (goodIn_of _ (by decide +kernel)) ggX3_move_X3_memberAt
set_option maxRecDepth 20000 in
theorem ggX3_move_X3_branchAt : GoodIn wsX3_move wsX3_branchAt := goodIn_ca (goodIn_r _ [12, 6, 7, 13, 35, 36, 37, 38, 39, 40, 41, 42] (by decide +kernel) (by decide +kernel)) (goodIn_sub (fun _ h => List.mem_cons_of_mem _ (List.mem_append_left _ (List.mem_append_right _ h))) (by decide +kernel))
set_option maxRecDepth 20000 in
theorem gX3_move_X3_branchAt : GoodIn wsX3_move (wsV RX3 59 RX3 yX3_branchAt wsX3_branchAt) := goodIn_app (goodIn_of _ (by decide +kernel)) ggX3_move_X3_branchAt
set_option maxRecDepth 20000 in
theorem ggX3_move_X3_bandAt : GoodIn wsX3_move wsX3_bandAt := goodIn_ca (goodIn_r _ [17, 6, 7, 18, 35, 36, 37, 38, 39, 40, 41, 42] (by decide +kernel) (by decide +kernel)) (goodIn_sub (fun _ h => List.mem_cons_of_mem _ (List.mem_append_left _ (List.mem_append_right _ h))) (by decide +kernel))
set_option maxRecDepth 20000 in
theorem gX3_move_X3_bandAt : GoodIn wsX3_move (wsV RX3 47 RX3 yX3_bandAt wsX3_bandAt) := goodIn_app (goodIn_of _ (by decide +kernel)) ggX3_move_X3_bandAt
set_option maxRecDepth 20000 in
theorem ggX3_move_X3_checkNotLeft : GoodIn wsX3_move wsX3_checkNotLeft := goodIn_ca (goodIn_r _ [22, 23, 24, 25, 26, 27, 28, 29, 30, 31, 32, 33, 34] (by decide +kernel) (by decide +kernel)) (goodIn_sub (fun _ h => List.mem_cons_of_mem _ (List.mem_append_right _ h)) (by decide +kernel))
set_option maxRecDepth 20000 in
theorem gX3_move_X3_checkNotLeft : GoodIn wsX3_move (wsV RX3 77 RX3 yX3_checkNotLeft wsX3_checkNotLeft) := goodIn_app (goodIn_of _ (by decide +kernel)) ggX3_move_X3_checkNotLeft
theorem dX3_move_0 : decode cX3_move 0 = .ok (.aload_n 0, 1) := by decide +kernel
theorem dX3_move_1 : decode cX3_move 1 = .ok (.iload_n 1, 1) := by decide +kernel
theorem dX3_move_2 : decode cX3_move 2 = .ok (.invokevirtual 73, 3) := by decide +kernel
theorem dX3_move_5 : decode cX3_move 5 = .ok (.astore 4, 2) := by decide +kernel
theorem dX3_move_7 : decode cX3_move 7 = .ok (.aload_n 0, 1) := by decide +kernel
theorem dX3_move_8 : decode cX3_move 8 = .ok (.iload_n 2, 1) := by decide +kernel
theorem dX3_move_9 : decode cX3_move 9 = .ok (.invokevirtual 59, 3) := by decide +kernel
theorem dX3_move_12 : decode cX3_move 12 = .ok (.astore 5, 2) := by decide +kernel
theorem dX3_move_14 : decode cX3_move 14 = .ok (.aload_n 0, 1) := by decide +kernel
theorem dX3_move_15 : decode cX3_move 15 = .ok (.iload_n 3, 1) := by decide +kernel
theorem dX3_move_16 : decode cX3_move 16 = .ok (.invokevirtual 47, 3) := by decide +kernel
theorem dX3_move_19 : decode cX3_move 19 = .ok (.astore 6, 2) := by decide +kernel
theorem dX3_move_21 : decode cX3_move 21 = .ok (.aload_n 0, 1) := by decide +kernel
theorem dX3_move_22 : decode cX3_move 22 = .ok (.aload 4, 2) := by decide +kernel
theorem dX3_move_24 : decode cX3_move 24 = .ok (.invokevirtual 77, 3) := by decide +kernel
theorem dX3_move_27 : decode cX3_move 27 = .ok (.aload 4, 2) := by decide +kernel
theorem dX3_move_29 : decode cX3_move 29 = .ok (.aload 5, 2) := by decide +kernel
theorem dX3_move_31 : decode cX3_move 31 = .ok (.putfield 81, 3) := by decide +kernel
theorem dX3_move_34 : decode cX3_move 34 = .ok (.aload 4, 2) := by decide +kernel
theorem dX3_move_36 : decode cX3_move 36 = .ok (.aload 6, 2) := by decide +kernel
theorem dX3_move_38 : decode cX3_move 38 = .ok (.putfield 85, 3) := by decide +kernel
theorem dX3_move_41 : decode cX3_move 41 = .ok (.return_, 1) := by decide +kernel
set_option maxRecDepth 20000 in
theorem ggX3_leave_X3_memberAt : GoodIn wsX3_leave wsX3_memberAt := goodIn_ca (goodIn_r _ [5, 6, 7, 8, 25, 26, 27, 28, 29, 30, 31, 32] (by decide +kernel) (by decide +kernel)) (goodIn_sub (fun _ h => List.mem_cons_of_mem _ (List.mem_append_left _ (List.mem_append_right _ h))) (by decide +kernel))
set_option maxRecDepth 20000 in
theorem gX3_leave_X3_memberAt : GoodIn wsX3_leave (wsV RX3 73 RX3 yX3_memberAt wsX3_memberAt) := goodIn_app (goodIn_of _ (by decide +kernel)) ggX3_leave_X3_memberAt
set_option maxRecDepth 20000 in
theorem ggX3_leave_X3_checkNotLeft : GoodIn wsX3_leave wsX3_checkNotLeft := goodIn_ca (goodIn_r _ [12, 13, 14, 15, 16, 17, 18, 19, 20, 21, 22, 23, 24] (by decide +kernel) (by decide +kernel)) (goodIn_sub (fun _ h => List.mem_cons_of_mem _ (List.mem_append_right _ h)) (by decide +kernel))
set_option maxRecDepth 20000 in
theorem gX3_leave_X3_checkNotLeft : GoodIn wsX3_leave (wsV RX3 77 RX3 yX3_checkNotLeft wsX3_checkNotLeft) := goodIn_app (goodIn_of _ (by decide +kernel)) ggX3_leave_X3_checkNotLeft
theorem dX3_leave_0 : decode cX3_leave 0 = .ok (.aload_n 0, 1) := by decide +kernel
theorem dX3_leave_1 : decode cX3_leave 1 = .ok (.iload_n 1, 1) := by decide +kernel
theorem dX3_leave_2 : decode cX3_leave 2 = .ok (.invokevirtual 73, 3) := by decide +kernel
theorem dX3_leave_5 : decode cX3_leave 5 = .ok (.astore_n 3, 1) := by decide +kernel
theorem dX3_leave_6 : decode cX3_leave 6 = .ok (.aload_n 0, 1) := by decide +kernel
theorem dX3_leave_7 : decode cX3_leave 7 = .ok (.aload_n 3, 1) := by decide +kernel
theorem dX3_leave_8 : decode cX3_leave 8 = .ok (.invokevirtual 77, 3) := by decide +kernel
theorem dX3_leave_11 : decode cX3_leave 11 = .ok (.aload_n 3, 1) := by decide +kernel
theorem dX3_leave_12 : decode cX3_leave 12 = .ok (.getfield 89, 3) := by decide +kernel
theorem dX3_leave_15 : decode cX3_leave 15 = .ok (.istore 4, 2) := by decide +kernel
theorem dX3_leave_17 : decode cX3_leave 17 = .ok (.aload_n 3, 1) := by decide +kernel
theorem dX3_leave_18 : decode cX3_leave 18 = .ok (.iload_n 2, 1) := by decide +kernel
theorem dX3_leave_19 : decode cX3_leave 19 = .ok (.putfield 89, 3) := by decide +kernel
theorem dX3_leave_22 : decode cX3_leave 22 = .ok (.iload 4, 2) := by decide +kernel
theorem dX3_leave_24 : decode cX3_leave 24 = .ok (.ireturn, 1) := by decide +kernel
set_option maxRecDepth 20000 in
theorem ggX3_quit_X3_memberAt : GoodIn wsX3_quit wsX3_memberAt := goodIn_ca (goodIn_r _ [5, 6, 7, 8, 31, 32, 33, 34, 35, 36, 37, 38] (by decide +kernel) (by decide +kernel)) (goodIn_sub (fun _ h => List.mem_cons_of_mem _ (List.mem_append_left _ (List.mem_append_right _ h))) (by decide +kernel))
set_option maxRecDepth 20000 in
theorem gX3_quit_X3_memberAt : GoodIn wsX3_quit (wsV RX3 73 RX3 yX3_memberAt wsX3_memberAt) := goodIn_app (goodIn_of _ (by decide +kernel)) ggX3_quit_X3_memberAt
set_option maxRecDepth 20000 in
theorem ggX3_quit_X3_checkNotLeft : GoodIn wsX3_quit wsX3_checkNotLeft := goodIn_ca (goodIn_r _ [12, 13, 14, 21, 22, 23, 24, 25, 26, 27, 28, 29, 30] (by decide +kernel) (by decide +kernel)) (goodIn_sub (fun _ h => List.mem_cons_of_mem _ (List.mem_append_right _ h)) (by decide +kernel))
set_option maxRecDepth 20000 in
theorem gX3_quit_X3_checkNotLeft : GoodIn wsX3_quit (wsV RX3 77 RX3 yX3_checkNotLeft wsX3_checkNotLeft) := goodIn_app (goodIn_of _ (by decide +kernel)) ggX3_quit_X3_checkNotLeft
set_option maxRecDepth 20000 in
theorem ggX3_quit_X2_sumOwed : GoodIn wsX3_quit wsX2_sumOwed := goodIn_r _ [18, 19, 20, 21, 22, 23, 24, 25, 26, 27, 28, 29, 30] (by decide +kernel) (by decide +kernel)
set_option maxRecDepth 20000 in
theorem gX3_quit_X2_sumOwed_n96 : GoodIn wsX3_quit (wsX2_sumOwed) := ggX3_quit_X2_sumOwed
theorem dX3_quit_0 : decode cX3_quit 0 = .ok (.aload_n 0, 1) := by decide +kernel
theorem dX3_quit_1 : decode cX3_quit 1 = .ok (.iload_n 1, 1) := by decide +kernel
theorem dX3_quit_2 : decode cX3_quit 2 = .ok (.invokevirtual 73, 3) := by decide +kernel
theorem dX3_quit_5 : decode cX3_quit 5 = .ok (.astore_n 2, 1) := by decide +kernel
theorem dX3_quit_6 : decode cX3_quit 6 = .ok (.aload_n 0, 1) := by decide +kernel
theorem dX3_quit_7 : decode cX3_quit 7 = .ok (.aload_n 2, 1) := by decide +kernel
theorem dX3_quit_8 : decode cX3_quit 8 = .ok (.invokevirtual 77, 3) := by decide +kernel
theorem dX3_quit_11 : decode cX3_quit 11 = .ok (.aload_n 2, 1) := by decide +kernel
theorem dX3_quit_12 : decode cX3_quit 12 = .ok (.iconst 1, 1) := by decide +kernel
theorem dX3_quit_13 : decode cX3_quit 13 = .ok (.putfield 93, 3) := by decide +kernel
theorem dX3_quit_16 : decode cX3_quit 16 = .ok (.aload_n 2, 1) := by decide +kernel
theorem dX3_quit_17 : decode cX3_quit 17 = .ok (.invokevirtual 96, 3) := by decide +kernel
theorem dX3_quit_20 : decode cX3_quit 20 = .ok (.ireturn, 1) := by decide +kernel
set_option maxRecDepth 20000 in
theorem ggX3_pay_X3_memberAt : GoodIn wsX3_pay wsX3_memberAt := goodIn_ca (goodIn_r _ [7, 8, 9, 10, 41, 42, 43, 44, 45, 46, 47, 48] (by decide +kernel) (by decide +kernel)) (goodIn_sub (fun _ h => List.mem_cons_of_mem _ (List.mem_append_left _ (List.mem_append_right _ h))) (by decide +kernel))
set_option maxRecDepth 20000 in
theorem gX3_pay_X3_memberAt : GoodIn wsX3_pay (wsV RX3 73 RX3 yX3_memberAt wsX3_memberAt) := goodIn_app (goodIn_of _ (by decide +kernel)) ggX3_pay_X3_memberAt
set_option maxRecDepth 20000 in
theorem ggX3_pay_X3_checkRange : GoodIn wsX3_pay wsX3_checkRange := goodIn_ca (goodIn_r _ [14, 15, 16] (by decide +kernel) (by decide +kernel)) (goodIn_sub (fun _ h => List.mem_cons_of_mem _ (List.mem_append_right _ h)) (by decide +kernel))
set_option maxRecDepth 20000 in
theorem gX3_pay_X3_checkRange : GoodIn wsX3_pay (wsV RX3 52 RX3 yX3_checkRange wsX3_checkRange) := goodIn_app (goodIn_of _ (by decide +kernel)) ggX3_pay_X3_checkRange
set_option maxRecDepth 20000 in
theorem ggX3_pay_X2_takeIn : GoodIn wsX3_pay wsX2_takeIn := goodIn_r _ [20, 21, 22, 23, 24, 18, 25, 26, 27, 28, 29, 30, 31, 32, 33, 34, 35, 36, 37, 49, 50, 51, 52, 53, 54, 55, 56, 57, 58, 59, 60, 61, 62, 63, 64, 65] (by decide +kernel) (by decide +kernel)
set_option maxRecDepth 20000 in
theorem gX3_pay_X2_takeIn_n101 : GoodIn wsX3_pay (wsX2_takeIn) := ggX3_pay_X2_takeIn
set_option maxRecDepth 20000 in
theorem ggX3_pay_X2_sumOwed : GoodIn wsX3_pay wsX2_sumOwed := goodIn_r _ [40, 26, 27, 49, 50, 51, 52, 53, 54, 55, 56, 57, 58] (by decide +kernel) (by decide +kernel)
set_option maxRecDepth 20000 in
theorem gX3_pay_X2_sumOwed_n96 : GoodIn wsX3_pay (wsX2_sumOwed) := ggX3_pay_X2_sumOwed
theorem dX3_pay_0 : decode cX3_pay 0 = .ok (.aload_n 0, 1) := by decide +kernel
theorem dX3_pay_1 : decode cX3_pay 1 = .ok (.iload_n 1, 1) := by decide +kernel
theorem dX3_pay_2 : decode cX3_pay 2 = .ok (.invokevirtual 73, 3) := by decide +kernel
theorem dX3_pay_5 : decode cX3_pay 5 = .ok (.astore_n 3, 1) := by decide +kernel
theorem dX3_pay_6 : decode cX3_pay 6 = .ok (.aload_n 0, 1) := by decide +kernel
theorem dX3_pay_7 : decode cX3_pay 7 = .ok (.iload_n 2, 1) := by decide +kernel
theorem dX3_pay_8 : decode cX3_pay 8 = .ok (.iconst 1, 1) := by decide +kernel
theorem dX3_pay_9 : decode cX3_pay 9 = .ok (.ldc 100, 2) := by decide +kernel
theorem dX3_pay_11 : decode cX3_pay 11 = .ok (.invokevirtual 52, 3) := by decide +kernel
theorem dX3_pay_14 : decode cX3_pay 14 = .ok (.aload_n 0, 1) := by decide +kernel
theorem dX3_pay_15 : decode cX3_pay 15 = .ok (.dup, 1) := by decide +kernel
theorem dX3_pay_16 : decode cX3_pay 16 = .ok (.getfield 41, 3) := by decide +kernel
theorem dX3_pay_19 : decode cX3_pay 19 = .ok (.aload_n 3, 1) := by decide +kernel
theorem dX3_pay_20 : decode cX3_pay 20 = .ok (.iload_n 2, 1) := by decide +kernel
theorem dX3_pay_21 : decode cX3_pay 21 = .ok (.invokevirtual 101, 3) := by decide +kernel
theorem dX3_pay_24 : decode cX3_pay 24 = .ok (.iadd, 1) := by decide +kernel
theorem dX3_pay_25 : decode cX3_pay 25 = .ok (.putfield 41, 3) := by decide +kernel
theorem dX3_pay_28 : decode cX3_pay 28 = .ok (.aload_n 3, 1) := by decide +kernel
theorem dX3_pay_29 : decode cX3_pay 29 = .ok (.invokevirtual 96, 3) := by decide +kernel
theorem dX3_pay_32 : decode cX3_pay 32 = .ok (.ireturn, 1) := by decide +kernel
set_option maxRecDepth 20000 in
theorem ggX3_open_X3_branchAt : GoodIn wsX3_open wsX3_branchAt := goodIn_ca (goodIn_r _ [7, 8, 9, 10, 37, 38, 39, 40, 41, 42, 43, 44] (by decide +kernel) (by decide +kernel)) (goodIn_sub (fun _ h => List.mem_cons_of_mem _ (List.mem_append_right _ h)) (by decide +kernel))
set_option maxRecDepth 20000 in
theorem gX3_open_X3_branchAt : GoodIn wsX3_open (wsV RX3 59 RX3 yX3_branchAt wsX3_branchAt) := goodIn_app (goodIn_of _ (by decide +kernel)) ggX3_open_X3_branchAt
set_option maxRecDepth 20000 in
theorem ggX3_open_X1_beginBallot : GoodIn wsX3_open wsX1_beginBallot := goodIn_r _ [14, 15, 16, 17, 30, 31, 32, 33, 34, 35, 36] (by decide +kernel) (by decide +kernel)
set_option maxRecDepth 20000 in
theorem gX3_open_X1_beginBallot_n113 : GoodIn wsX3_open (wsX1_beginBallot) := ggX3_open_X1_beginBallot
set_option maxRecDepth 20000 in
theorem ggX3_open_X3_countStanding : GoodIn wsX3_open wsX3_countStanding := goodIn_r _ [21, 22, 23, 24, 25, 26, 27, 28, 29, 37, 38, 39, 40, 41, 42, 43, 44, 45, 46, 47, 48, 49, 50, 51, 52, 53, 54] (by decide +kernel) (by decide +kernel)
set_option maxRecDepth 20000 in
theorem gX3_open_X3_countStanding : GoodIn wsX3_open (wsV RX3 116 RX3 yX3_countStanding wsX3_countStanding) := goodIn_app (goodIn_of _ (by decide +kernel)) ggX3_open_X3_countStanding
theorem dX3_open_0 : decode cX3_open 0 = .ok (.aload_n 0, 1) := by decide +kernel
theorem dX3_open_1 : decode cX3_open 1 = .ok (.iload_n 1, 1) := by decide +kernel
theorem dX3_open_2 : decode cX3_open 2 = .ok (.invokevirtual 59, 3) := by decide +kernel
theorem dX3_open_5 : decode cX3_open 5 = .ok (.astore_n 2, 1) := by decide +kernel
theorem dX3_open_6 : decode cX3_open 6 = .ok (.aload_n 2, 1) := by decide +kernel
theorem dX3_open_7 : decode cX3_open 7 = .ok (.getfield 105, 3) := by decide +kernel
theorem dX3_open_10 : decode cX3_open 10 = .ok (.ifCond .ne 10, 3) := by decide +kernel
theorem dX3_open_13 : decode cX3_open 13 = .ok (.aload_n 2, 1) := by decide +kernel
theorem dX3_open_14 : decode cX3_open 14 = .ok (.getfield 108, 3) := by decide +kernel
theorem dX3_open_17 : decode cX3_open 17 = .ok (.ifCond .eq 13, 3) := by decide +kernel
theorem dX3_open_20 : decode cX3_open 20 = .ok (.new 63, 3) := by decide +kernel
theorem dX3_open_23 : decode cX3_open 23 = .ok (.dup, 1) := by decide +kernel
theorem dX3_open_24 : decode cX3_open 24 = .ok (.ldc 111, 2) := by decide +kernel
theorem dX3_open_26 : decode cX3_open 26 = .ok (.invokespecial 67, 3) := by decide +kernel
theorem dX3_open_29 : decode cX3_open 29 = .ok (.athrow, 1) := by decide +kernel
theorem dX3_open_30 : decode cX3_open 30 = .ok (.aload_n 2, 1) := by decide +kernel
theorem dX3_open_31 : decode cX3_open 31 = .ok (.invokevirtual 113, 3) := by decide +kernel
theorem dX3_open_34 : decode cX3_open 34 = .ok (.aload_n 0, 1) := by decide +kernel
theorem dX3_open_35 : decode cX3_open 35 = .ok (.aload_n 2, 1) := by decide +kernel
theorem dX3_open_36 : decode cX3_open 36 = .ok (.invokevirtual 116, 3) := by decide +kernel
theorem dX3_open_39 : decode cX3_open 39 = .ok (.ireturn, 1) := by decide +kernel
set_option maxRecDepth 20000 in
theorem ggX3_vote_X3_memberAt : GoodIn wsX3_vote wsX3_memberAt := goodIn_ca (goodIn_r _ [8, 9, 10, 11, 58, 59, 60, 61, 62, 63, 64, 65] (by decide +kernel) (by decide +kernel)) (goodIn_sub (fun _ h => List.mem_cons_of_mem _ (List.mem_append_right _ h)) (by decide +kernel))
set_option maxRecDepth 20000 in
theorem gX3_vote_X3_memberAt : GoodIn wsX3_vote (wsV RX3 73 RX3 yX3_memberAt wsX3_memberAt) := goodIn_app (goodIn_of _ (by decide +kernel)) ggX3_vote_X3_memberAt
set_option maxRecDepth 20000 in
theorem ggX3_vote_X2_standsOn : GoodIn wsX3_vote wsX2_standsOn := goodIn_r _ [15, 16, 17, 41, 42, 43, 44, 45, 46, 47, 48, 49, 50] (by decide +kernel) (by decide +kernel)
set_option maxRecDepth 20000 in
theorem gX3_vote_X2_standsOn_n120 : GoodIn wsX3_vote (wsX2_standsOn) := ggX3_vote_X2_standsOn
set_option maxRecDepth 20000 in
theorem ggX3_vote_X1_hasVoteOf : GoodIn wsX3_vote wsX1_hasVoteOf := goodIn_r _ [21, 22, 23, 13, 24, 25, 26, 51, 52, 53, 54, 55, 56, 57, 41, 42, 43, 44, 45, 46, 47, 48, 49, 50] (by decide +kernel) (by decide +kernel)
set_option maxRecDepth 20000 in
theorem gX3_vote_X1_hasVoteOf_n124 : GoodIn wsX3_vote (wsX1_hasVoteOf) := ggX3_vote_X1_hasVoteOf
set_option maxRecDepth 20000 in
theorem ggX3_vote_X1_takeVote : GoodIn wsX3_vote wsX1_takeVote := goodIn_r _ [29, 22, 30, 23, 13, 24, 25, 26, 51, 52, 53, 54, 55, 56, 57, 41, 42, 43, 44, 45, 46, 47, 48, 49, 50] (by decide +kernel) (by decide +kernel)
set_option maxRecDepth 20000 in
theorem gX3_vote_X1_takeVote_n130 : GoodIn wsX3_vote (wsX1_takeVote) := ggX3_vote_X1_takeVote
set_option maxRecDepth 20000 in
theorem ggX3_vote_X1_countVotes : GoodIn wsX3_vote wsX1_countVotes := goodIn_r _ [33, 22, 34, 35, 36, 37, 38, 39, 40, 51, 52, 53, 54, 55, 56, 57] (by decide +kernel) (by decide +kernel)
set_option maxRecDepth 20000 in
theorem gX3_vote_X1_countVotes_n134 : GoodIn wsX3_vote (wsX1_countVotes) := ggX3_vote_X1_countVotes
theorem dX3_vote_0 : decode cX3_vote 0 = .ok (.aload_n 0, 1) := by decide +kernel
theorem dX3_vote_1 : decode cX3_vote 1 = .ok (.iload_n 1, 1) := by decide +kernel
theorem dX3_vote_2 : decode cX3_vote 2 = .ok (.invokevirtual 73, 3) := by decide +kernel
theorem dX3_vote_5 : decode cX3_vote 5 = .ok (.astore_n 3, 1) := by decide +kernel
theorem dX3_vote_6 : decode cX3_vote 6 = .ok (.aload_n 3, 1) := by decide +kernel
theorem dX3_vote_7 : decode cX3_vote 7 = .ok (.getfield 81, 3) := by decide +kernel
theorem dX3_vote_10 : decode cX3_vote 10 = .ok (.astore 4, 2) := by decide +kernel
theorem dX3_vote_12 : decode cX3_vote 12 = .ok (.aload 4, 2) := by decide +kernel
theorem dX3_vote_14 : decode cX3_vote 14 = .ok (.getfield 105, 3) := by decide +kernel
theorem dX3_vote_17 : decode cX3_vote 17 = .ok (.ifCond .eq 23, 3) := by decide +kernel
theorem dX3_vote_20 : decode cX3_vote 20 = .ok (.aload_n 3, 1) := by decide +kernel
theorem dX3_vote_21 : decode cX3_vote 21 = .ok (.aload_n 0, 1) := by decide +kernel
theorem dX3_vote_22 : decode cX3_vote 22 = .ok (.getfield 38, 3) := by decide +kernel
theorem dX3_vote_25 : decode cX3_vote 25 = .ok (.invokevirtual 120, 3) := by decide +kernel
theorem dX3_vote_28 : decode cX3_vote 28 = .ok (.ifCond .eq 12, 3) := by decide +kernel
theorem dX3_vote_31 : decode cX3_vote 31 = .ok (.aload 4, 2) := by decide +kernel
theorem dX3_vote_33 : decode cX3_vote 33 = .ok (.aload_n 3, 1) := by decide +kernel
theorem dX3_vote_34 : decode cX3_vote 34 = .ok (.invokevirtual 124, 3) := by decide +kernel
theorem dX3_vote_37 : decode cX3_vote 37 = .ok (.ifCond .eq 13, 3) := by decide +kernel
theorem dX3_vote_40 : decode cX3_vote 40 = .ok (.new 63, 3) := by decide +kernel
theorem dX3_vote_43 : decode cX3_vote 43 = .ok (.dup, 1) := by decide +kernel
theorem dX3_vote_44 : decode cX3_vote 44 = .ok (.ldc 128, 2) := by decide +kernel
theorem dX3_vote_46 : decode cX3_vote 46 = .ok (.invokespecial 67, 3) := by decide +kernel
theorem dX3_vote_49 : decode cX3_vote 49 = .ok (.athrow, 1) := by decide +kernel
theorem dX3_vote_50 : decode cX3_vote 50 = .ok (.aload 4, 2) := by decide +kernel
theorem dX3_vote_52 : decode cX3_vote 52 = .ok (.aload_n 3, 1) := by decide +kernel
theorem dX3_vote_53 : decode cX3_vote 53 = .ok (.iload_n 2, 1) := by decide +kernel
theorem dX3_vote_54 : decode cX3_vote 54 = .ok (.invokevirtual 130, 3) := by decide +kernel
theorem dX3_vote_57 : decode cX3_vote 57 = .ok (.aload 4, 2) := by decide +kernel
theorem dX3_vote_59 : decode cX3_vote 59 = .ok (.invokevirtual 134, 3) := by decide +kernel
theorem dX3_vote_62 : decode cX3_vote 62 = .ok (.ireturn, 1) := by decide +kernel
set_option maxRecDepth 20000 in
theorem ggX3_close_X3_branchAt : GoodIn wsX3_close wsX3_branchAt := goodIn_ca (goodIn_r _ [7, 8, 9, 10, 49, 50, 51, 52, 53, 54, 55, 56] (by decide +kernel) (by decide +kernel)) (goodIn_sub (fun _ h => List.mem_cons_of_mem _ (List.mem_append_right _ h)) (by decide +kernel))
set_option maxRecDepth 20000 in
theorem gX3_close_X3_branchAt : GoodIn wsX3_close (wsV RX3 59 RX3 yX3_branchAt wsX3_branchAt) := goodIn_app (goodIn_of _ (by decide +kernel)) ggX3_close_X3_branchAt
set_option maxRecDepth 20000 in
theorem ggX3_close_X3_countStanding : GoodIn wsX3_close wsX3_countStanding := goodIn_r _ [14, 15, 16, 17, 18, 19, 20, 21, 22, 49, 50, 51, 52, 53, 54, 55, 56, 57, 58, 59, 60, 61, 62, 63, 64, 65, 66] (by decide +kernel) (by decide +kernel)
set_option maxRecDepth 20000 in
theorem gX3_close_X3_countStanding : GoodIn wsX3_close (wsV RX3 116 RX3 yX3_countStanding wsX3_countStanding) := goodIn_app (goodIn_of _ (by decide +kernel)) ggX3_close_X3_countStanding
set_option maxRecDepth 20000 in
theorem ggX3_close_X1_endBallot : GoodIn wsX3_close wsX1_endBallot := goodIn_r _ [26, 27, 28, 29, 30, 31, 32, 24, 33, 34, 35, 36, 37, 38, 39, 40, 41, 42, 43, 44, 45, 46, 47, 48] (by decide +kernel) (by decide +kernel)
set_option maxRecDepth 20000 in
theorem gX3_close_X1_endBallot_n139 : GoodIn wsX3_close (wsX1_endBallot) := ggX3_close_X1_endBallot
theorem dX3_close_0 : decode cX3_close 0 = .ok (.aload_n 0, 1) := by decide +kernel
theorem dX3_close_1 : decode cX3_close 1 = .ok (.iload_n 1, 1) := by decide +kernel
theorem dX3_close_2 : decode cX3_close 2 = .ok (.invokevirtual 59, 3) := by decide +kernel
theorem dX3_close_5 : decode cX3_close 5 = .ok (.astore_n 2, 1) := by decide +kernel
theorem dX3_close_6 : decode cX3_close 6 = .ok (.aload_n 2, 1) := by decide +kernel
theorem dX3_close_7 : decode cX3_close 7 = .ok (.getfield 105, 3) := by decide +kernel
theorem dX3_close_10 : decode cX3_close 10 = .ok (.ifCond .ne 13, 3) := by decide +kernel
theorem dX3_close_13 : decode cX3_close 13 = .ok (.new 63, 3) := by decide +kernel
theorem dX3_close_16 : decode cX3_close 16 = .ok (.dup, 1) := by decide +kernel
theorem dX3_close_17 : decode cX3_close 17 = .ok (.ldc 137, 2) := by decide +kernel
theorem dX3_close_19 : decode cX3_close 19 = .ok (.invokespecial 67, 3) := by decide +kernel
theorem dX3_close_22 : decode cX3_close 22 = .ok (.athrow, 1) := by decide +kernel
theorem dX3_close_23 : decode cX3_close 23 = .ok (.aload_n 2, 1) := by decide +kernel
theorem dX3_close_24 : decode cX3_close 24 = .ok (.aload_n 0, 1) := by decide +kernel
theorem dX3_close_25 : decode cX3_close 25 = .ok (.aload_n 2, 1) := by decide +kernel
theorem dX3_close_26 : decode cX3_close 26 = .ok (.invokevirtual 116, 3) := by decide +kernel
theorem dX3_close_29 : decode cX3_close 29 = .ok (.invokevirtual 139, 3) := by decide +kernel
theorem dX3_close_32 : decode cX3_close 32 = .ok (.aload_n 2, 1) := by decide +kernel
theorem dX3_close_33 : decode cX3_close 33 = .ok (.getfield 142, 3) := by decide +kernel
theorem dX3_close_36 : decode cX3_close 36 = .ok (.ireturn, 1) := by decide +kernel
set_option maxRecDepth 20000 in
theorem ggX3_strike_X3_branchAt : GoodIn wsX3_strike wsX3_branchAt := goodIn_ca (goodIn_r _ [7, 8, 9, 10, 25, 26, 27, 28, 29, 30, 31, 32] (by decide +kernel) (by decide +kernel)) (goodIn_sub (fun _ h => List.mem_cons_of_mem _ (List.mem_append_right _ h)) (by decide +kernel))
set_option maxRecDepth 20000 in
theorem gX3_strike_X3_branchAt : GoodIn wsX3_strike (wsV RX3 59 RX3 yX3_branchAt wsX3_branchAt) := goodIn_app (goodIn_of _ (by decide +kernel)) ggX3_strike_X3_branchAt
set_option maxRecDepth 20000 in
theorem ggX3_strike_X1_canBeCalledOut : GoodIn wsX3_strike wsX1_canBeCalledOut := goodIn_r _ [14, 15, 16, 17, 18, 19, 20, 21, 22, 23, 24] (by decide +kernel) (by decide +kernel)
set_option maxRecDepth 20000 in
theorem gX3_strike_X1_canBeCalledOut_n145 : GoodIn wsX3_strike (wsX1_canBeCalledOut) := ggX3_strike_X1_canBeCalledOut
theorem dX3_strike_0 : decode cX3_strike 0 = .ok (.aload_n 0, 1) := by decide +kernel
theorem dX3_strike_1 : decode cX3_strike 1 = .ok (.iload_n 1, 1) := by decide +kernel
theorem dX3_strike_2 : decode cX3_strike 2 = .ok (.invokevirtual 59, 3) := by decide +kernel
theorem dX3_strike_5 : decode cX3_strike 5 = .ok (.astore_n 3, 1) := by decide +kernel
theorem dX3_strike_6 : decode cX3_strike 6 = .ok (.iload_n 2, 1) := by decide +kernel
theorem dX3_strike_7 : decode cX3_strike 7 = .ok (.ifCond .eq 13, 3) := by decide +kernel
theorem dX3_strike_10 : decode cX3_strike 10 = .ok (.aload_n 3, 1) := by decide +kernel
theorem dX3_strike_11 : decode cX3_strike 11 = .ok (.invokevirtual 145, 3) := by decide +kernel
theorem dX3_strike_14 : decode cX3_strike 14 = .ok (.ifCond .ne 23, 3) := by decide +kernel
theorem dX3_strike_17 : decode cX3_strike 17 = .ok (.goto 10, 3) := by decide +kernel
theorem dX3_strike_20 : decode cX3_strike 20 = .ok (.aload_n 3, 1) := by decide +kernel
theorem dX3_strike_21 : decode cX3_strike 21 = .ok (.getfield 108, 3) := by decide +kernel
theorem dX3_strike_24 : decode cX3_strike 24 = .ok (.ifCond .ne 13, 3) := by decide +kernel
theorem dX3_strike_27 : decode cX3_strike 27 = .ok (.new 63, 3) := by decide +kernel
theorem dX3_strike_30 : decode cX3_strike 30 = .ok (.dup, 1) := by decide +kernel
theorem dX3_strike_31 : decode cX3_strike 31 = .ok (.ldc 149, 2) := by decide +kernel
theorem dX3_strike_33 : decode cX3_strike 33 = .ok (.invokespecial 67, 3) := by decide +kernel
theorem dX3_strike_36 : decode cX3_strike 36 = .ok (.athrow, 1) := by decide +kernel
theorem dX3_strike_37 : decode cX3_strike 37 = .ok (.aload_n 3, 1) := by decide +kernel
theorem dX3_strike_38 : decode cX3_strike 38 = .ok (.iload_n 2, 1) := by decide +kernel
theorem dX3_strike_39 : decode cX3_strike 39 = .ok (.putfield 108, 3) := by decide +kernel
theorem dX3_strike_42 : decode cX3_strike 42 = .ok (.aload_n 3, 1) := by decide +kernel
theorem dX3_strike_43 : decode cX3_strike 43 = .ok (.iconst 0, 1) := by decide +kernel
theorem dX3_strike_44 : decode cX3_strike 44 = .ok (.putfield 142, 3) := by decide +kernel
theorem dX3_strike_47 : decode cX3_strike 47 = .ok (.return_, 1) := by decide +kernel
set_option maxRecDepth 20000 in
theorem ggX3_advance_X3_checkRange : GoodIn wsX3_advance wsX3_checkRange := goodIn_ca (goodIn_r _ [8, 9, 10] (by decide +kernel) (by decide +kernel)) (goodIn_sub (fun _ h => List.mem_cons_of_mem _ (List.mem_append_right _ h)) (by decide +kernel))
set_option maxRecDepth 20000 in
theorem gX3_advance_X3_checkRange : GoodIn wsX3_advance (wsV RX3 52 RX3 yX3_checkRange wsX3_checkRange) := goodIn_app (goodIn_of _ (by decide +kernel)) ggX3_advance_X3_checkRange
set_option maxRecDepth 20000 in
theorem ggX3_advance_X3_endDay : GoodIn wsX3_advance wsX3_endDay := goodIn_r _ [14, 3, 15, 16, 17, 7, 18, 19, 20, 21, 22, 23, 24, 25, 26, 27, 28, 29, 30, 31, 32, 33, 34, 35, 36, 37, 38, 39, 40, 41, 42, 43, 44, 45, 46, 47, 48, 49, 50, 51, 52, 53, 54, 55, 56, 57, 58, 59, 60, 61, 62, 63, 64, 65, 66, 67, 68, 69, 70, 71, 72, 73, 74, 75, 76, 77, 78, 79, 80, 81, 82, 83, 84, 85, 86] (by decide +kernel) (by decide +kernel)
set_option maxRecDepth 20000 in
theorem gX3_advance_X3_endDay : GoodIn wsX3_advance (wsV RX3 153 RX3 yX3_endDay wsX3_endDay) := goodIn_app (goodIn_of _ (by decide +kernel)) ggX3_advance_X3_endDay
theorem dX3_advance_0 : decode cX3_advance 0 = .ok (.aload_n 0, 1) := by decide +kernel
theorem dX3_advance_1 : decode cX3_advance 1 = .ok (.iload_n 1, 1) := by decide +kernel
theorem dX3_advance_2 : decode cX3_advance 2 = .ok (.iconst 1, 1) := by decide +kernel
theorem dX3_advance_3 : decode cX3_advance 3 = .ok (.bipush 100, 2) := by decide +kernel
theorem dX3_advance_5 : decode cX3_advance 5 = .ok (.invokevirtual 52, 3) := by decide +kernel
theorem dX3_advance_8 : decode cX3_advance 8 = .ok (.iload_n 1, 1) := by decide +kernel
theorem dX3_advance_9 : decode cX3_advance 9 = .ok (.sipush 1800, 3) := by decide +kernel
theorem dX3_advance_12 : decode cX3_advance 12 = .ok (.aload_n 0, 1) := by decide +kernel
theorem dX3_advance_13 : decode cX3_advance 13 = .ok (.getfield 38, 3) := by decide +kernel
theorem dX3_advance_16 : decode cX3_advance 16 = .ok (.isub, 1) := by decide +kernel
theorem dX3_advance_17 : decode cX3_advance 17 = .ok (.if_icmp .le 13, 3) := by decide +kernel
theorem dX3_advance_20 : decode cX3_advance 20 = .ok (.new 63, 3) := by decide +kernel
theorem dX3_advance_23 : decode cX3_advance 23 = .ok (.dup, 1) := by decide +kernel
theorem dX3_advance_24 : decode cX3_advance 24 = .ok (.ldc 151, 2) := by decide +kernel
theorem dX3_advance_26 : decode cX3_advance 26 = .ok (.invokespecial 67, 3) := by decide +kernel
theorem dX3_advance_29 : decode cX3_advance 29 = .ok (.athrow, 1) := by decide +kernel
theorem dX3_advance_30 : decode cX3_advance 30 = .ok (.iconst 0, 1) := by decide +kernel
theorem dX3_advance_31 : decode cX3_advance 31 = .ok (.istore_n 2, 1) := by decide +kernel
theorem dX3_advance_32 : decode cX3_advance 32 = .ok (.iload_n 2, 1) := by decide +kernel
theorem dX3_advance_33 : decode cX3_advance 33 = .ok (.iload_n 1, 1) := by decide +kernel
theorem dX3_advance_34 : decode cX3_advance 34 = .ok (.if_icmp .ge 13, 3) := by decide +kernel
theorem dX3_advance_37 : decode cX3_advance 37 = .ok (.aload_n 0, 1) := by decide +kernel
theorem dX3_advance_38 : decode cX3_advance 38 = .ok (.invokevirtual 153, 3) := by decide +kernel
theorem dX3_advance_41 : decode cX3_advance 41 = .ok (.iinc 2 1, 3) := by decide +kernel
theorem dX3_advance_44 : decode cX3_advance 44 = .ok (.goto (-12), 3) := by decide +kernel
theorem dX3_advance_47 : decode cX3_advance 47 = .ok (.aload_n 0, 1) := by decide +kernel
theorem dX3_advance_48 : decode cX3_advance 48 = .ok (.getfield 38, 3) := by decide +kernel
theorem dX3_advance_51 : decode cX3_advance 51 = .ok (.ireturn, 1) := by decide +kernel
set_option maxRecDepth 20000 in
theorem ggX3_fold_X3_hasEnded : GoodIn wsX3_fold wsX3_hasEnded := goodIn_r _ [8, 9, 15, 16, 17, 18, 19, 20, 21, 22] (by decide +kernel) (by decide +kernel)
set_option maxRecDepth 20000 in
theorem gX3_fold_X3_hasEnded : GoodIn wsX3_fold (wsV RX3 156 RX3 yX3_hasEnded wsX3_hasEnded) := goodIn_app (goodIn_of _ (by decide +kernel)) ggX3_fold_X3_hasEnded
set_option maxRecDepth 20000 in
theorem ggX3_fold_X3_sumLaidOn : GoodIn wsX3_fold wsX3_sumLaidOn := goodIn_r _ [13, 14, 15, 16, 17, 18, 19, 20, 21, 22, 23, 24, 25, 26, 27, 28, 29] (by decide +kernel) (by decide +kernel)
set_option maxRecDepth 20000 in
theorem gX3_fold_X3_sumLaidOn : GoodIn wsX3_fold (wsV RX3 164 RX3 yX3_sumLaidOn wsX3_sumLaidOn) := goodIn_app (goodIn_of _ (by decide +kernel)) ggX3_fold_X3_sumLaidOn
theorem dX3_fold_0 : decode cX3_fold 0 = .ok (.aload_n 0, 1) := by decide +kernel
theorem dX3_fold_1 : decode cX3_fold 1 = .ok (.iload_n 1, 1) := by decide +kernel
theorem dX3_fold_2 : decode cX3_fold 2 = .ok (.invokevirtual 156, 3) := by decide +kernel
theorem dX3_fold_5 : decode cX3_fold 5 = .ok (.ifCond .eq 11, 3) := by decide +kernel
theorem dX3_fold_8 : decode cX3_fold 8 = .ok (.iload_n 1, 1) := by decide +kernel
theorem dX3_fold_9 : decode cX3_fold 9 = .ok (.aload_n 0, 1) := by decide +kernel
theorem dX3_fold_10 : decode cX3_fold 10 = .ok (.getfield 44, 3) := by decide +kernel
theorem dX3_fold_13 : decode cX3_fold 13 = .ok (.if_icmp .ge 13, 3) := by decide +kernel
theorem dX3_fold_16 : decode cX3_fold 16 = .ok (.new 159, 3) := by decide +kernel
theorem dX3_fold_19 : decode cX3_fold 19 = .ok (.dup, 1) := by decide +kernel
theorem dX3_fold_20 : decode cX3_fold 20 = .ok (.ldc 161, 2) := by decide +kernel
theorem dX3_fold_22 : decode cX3_fold 22 = .ok (.invokespecial 163, 3) := by decide +kernel
theorem dX3_fold_25 : decode cX3_fold 25 = .ok (.athrow, 1) := by decide +kernel
theorem dX3_fold_26 : decode cX3_fold 26 = .ok (.iconst 0, 1) := by decide +kernel
theorem dX3_fold_27 : decode cX3_fold 27 = .ok (.istore_n 2, 1) := by decide +kernel
theorem dX3_fold_28 : decode cX3_fold 28 = .ok (.aload_n 0, 1) := by decide +kernel
theorem dX3_fold_29 : decode cX3_fold 29 = .ok (.getfield 44, 3) := by decide +kernel
theorem dX3_fold_32 : decode cX3_fold 32 = .ok (.istore_n 3, 1) := by decide +kernel
theorem dX3_fold_33 : decode cX3_fold 33 = .ok (.iload_n 3, 1) := by decide +kernel
theorem dX3_fold_34 : decode cX3_fold 34 = .ok (.iload_n 1, 1) := by decide +kernel
theorem dX3_fold_35 : decode cX3_fold 35 = .ok (.if_icmp .gt 17, 3) := by decide +kernel
theorem dX3_fold_38 : decode cX3_fold 38 = .ok (.iload_n 2, 1) := by decide +kernel
theorem dX3_fold_39 : decode cX3_fold 39 = .ok (.aload_n 0, 1) := by decide +kernel
theorem dX3_fold_40 : decode cX3_fold 40 = .ok (.iload_n 3, 1) := by decide +kernel
theorem dX3_fold_41 : decode cX3_fold 41 = .ok (.invokevirtual 164, 3) := by decide +kernel
theorem dX3_fold_44 : decode cX3_fold 44 = .ok (.iadd, 1) := by decide +kernel
theorem dX3_fold_45 : decode cX3_fold 45 = .ok (.istore_n 2, 1) := by decide +kernel
theorem dX3_fold_46 : decode cX3_fold 46 = .ok (.iinc 3 1, 3) := by decide +kernel
theorem dX3_fold_49 : decode cX3_fold 49 = .ok (.goto (-16), 3) := by decide +kernel
theorem dX3_fold_52 : decode cX3_fold 52 = .ok (.aload_n 0, 1) := by decide +kernel
theorem dX3_fold_53 : decode cX3_fold 53 = .ok (.iload_n 1, 1) := by decide +kernel
theorem dX3_fold_54 : decode cX3_fold 54 = .ok (.iconst 1, 1) := by decide +kernel
theorem dX3_fold_55 : decode cX3_fold 55 = .ok (.iadd, 1) := by decide +kernel
theorem dX3_fold_56 : decode cX3_fold 56 = .ok (.putfield 44, 3) := by decide +kernel
theorem dX3_fold_59 : decode cX3_fold 59 = .ok (.iload_n 2, 1) := by decide +kernel
theorem dX3_fold_60 : decode cX3_fold 60 = .ok (.ireturn, 1) := by decide +kernel
theorem dX3_day_0 : decode cX3_day 0 = .ok (.aload_n 0, 1) := by decide +kernel
theorem dX3_day_1 : decode cX3_day 1 = .ok (.getfield 38, 3) := by decide +kernel
theorem dX3_day_4 : decode cX3_day 4 = .ok (.ireturn, 1) := by decide +kernel
theorem dX3_fund_0 : decode cX3_fund 0 = .ok (.aload_n 0, 1) := by decide +kernel
theorem dX3_fund_1 : decode cX3_fund 1 = .ok (.getfield 41, 3) := by decide +kernel
theorem dX3_fund_4 : decode cX3_fund 4 = .ok (.ireturn, 1) := by decide +kernel
set_option maxRecDepth 20000 in
theorem ggX3_owed_X3_memberAt : GoodIn wsX3_owed wsX3_memberAt := goodIn_ca (goodIn_r _ [5, 6, 7, 8, 15, 16, 17, 18, 19, 20, 21, 22] (by decide +kernel) (by decide +kernel)) (goodIn_sub (fun _ h => List.mem_cons_of_mem _ (List.mem_append_right _ h)) (by decide +kernel))
set_option maxRecDepth 20000 in
theorem gX3_owed_X3_memberAt : GoodIn wsX3_owed (wsV RX3 73 RX3 yX3_memberAt wsX3_memberAt) := goodIn_app (goodIn_of _ (by decide +kernel)) ggX3_owed_X3_memberAt
set_option maxRecDepth 20000 in
theorem ggX3_owed_X2_sumOwed : GoodIn wsX3_owed wsX2_sumOwed := goodIn_r _ [12, 13, 14, 23, 24, 25, 26, 27, 28, 29, 30, 31, 32] (by decide +kernel) (by decide +kernel)
set_option maxRecDepth 20000 in
theorem gX3_owed_X2_sumOwed_n96 : GoodIn wsX3_owed (wsX2_sumOwed) := ggX3_owed_X2_sumOwed
theorem dX3_owed_0 : decode cX3_owed 0 = .ok (.aload_n 0, 1) := by decide +kernel
theorem dX3_owed_1 : decode cX3_owed 1 = .ok (.iload_n 1, 1) := by decide +kernel
theorem dX3_owed_2 : decode cX3_owed 2 = .ok (.invokevirtual 73, 3) := by decide +kernel
theorem dX3_owed_5 : decode cX3_owed 5 = .ok (.invokevirtual 96, 3) := by decide +kernel
theorem dX3_owed_8 : decode cX3_owed 8 = .ok (.ireturn, 1) := by decide +kernel
set_option maxRecDepth 20000 in
theorem ggX3_credit_X3_memberAt : GoodIn wsX3_credit wsX3_memberAt := goodIn_ca (goodIn_r _ [5, 6, 7, 8, 19, 20, 21, 22, 23, 24, 25, 26] (by decide +kernel) (by decide +kernel)) (goodIn_sub (fun _ h => List.mem_cons_of_mem _ (List.mem_append_right _ h)) (by decide +kernel))
set_option maxRecDepth 20000 in
theorem gX3_credit_X3_memberAt : GoodIn wsX3_credit (wsV RX3 73 RX3 yX3_memberAt wsX3_memberAt) := goodIn_app (goodIn_of _ (by decide +kernel)) ggX3_credit_X3_memberAt
theorem dX3_credit_0 : decode cX3_credit 0 = .ok (.aload_n 0, 1) := by decide +kernel
theorem dX3_credit_1 : decode cX3_credit 1 = .ok (.iload_n 1, 1) := by decide +kernel
theorem dX3_credit_2 : decode cX3_credit 2 = .ok (.invokevirtual 73, 3) := by decide +kernel
theorem dX3_credit_5 : decode cX3_credit 5 = .ok (.getfield 167, 3) := by decide +kernel
theorem dX3_credit_8 : decode cX3_credit 8 = .ok (.ireturn, 1) := by decide +kernel
set_option maxRecDepth 20000 in
theorem ggX3_laid_X3_memberAt : GoodIn wsX3_laid wsX3_memberAt := goodIn_ca (goodIn_r _ [8, 9, 10, 11, 21, 22, 23, 24, 25, 26, 27, 28] (by decide +kernel) (by decide +kernel)) (goodIn_sub (fun _ h => List.mem_cons_of_mem _ (List.mem_append_right _ h)) (by decide +kernel))
set_option maxRecDepth 20000 in
theorem gX3_laid_X3_memberAt : GoodIn wsX3_laid (wsV RX3 73 RX3 yX3_memberAt wsX3_memberAt) := goodIn_app (goodIn_of _ (by decide +kernel)) ggX3_laid_X3_memberAt
set_option maxRecDepth 20000 in
theorem ggX3_laid_X3_checkEnded : GoodIn wsX3_laid wsX3_checkEnded := goodIn_ca (goodIn_r _ [15, 9, 10, 16, 17, 18, 7, 19, 20, 21, 22, 23, 24, 25, 26, 27, 28] (by decide +kernel) (by decide +kernel)) (goodIn_sub (fun _ h => List.mem_cons_of_mem _ (List.mem_append_right _ h)) (by decide +kernel))
set_option maxRecDepth 20000 in
theorem gX3_laid_X3_checkEnded : GoodIn wsX3_laid (wsV RX3 170 RX3 yX3_checkEnded wsX3_checkEnded) := goodIn_app (goodIn_of _ (by decide +kernel)) ggX3_laid_X3_checkEnded
theorem dX3_laid_0 : decode cX3_laid 0 = .ok (.aload_n 0, 1) := by decide +kernel
theorem dX3_laid_1 : decode cX3_laid 1 = .ok (.iload_n 1, 1) := by decide +kernel
theorem dX3_laid_2 : decode cX3_laid 2 = .ok (.invokevirtual 73, 3) := by decide +kernel
theorem dX3_laid_5 : decode cX3_laid 5 = .ok (.astore_n 3, 1) := by decide +kernel
theorem dX3_laid_6 : decode cX3_laid 6 = .ok (.aload_n 0, 1) := by decide +kernel
theorem dX3_laid_7 : decode cX3_laid 7 = .ok (.iload_n 2, 1) := by decide +kernel
theorem dX3_laid_8 : decode cX3_laid 8 = .ok (.invokevirtual 170, 3) := by decide +kernel
theorem dX3_laid_11 : decode cX3_laid 11 = .ok (.iload_n 2, 1) := by decide +kernel
theorem dX3_laid_12 : decode cX3_laid 12 = .ok (.aload_n 0, 1) := by decide +kernel
theorem dX3_laid_13 : decode cX3_laid 13 = .ok (.getfield 44, 3) := by decide +kernel
theorem dX3_laid_16 : decode cX3_laid 16 = .ok (.if_icmp .ge 13, 3) := by decide +kernel
theorem dX3_laid_19 : decode cX3_laid 19 = .ok (.new 63, 3) := by decide +kernel
theorem dX3_laid_22 : decode cX3_laid 22 = .ok (.dup, 1) := by decide +kernel
theorem dX3_laid_23 : decode cX3_laid 23 = .ok (.ldc 173, 2) := by decide +kernel
theorem dX3_laid_25 : decode cX3_laid 25 = .ok (.invokespecial 67, 3) := by decide +kernel
theorem dX3_laid_28 : decode cX3_laid 28 = .ok (.athrow, 1) := by decide +kernel
theorem dX3_laid_29 : decode cX3_laid 29 = .ok (.aload_n 3, 1) := by decide +kernel
theorem dX3_laid_30 : decode cX3_laid 30 = .ok (.getfield 175, 3) := by decide +kernel
theorem dX3_laid_33 : decode cX3_laid 33 = .ok (.iload_n 2, 1) := by decide +kernel
theorem dX3_laid_34 : decode cX3_laid 34 = .ok (.iaload, 1) := by decide +kernel
theorem dX3_laid_35 : decode cX3_laid 35 = .ok (.ireturn, 1) := by decide +kernel
set_option maxRecDepth 20000 in
theorem ggX3_laidFor_X3_branchAt : GoodIn wsX3_laidFor wsX3_branchAt := goodIn_ca (goodIn_r _ [5, 6, 7, 8, 25, 26, 27, 28, 29, 30, 31, 32] (by decide +kernel) (by decide +kernel)) (goodIn_sub (fun _ h => List.mem_cons_of_mem _ (List.mem_append_right _ h)) (by decide +kernel))
set_option maxRecDepth 20000 in
theorem gX3_laidFor_X3_branchAt : GoodIn wsX3_laidFor (wsV RX3 59 RX3 yX3_branchAt wsX3_branchAt) := goodIn_app (goodIn_of _ (by decide +kernel)) ggX3_laidFor_X3_branchAt
set_option maxRecDepth 20000 in
theorem ggX3_laidFor_X3_checkEnded : GoodIn wsX3_laidFor wsX3_checkEnded := goodIn_ca (goodIn_r _ [12, 6, 7, 13, 14, 15, 4, 16, 17, 25, 26, 27, 28, 29, 30, 31, 32] (by decide +kernel) (by decide +kernel)) (goodIn_sub (fun _ h => List.mem_cons_of_mem _ (List.mem_append_right _ h)) (by decide +kernel))
set_option maxRecDepth 20000 in
theorem gX3_laidFor_X3_checkEnded : GoodIn wsX3_laidFor (wsV RX3 170 RX3 yX3_checkEnded wsX3_checkEnded) := goodIn_app (goodIn_of _ (by decide +kernel)) ggX3_laidFor_X3_checkEnded
theorem dX3_laidFor_0 : decode cX3_laidFor 0 = .ok (.aload_n 0, 1) := by decide +kernel
theorem dX3_laidFor_1 : decode cX3_laidFor 1 = .ok (.iload_n 1, 1) := by decide +kernel
theorem dX3_laidFor_2 : decode cX3_laidFor 2 = .ok (.invokevirtual 59, 3) := by decide +kernel
theorem dX3_laidFor_5 : decode cX3_laidFor 5 = .ok (.astore_n 3, 1) := by decide +kernel
theorem dX3_laidFor_6 : decode cX3_laidFor 6 = .ok (.aload_n 0, 1) := by decide +kernel
theorem dX3_laidFor_7 : decode cX3_laidFor 7 = .ok (.iload_n 2, 1) := by decide +kernel
theorem dX3_laidFor_8 : decode cX3_laidFor 8 = .ok (.invokevirtual 170, 3) := by decide +kernel
theorem dX3_laidFor_11 : decode cX3_laidFor 11 = .ok (.aload_n 3, 1) := by decide +kernel
theorem dX3_laidFor_12 : decode cX3_laidFor 12 = .ok (.getfield 179, 3) := by decide +kernel
theorem dX3_laidFor_15 : decode cX3_laidFor 15 = .ok (.iload_n 2, 1) := by decide +kernel
theorem dX3_laidFor_16 : decode cX3_laidFor 16 = .ok (.iaload, 1) := by decide +kernel
theorem dX3_laidFor_17 : decode cX3_laidFor 17 = .ok (.ireturn, 1) := by decide +kernel
set_option maxRecDepth 20000 in
theorem ggX3_hasStanding_X3_memberAt : GoodIn wsX3_hasStanding wsX3_memberAt := goodIn_ca (goodIn_r _ [6, 7, 8, 9, 16, 17, 18, 19, 20, 21, 22, 23] (by decide +kernel) (by decide +kernel)) (goodIn_sub (fun _ h => List.mem_cons_of_mem _ (List.mem_append_right _ h)) (by decide +kernel))
set_option maxRecDepth 20000 in
theorem gX3_hasStanding_X3_memberAt : GoodIn wsX3_hasStanding (wsV RX3 73 RX3 yX3_memberAt wsX3_memberAt) := goodIn_app (goodIn_of _ (by decide +kernel)) ggX3_hasStanding_X3_memberAt
set_option maxRecDepth 20000 in
theorem ggX3_hasStanding_X2_standsOn : GoodIn wsX3_hasStanding wsX2_standsOn := goodIn_r _ [13, 14, 15, 24, 25, 26, 27, 28, 29, 30, 31, 32, 33] (by decide +kernel) (by decide +kernel)
set_option maxRecDepth 20000 in
theorem gX3_hasStanding_X2_standsOn_n120 : GoodIn wsX3_hasStanding (wsX2_standsOn) := ggX3_hasStanding_X2_standsOn
theorem dX3_hasStanding_0 : decode cX3_hasStanding 0 = .ok (.aload_n 0, 1) := by decide +kernel
theorem dX3_hasStanding_1 : decode cX3_hasStanding 1 = .ok (.iload_n 1, 1) := by decide +kernel
theorem dX3_hasStanding_2 : decode cX3_hasStanding 2 = .ok (.invokevirtual 73, 3) := by decide +kernel
theorem dX3_hasStanding_5 : decode cX3_hasStanding 5 = .ok (.aload_n 0, 1) := by decide +kernel
theorem dX3_hasStanding_6 : decode cX3_hasStanding 6 = .ok (.getfield 38, 3) := by decide +kernel
theorem dX3_hasStanding_9 : decode cX3_hasStanding 9 = .ok (.invokevirtual 120, 3) := by decide +kernel
theorem dX3_hasStanding_12 : decode cX3_hasStanding 12 = .ok (.ireturn, 1) := by decide +kernel
set_option maxRecDepth 20000 in
theorem ggX3_strikePay_X3_memberAt : GoodIn wsX3_strikePay wsX3_memberAt := goodIn_ca (goodIn_r _ [5, 6, 7, 8, 19, 20, 21, 22, 23, 24, 25, 26] (by decide +kernel) (by decide +kernel)) (goodIn_sub (fun _ h => List.mem_cons_of_mem _ (List.mem_append_right _ h)) (by decide +kernel))
set_option maxRecDepth 20000 in
theorem gX3_strikePay_X3_memberAt : GoodIn wsX3_strikePay (wsV RX3 73 RX3 yX3_memberAt wsX3_memberAt) := goodIn_app (goodIn_of _ (by decide +kernel)) ggX3_strikePay_X3_memberAt
theorem dX3_strikePay_0 : decode cX3_strikePay 0 = .ok (.aload_n 0, 1) := by decide +kernel
theorem dX3_strikePay_1 : decode cX3_strikePay 1 = .ok (.iload_n 1, 1) := by decide +kernel
theorem dX3_strikePay_2 : decode cX3_strikePay 2 = .ok (.invokevirtual 73, 3) := by decide +kernel
theorem dX3_strikePay_5 : decode cX3_strikePay 5 = .ok (.getfield 180, 3) := by decide +kernel
theorem dX3_strikePay_8 : decode cX3_strikePay 8 = .ok (.ireturn, 1) := by decide +kernel
set_option maxRecDepth 20000 in
theorem ggX3_delegates_X3_branchAt : GoodIn wsX3_delegates wsX3_branchAt := goodIn_ca (goodIn_r _ [5, 6, 7, 8, 16, 17, 18, 19, 20, 21, 22, 23] (by decide +kernel) (by decide +kernel)) (goodIn_sub (fun _ h => List.mem_cons_of_mem _ (List.mem_append_right _ h)) (by decide +kernel))
set_option maxRecDepth 20000 in
theorem gX3_delegates_X3_branchAt : GoodIn wsX3_delegates (wsV RX3 59 RX3 yX3_branchAt wsX3_branchAt) := goodIn_app (goodIn_of _ (by decide +kernel)) ggX3_delegates_X3_branchAt
theorem dX3_delegates_0 : decode cX3_delegates 0 = .ok (.aload_n 0, 1) := by decide +kernel
theorem dX3_delegates_1 : decode cX3_delegates 1 = .ok (.iload_n 1, 1) := by decide +kernel
theorem dX3_delegates_2 : decode cX3_delegates 2 = .ok (.invokevirtual 59, 3) := by decide +kernel
theorem dX3_delegates_5 : decode cX3_delegates 5 = .ok (.getfield 183, 3) := by decide +kernel
theorem dX3_delegates_8 : decode cX3_delegates 8 = .ok (.ireturn, 1) := by decide +kernel
set_option maxRecDepth 20000 in
theorem ggX3_isOut_X3_branchAt : GoodIn wsX3_isOut wsX3_branchAt := goodIn_ca (goodIn_r _ [5, 6, 7, 8, 16, 17, 18, 19, 20, 21, 22, 23] (by decide +kernel) (by decide +kernel)) (goodIn_sub (fun _ h => List.mem_cons_of_mem _ (List.mem_append_right _ h)) (by decide +kernel))
set_option maxRecDepth 20000 in
theorem gX3_isOut_X3_branchAt : GoodIn wsX3_isOut (wsV RX3 59 RX3 yX3_branchAt wsX3_branchAt) := goodIn_app (goodIn_of _ (by decide +kernel)) ggX3_isOut_X3_branchAt
theorem dX3_isOut_0 : decode cX3_isOut 0 = .ok (.aload_n 0, 1) := by decide +kernel
theorem dX3_isOut_1 : decode cX3_isOut 1 = .ok (.iload_n 1, 1) := by decide +kernel
theorem dX3_isOut_2 : decode cX3_isOut 2 = .ok (.invokevirtual 59, 3) := by decide +kernel
theorem dX3_isOut_5 : decode cX3_isOut 5 = .ok (.getfield 108, 3) := by decide +kernel
theorem dX3_isOut_8 : decode cX3_isOut 8 = .ok (.ireturn, 1) := by decide +kernel
theorem dX3_bandAt_0 : decode cX3_bandAt 0 = .ok (.iload_n 1, 1) := by decide +kernel
theorem dX3_bandAt_1 : decode cX3_bandAt 1 = .ok (.ifCond .lt 12, 3) := by decide +kernel
theorem dX3_bandAt_4 : decode cX3_bandAt 4 = .ok (.iload_n 1, 1) := by decide +kernel
theorem dX3_bandAt_5 : decode cX3_bandAt 5 = .ok (.aload_n 0, 1) := by decide +kernel
theorem dX3_bandAt_6 : decode cX3_bandAt 6 = .ok (.getfield 14, 3) := by decide +kernel
theorem dX3_bandAt_9 : decode cX3_bandAt 9 = .ok (.arraylength, 1) := by decide +kernel
theorem dX3_bandAt_10 : decode cX3_bandAt 10 = .ok (.if_icmp .lt 13, 3) := by decide +kernel
theorem dX3_bandAt_13 : decode cX3_bandAt 13 = .ok (.new 186, 3) := by decide +kernel
theorem dX3_bandAt_16 : decode cX3_bandAt 16 = .ok (.dup, 1) := by decide +kernel
theorem dX3_bandAt_17 : decode cX3_bandAt 17 = .ok (.ldc 188, 2) := by decide +kernel
theorem dX3_bandAt_19 : decode cX3_bandAt 19 = .ok (.invokespecial 190, 3) := by decide +kernel
theorem dX3_bandAt_22 : decode cX3_bandAt 22 = .ok (.athrow, 1) := by decide +kernel
theorem dX3_bandAt_23 : decode cX3_bandAt 23 = .ok (.aload_n 0, 1) := by decide +kernel
theorem dX3_bandAt_24 : decode cX3_bandAt 24 = .ok (.getfield 14, 3) := by decide +kernel
theorem dX3_bandAt_27 : decode cX3_bandAt 27 = .ok (.iload_n 1, 1) := by decide +kernel
theorem dX3_bandAt_28 : decode cX3_bandAt 28 = .ok (.aaload, 1) := by decide +kernel
theorem dX3_bandAt_29 : decode cX3_bandAt 29 = .ok (.areturn, 1) := by decide +kernel
theorem dX3_branchAt_0 : decode cX3_branchAt 0 = .ok (.iload_n 1, 1) := by decide +kernel
theorem dX3_branchAt_1 : decode cX3_branchAt 1 = .ok (.ifCond .lt 12, 3) := by decide +kernel
theorem dX3_branchAt_4 : decode cX3_branchAt 4 = .ok (.iload_n 1, 1) := by decide +kernel
theorem dX3_branchAt_5 : decode cX3_branchAt 5 = .ok (.aload_n 0, 1) := by decide +kernel
theorem dX3_branchAt_6 : decode cX3_branchAt 6 = .ok (.getfield 21, 3) := by decide +kernel
theorem dX3_branchAt_9 : decode cX3_branchAt 9 = .ok (.arraylength, 1) := by decide +kernel
theorem dX3_branchAt_10 : decode cX3_branchAt 10 = .ok (.if_icmp .lt 13, 3) := by decide +kernel
theorem dX3_branchAt_13 : decode cX3_branchAt 13 = .ok (.new 186, 3) := by decide +kernel
theorem dX3_branchAt_16 : decode cX3_branchAt 16 = .ok (.dup, 1) := by decide +kernel
theorem dX3_branchAt_17 : decode cX3_branchAt 17 = .ok (.ldc 191, 2) := by decide +kernel
theorem dX3_branchAt_19 : decode cX3_branchAt 19 = .ok (.invokespecial 190, 3) := by decide +kernel
theorem dX3_branchAt_22 : decode cX3_branchAt 22 = .ok (.athrow, 1) := by decide +kernel
theorem dX3_branchAt_23 : decode cX3_branchAt 23 = .ok (.aload_n 0, 1) := by decide +kernel
theorem dX3_branchAt_24 : decode cX3_branchAt 24 = .ok (.getfield 21, 3) := by decide +kernel
theorem dX3_branchAt_27 : decode cX3_branchAt 27 = .ok (.iload_n 1, 1) := by decide +kernel
theorem dX3_branchAt_28 : decode cX3_branchAt 28 = .ok (.aaload, 1) := by decide +kernel
theorem dX3_branchAt_29 : decode cX3_branchAt 29 = .ok (.areturn, 1) := by decide +kernel
theorem dX3_memberAt_0 : decode cX3_memberAt 0 = .ok (.iload_n 1, 1) := by decide +kernel
theorem dX3_memberAt_1 : decode cX3_memberAt 1 = .ok (.ifCond .lt 21, 3) := by decide +kernel
theorem dX3_memberAt_4 : decode cX3_memberAt 4 = .ok (.iload_n 1, 1) := by decide +kernel
theorem dX3_memberAt_5 : decode cX3_memberAt 5 = .ok (.aload_n 0, 1) := by decide +kernel
theorem dX3_memberAt_6 : decode cX3_memberAt 6 = .ok (.getfield 27, 3) := by decide +kernel
theorem dX3_memberAt_9 : decode cX3_memberAt 9 = .ok (.arraylength, 1) := by decide +kernel
theorem dX3_memberAt_10 : decode cX3_memberAt 10 = .ok (.if_icmp .ge 12, 3) := by decide +kernel
theorem dX3_memberAt_13 : decode cX3_memberAt 13 = .ok (.aload_n 0, 1) := by decide +kernel
theorem dX3_memberAt_14 : decode cX3_memberAt 14 = .ok (.getfield 27, 3) := by decide +kernel
theorem dX3_memberAt_17 : decode cX3_memberAt 17 = .ok (.iload_n 1, 1) := by decide +kernel
theorem dX3_memberAt_18 : decode cX3_memberAt 18 = .ok (.aaload, 1) := by decide +kernel
theorem dX3_memberAt_19 : decode cX3_memberAt 19 = .ok (.ifnonnull 13, 3) := by decide +kernel
theorem dX3_memberAt_22 : decode cX3_memberAt 22 = .ok (.new 186, 3) := by decide +kernel
theorem dX3_memberAt_25 : decode cX3_memberAt 25 = .ok (.dup, 1) := by decide +kernel
theorem dX3_memberAt_26 : decode cX3_memberAt 26 = .ok (.ldc 193, 2) := by decide +kernel
theorem dX3_memberAt_28 : decode cX3_memberAt 28 = .ok (.invokespecial 190, 3) := by decide +kernel
theorem dX3_memberAt_31 : decode cX3_memberAt 31 = .ok (.athrow, 1) := by decide +kernel
theorem dX3_memberAt_32 : decode cX3_memberAt 32 = .ok (.aload_n 0, 1) := by decide +kernel
theorem dX3_memberAt_33 : decode cX3_memberAt 33 = .ok (.getfield 27, 3) := by decide +kernel
theorem dX3_memberAt_36 : decode cX3_memberAt 36 = .ok (.iload_n 1, 1) := by decide +kernel
theorem dX3_memberAt_37 : decode cX3_memberAt 37 = .ok (.aaload, 1) := by decide +kernel
theorem dX3_memberAt_38 : decode cX3_memberAt 38 = .ok (.areturn, 1) := by decide +kernel
theorem dX3_checkNotLeft_0 : decode cX3_checkNotLeft 0 = .ok (.aload_n 1, 1) := by decide +kernel
theorem dX3_checkNotLeft_1 : decode cX3_checkNotLeft 1 = .ok (.getfield 93, 3) := by decide +kernel
theorem dX3_checkNotLeft_4 : decode cX3_checkNotLeft 4 = .ok (.ifCond .eq 13, 3) := by decide +kernel
theorem dX3_checkNotLeft_7 : decode cX3_checkNotLeft 7 = .ok (.new 63, 3) := by decide +kernel
theorem dX3_checkNotLeft_10 : decode cX3_checkNotLeft 10 = .ok (.dup, 1) := by decide +kernel
theorem dX3_checkNotLeft_11 : decode cX3_checkNotLeft 11 = .ok (.ldc 195, 2) := by decide +kernel
theorem dX3_checkNotLeft_13 : decode cX3_checkNotLeft 13 = .ok (.invokespecial 67, 3) := by decide +kernel
theorem dX3_checkNotLeft_16 : decode cX3_checkNotLeft 16 = .ok (.athrow, 1) := by decide +kernel
theorem dX3_checkNotLeft_17 : decode cX3_checkNotLeft 17 = .ok (.return_, 1) := by decide +kernel
theorem dX3_checkRange_0 : decode cX3_checkRange 0 = .ok (.iload_n 1, 1) := by decide +kernel
theorem dX3_checkRange_1 : decode cX3_checkRange 1 = .ok (.iload_n 2, 1) := by decide +kernel
theorem dX3_checkRange_2 : decode cX3_checkRange 2 = .ok (.if_icmp .lt 8, 3) := by decide +kernel
theorem dX3_checkRange_5 : decode cX3_checkRange 5 = .ok (.iload_n 1, 1) := by decide +kernel
theorem dX3_checkRange_6 : decode cX3_checkRange 6 = .ok (.iload_n 3, 1) := by decide +kernel
theorem dX3_checkRange_7 : decode cX3_checkRange 7 = .ok (.if_icmp .le 13, 3) := by decide +kernel
theorem dX3_checkRange_10 : decode cX3_checkRange 10 = .ok (.new 159, 3) := by decide +kernel
theorem dX3_checkRange_13 : decode cX3_checkRange 13 = .ok (.dup, 1) := by decide +kernel
theorem dX3_checkRange_14 : decode cX3_checkRange 14 = .ok (.ldc 197, 2) := by decide +kernel
theorem dX3_checkRange_16 : decode cX3_checkRange 16 = .ok (.invokespecial 163, 3) := by decide +kernel
theorem dX3_checkRange_19 : decode cX3_checkRange 19 = .ok (.athrow, 1) := by decide +kernel
theorem dX3_checkRange_20 : decode cX3_checkRange 20 = .ok (.return_, 1) := by decide +kernel
set_option maxRecDepth 20000 in
theorem ggX3_checkEnded_X3_hasEnded : GoodIn wsX3_checkEnded wsX3_hasEnded := goodIn_r _ [7, 8, 9, 10, 11, 12, 13, 14, 15, 16] (by decide +kernel) (by decide +kernel)
set_option maxRecDepth 20000 in
theorem gX3_checkEnded_X3_hasEnded : GoodIn wsX3_checkEnded (wsV RX3 156 RX3 yX3_hasEnded wsX3_hasEnded) := goodIn_app (goodIn_of _ (by decide +kernel)) ggX3_checkEnded_X3_hasEnded
theorem dX3_checkEnded_0 : decode cX3_checkEnded 0 = .ok (.aload_n 0, 1) := by decide +kernel
theorem dX3_checkEnded_1 : decode cX3_checkEnded 1 = .ok (.iload_n 1, 1) := by decide +kernel
theorem dX3_checkEnded_2 : decode cX3_checkEnded 2 = .ok (.invokevirtual 156, 3) := by decide +kernel
theorem dX3_checkEnded_5 : decode cX3_checkEnded 5 = .ok (.ifCond .ne 13, 3) := by decide +kernel
theorem dX3_checkEnded_8 : decode cX3_checkEnded 8 = .ok (.new 186, 3) := by decide +kernel
theorem dX3_checkEnded_11 : decode cX3_checkEnded 11 = .ok (.dup, 1) := by decide +kernel
theorem dX3_checkEnded_12 : decode cX3_checkEnded 12 = .ok (.ldc 199, 2) := by decide +kernel
theorem dX3_checkEnded_14 : decode cX3_checkEnded 14 = .ok (.invokespecial 190, 3) := by decide +kernel
theorem dX3_checkEnded_17 : decode cX3_checkEnded 17 = .ok (.athrow, 1) := by decide +kernel
theorem dX3_checkEnded_18 : decode cX3_checkEnded 18 = .ok (.return_, 1) := by decide +kernel
theorem dX3_hasEnded_0 : decode cX3_hasEnded 0 = .ok (.iload_n 1, 1) := by decide +kernel
theorem dX3_hasEnded_1 : decode cX3_hasEnded 1 = .ok (.ifCond .lt 24, 3) := by decide +kernel
theorem dX3_hasEnded_4 : decode cX3_hasEnded 4 = .ok (.iload_n 1, 1) := by decide +kernel
theorem dX3_hasEnded_5 : decode cX3_hasEnded 5 = .ok (.bipush 60, 2) := by decide +kernel
theorem dX3_hasEnded_7 : decode cX3_hasEnded 7 = .ok (.if_icmp .ge 18, 3) := by decide +kernel
theorem dX3_hasEnded_10 : decode cX3_hasEnded 10 = .ok (.iload_n 1, 1) := by decide +kernel
theorem dX3_hasEnded_11 : decode cX3_hasEnded 11 = .ok (.aload_n 0, 1) := by decide +kernel
theorem dX3_hasEnded_12 : decode cX3_hasEnded 12 = .ok (.getfield 38, 3) := by decide +kernel
theorem dX3_hasEnded_15 : decode cX3_hasEnded 15 = .ok (.bipush 30, 2) := by decide +kernel
theorem dX3_hasEnded_17 : decode cX3_hasEnded 17 = .ok (.idiv, 1) := by decide +kernel
theorem dX3_hasEnded_18 : decode cX3_hasEnded 18 = .ok (.if_icmp .ge 7, 3) := by decide +kernel
theorem dX3_hasEnded_21 : decode cX3_hasEnded 21 = .ok (.iconst 1, 1) := by decide +kernel
theorem dX3_hasEnded_22 : decode cX3_hasEnded 22 = .ok (.goto 4, 3) := by decide +kernel
theorem dX3_hasEnded_25 : decode cX3_hasEnded 25 = .ok (.iconst 0, 1) := by decide +kernel
theorem dX3_hasEnded_26 : decode cX3_hasEnded 26 = .ok (.ireturn, 1) := by decide +kernel
set_option maxRecDepth 20000 in
theorem ggX3_countStanding_X2_standsOn : GoodIn wsX3_countStanding wsX2_standsOn := goodIn_r _ [6, 7, 8, 17, 18, 19, 20, 21, 22, 23, 24, 25, 26] (by decide +kernel) (by decide +kernel)
set_option maxRecDepth 20000 in
theorem gX3_countStanding_X2_standsOn_n120 : GoodIn wsX3_countStanding (wsX2_standsOn) := ggX3_countStanding_X2_standsOn
theorem dX3_countStanding_0 : decode cX3_countStanding 0 = .ok (.iconst 0, 1) := by decide +kernel
theorem dX3_countStanding_1 : decode cX3_countStanding 1 = .ok (.istore_n 2, 1) := by decide +kernel
theorem dX3_countStanding_2 : decode cX3_countStanding 2 = .ok (.aload_n 0, 1) := by decide +kernel
theorem dX3_countStanding_3 : decode cX3_countStanding 3 = .ok (.getfield 27, 3) := by decide +kernel
theorem dX3_countStanding_6 : decode cX3_countStanding 6 = .ok (.astore_n 3, 1) := by decide +kernel
theorem dX3_countStanding_7 : decode cX3_countStanding 7 = .ok (.aload_n 3, 1) := by decide +kernel
theorem dX3_countStanding_8 : decode cX3_countStanding 8 = .ok (.arraylength, 1) := by decide +kernel
theorem dX3_countStanding_9 : decode cX3_countStanding 9 = .ok (.istore 4, 2) := by decide +kernel
theorem dX3_countStanding_11 : decode cX3_countStanding 11 = .ok (.iconst 0, 1) := by decide +kernel
theorem dX3_countStanding_12 : decode cX3_countStanding 12 = .ok (.istore 5, 2) := by decide +kernel
theorem dX3_countStanding_14 : decode cX3_countStanding 14 = .ok (.iload 5, 2) := by decide +kernel
theorem dX3_countStanding_16 : decode cX3_countStanding 16 = .ok (.iload 4, 2) := by decide +kernel
theorem dX3_countStanding_18 : decode cX3_countStanding 18 = .ok (.if_icmp .ge 44, 3) := by decide +kernel
theorem dX3_countStanding_21 : decode cX3_countStanding 21 = .ok (.aload_n 3, 1) := by decide +kernel
theorem dX3_countStanding_22 : decode cX3_countStanding 22 = .ok (.iload 5, 2) := by decide +kernel
theorem dX3_countStanding_24 : decode cX3_countStanding 24 = .ok (.aaload, 1) := by decide +kernel
theorem dX3_countStanding_25 : decode cX3_countStanding 25 = .ok (.astore 6, 2) := by decide +kernel
theorem dX3_countStanding_27 : decode cX3_countStanding 27 = .ok (.aload 6, 2) := by decide +kernel
theorem dX3_countStanding_29 : decode cX3_countStanding 29 = .ok (.ifnull 27, 3) := by decide +kernel
theorem dX3_countStanding_32 : decode cX3_countStanding 32 = .ok (.aload 6, 2) := by decide +kernel
theorem dX3_countStanding_34 : decode cX3_countStanding 34 = .ok (.getfield 81, 3) := by decide +kernel
theorem dX3_countStanding_37 : decode cX3_countStanding 37 = .ok (.aload_n 1, 1) := by decide +kernel
theorem dX3_countStanding_38 : decode cX3_countStanding 38 = .ok (.if_acmp .ne 18, 3) := by decide +kernel
theorem dX3_countStanding_41 : decode cX3_countStanding 41 = .ok (.aload 6, 2) := by decide +kernel
theorem dX3_countStanding_43 : decode cX3_countStanding 43 = .ok (.aload_n 0, 1) := by decide +kernel
theorem dX3_countStanding_44 : decode cX3_countStanding 44 = .ok (.getfield 38, 3) := by decide +kernel
theorem dX3_countStanding_47 : decode cX3_countStanding 47 = .ok (.invokevirtual 120, 3) := by decide +kernel
theorem dX3_countStanding_50 : decode cX3_countStanding 50 = .ok (.ifCond .eq 6, 3) := by decide +kernel
theorem dX3_countStanding_53 : decode cX3_countStanding 53 = .ok (.iinc 2 1, 3) := by decide +kernel
theorem dX3_countStanding_56 : decode cX3_countStanding 56 = .ok (.iinc 5 1, 3) := by decide +kernel
theorem dX3_countStanding_59 : decode cX3_countStanding 59 = .ok (.goto (-45), 3) := by decide +kernel
theorem dX3_countStanding_62 : decode cX3_countStanding 62 = .ok (.iload_n 2, 1) := by decide +kernel
theorem dX3_countStanding_63 : decode cX3_countStanding 63 = .ok (.ireturn, 1) := by decide +kernel
theorem dX3_sumLaidOn_0 : decode cX3_sumLaidOn 0 = .ok (.iconst 0, 1) := by decide +kernel
theorem dX3_sumLaidOn_1 : decode cX3_sumLaidOn 1 = .ok (.istore_n 2, 1) := by decide +kernel
theorem dX3_sumLaidOn_2 : decode cX3_sumLaidOn 2 = .ok (.aload_n 0, 1) := by decide +kernel
theorem dX3_sumLaidOn_3 : decode cX3_sumLaidOn 3 = .ok (.getfield 21, 3) := by decide +kernel
theorem dX3_sumLaidOn_6 : decode cX3_sumLaidOn 6 = .ok (.astore_n 3, 1) := by decide +kernel
theorem dX3_sumLaidOn_7 : decode cX3_sumLaidOn 7 = .ok (.aload_n 3, 1) := by decide +kernel
theorem dX3_sumLaidOn_8 : decode cX3_sumLaidOn 8 = .ok (.arraylength, 1) := by decide +kernel
theorem dX3_sumLaidOn_9 : decode cX3_sumLaidOn 9 = .ok (.istore 4, 2) := by decide +kernel
theorem dX3_sumLaidOn_11 : decode cX3_sumLaidOn 11 = .ok (.iconst 0, 1) := by decide +kernel
theorem dX3_sumLaidOn_12 : decode cX3_sumLaidOn 12 = .ok (.istore 5, 2) := by decide +kernel
theorem dX3_sumLaidOn_14 : decode cX3_sumLaidOn 14 = .ok (.iload 5, 2) := by decide +kernel
theorem dX3_sumLaidOn_16 : decode cX3_sumLaidOn 16 = .ok (.iload 4, 2) := by decide +kernel
theorem dX3_sumLaidOn_18 : decode cX3_sumLaidOn 18 = .ok (.if_icmp .ge 25, 3) := by decide +kernel
theorem dX3_sumLaidOn_21 : decode cX3_sumLaidOn 21 = .ok (.aload_n 3, 1) := by decide +kernel
theorem dX3_sumLaidOn_22 : decode cX3_sumLaidOn 22 = .ok (.iload 5, 2) := by decide +kernel
theorem dX3_sumLaidOn_24 : decode cX3_sumLaidOn 24 = .ok (.aaload, 1) := by decide +kernel
theorem dX3_sumLaidOn_25 : decode cX3_sumLaidOn 25 = .ok (.astore 6, 2) := by decide +kernel
theorem dX3_sumLaidOn_27 : decode cX3_sumLaidOn 27 = .ok (.iload_n 2, 1) := by decide +kernel
theorem dX3_sumLaidOn_28 : decode cX3_sumLaidOn 28 = .ok (.aload 6, 2) := by decide +kernel
theorem dX3_sumLaidOn_30 : decode cX3_sumLaidOn 30 = .ok (.getfield 179, 3) := by decide +kernel
theorem dX3_sumLaidOn_33 : decode cX3_sumLaidOn 33 = .ok (.iload_n 1, 1) := by decide +kernel
theorem dX3_sumLaidOn_34 : decode cX3_sumLaidOn 34 = .ok (.iaload, 1) := by decide +kernel
theorem dX3_sumLaidOn_35 : decode cX3_sumLaidOn 35 = .ok (.iadd, 1) := by decide +kernel
theorem dX3_sumLaidOn_36 : decode cX3_sumLaidOn 36 = .ok (.istore_n 2, 1) := by decide +kernel
theorem dX3_sumLaidOn_37 : decode cX3_sumLaidOn 37 = .ok (.iinc 5 1, 3) := by decide +kernel
theorem dX3_sumLaidOn_40 : decode cX3_sumLaidOn 40 = .ok (.goto (-26), 3) := by decide +kernel
theorem dX3_sumLaidOn_43 : decode cX3_sumLaidOn 43 = .ok (.iload_n 2, 1) := by decide +kernel
theorem dX3_sumLaidOn_44 : decode cX3_sumLaidOn 44 = .ok (.ireturn, 1) := by decide +kernel
set_option maxRecDepth 20000 in
theorem ggX3_endDay_X3_payStrikers : GoodIn wsX3_endDay wsX3_payStrikers := goodIn_r _ [6, 7, 1, 8, 9, 10, 11, 12, 13, 14, 15, 49, 50, 51, 52, 53, 54, 55, 56, 57, 58, 59, 60, 61, 62, 63, 64, 65, 66, 67, 68, 69, 70, 71, 72, 73] (by decide +kernel) (by decide +kernel)
set_option maxRecDepth 20000 in
theorem gX3_endDay_X3_payStrikers : GoodIn wsX3_endDay (wsV RX3 201 RX3 yX3_payStrikers wsX3_payStrikers) := goodIn_app (goodIn_of _ (by decide +kernel)) ggX3_endDay_X3_payStrikers
set_option maxRecDepth 20000 in
theorem ggX3_endDay_X3_chargeDues : GoodIn wsX3_endDay wsX3_chargeDues := goodIn_r _ [19, 7, 8, 20, 11, 21, 22, 23, 24, 14, 25, 26, 27, 28, 29, 30, 31, 32, 33, 34, 35, 36, 37, 38, 39, 49, 50, 51, 52, 53, 54, 55, 56, 57, 58, 59, 60, 61, 62, 63, 64, 65, 66, 74, 67, 68, 69, 70, 71, 72, 73] (by decide +kernel) (by decide +kernel)
set_option maxRecDepth 20000 in
theorem gX3_endDay_X3_chargeDues : GoodIn wsX3_endDay (wsV RX3 204 RX3 yX3_chargeDues wsX3_chargeDues) := goodIn_app (goodIn_of _ (by decide +kernel)) ggX3_endDay_X3_chargeDues
set_option maxRecDepth 20000 in
theorem ggX3_endDay_X3_countDelegates : GoodIn wsX3_endDay wsX3_countDelegates := goodIn_r _ [43, 44, 45, 46, 47, 5, 48, 7, 1, 10, 11, 12, 13, 14, 15, 49, 50, 51, 52, 53, 54, 55, 56, 67, 68, 69, 70, 71, 72, 73, 57, 58, 59, 60, 61, 62, 63, 64, 65, 66] (by decide +kernel) (by decide +kernel)
set_option maxRecDepth 20000 in
theorem gX3_endDay_X3_countDelegates : GoodIn wsX3_endDay (wsV RX3 207 RX3 yX3_countDelegates wsX3_countDelegates) := goodIn_app (goodIn_of _ (by decide +kernel)) ggX3_endDay_X3_countDelegates
theorem dX3_endDay_0 : decode cX3_endDay 0 = .ok (.aload_n 0, 1) := by decide +kernel
theorem dX3_endDay_1 : decode cX3_endDay 1 = .ok (.invokevirtual 201, 3) := by decide +kernel
theorem dX3_endDay_4 : decode cX3_endDay 4 = .ok (.aload_n 0, 1) := by decide +kernel
theorem dX3_endDay_5 : decode cX3_endDay 5 = .ok (.getfield 38, 3) := by decide +kernel
theorem dX3_endDay_8 : decode cX3_endDay 8 = .ok (.bipush 30, 2) := by decide +kernel
theorem dX3_endDay_10 : decode cX3_endDay 10 = .ok (.irem, 1) := by decide +kernel
theorem dX3_endDay_11 : decode cX3_endDay 11 = .ok (.bipush 29, 2) := by decide +kernel
theorem dX3_endDay_13 : decode cX3_endDay 13 = .ok (.if_icmp .ne 14, 3) := by decide +kernel
theorem dX3_endDay_16 : decode cX3_endDay 16 = .ok (.aload_n 0, 1) := by decide +kernel
theorem dX3_endDay_17 : decode cX3_endDay 17 = .ok (.aload_n 0, 1) := by decide +kernel
theorem dX3_endDay_18 : decode cX3_endDay 18 = .ok (.getfield 38, 3) := by decide +kernel
theorem dX3_endDay_21 : decode cX3_endDay 21 = .ok (.bipush 30, 2) := by decide +kernel
theorem dX3_endDay_23 : decode cX3_endDay 23 = .ok (.idiv, 1) := by decide +kernel
theorem dX3_endDay_24 : decode cX3_endDay 24 = .ok (.invokevirtual 204, 3) := by decide +kernel
theorem dX3_endDay_27 : decode cX3_endDay 27 = .ok (.aload_n 0, 1) := by decide +kernel
theorem dX3_endDay_28 : decode cX3_endDay 28 = .ok (.dup, 1) := by decide +kernel
theorem dX3_endDay_29 : decode cX3_endDay 29 = .ok (.getfield 38, 3) := by decide +kernel
theorem dX3_endDay_32 : decode cX3_endDay 32 = .ok (.iconst 1, 1) := by decide +kernel
theorem dX3_endDay_33 : decode cX3_endDay 33 = .ok (.iadd, 1) := by decide +kernel
theorem dX3_endDay_34 : decode cX3_endDay 34 = .ok (.putfield 38, 3) := by decide +kernel
theorem dX3_endDay_37 : decode cX3_endDay 37 = .ok (.aload_n 0, 1) := by decide +kernel
theorem dX3_endDay_38 : decode cX3_endDay 38 = .ok (.getfield 38, 3) := by decide +kernel
theorem dX3_endDay_41 : decode cX3_endDay 41 = .ok (.sipush 360, 3) := by decide +kernel
theorem dX3_endDay_44 : decode cX3_endDay 44 = .ok (.irem, 1) := by decide +kernel
theorem dX3_endDay_45 : decode cX3_endDay 45 = .ok (.ifCond .ne 7, 3) := by decide +kernel
theorem dX3_endDay_48 : decode cX3_endDay 48 = .ok (.aload_n 0, 1) := by decide +kernel
theorem dX3_endDay_49 : decode cX3_endDay 49 = .ok (.invokevirtual 207, 3) := by decide +kernel
theorem dX3_endDay_52 : decode cX3_endDay 52 = .ok (.return_, 1) := by decide +kernel
set_option maxRecDepth 20000 in
theorem ggX3_payStrikers_X2_standsOn : GoodIn wsX3_payStrikers wsX2_standsOn := goodIn_r _ [8, 9, 10, 19, 20, 21, 22, 23, 24, 25, 26, 27, 28] (by decide +kernel) (by decide +kernel)
set_option maxRecDepth 20000 in
theorem gX3_payStrikers_X2_standsOn_n120 : GoodIn wsX3_payStrikers (wsX2_standsOn) := ggX3_payStrikers_X2_standsOn
theorem dX3_payStrikers_0 : decode cX3_payStrikers 0 = .ok (.aload_n 0, 1) := by decide +kernel
theorem dX3_payStrikers_1 : decode cX3_payStrikers 1 = .ok (.getfield 27, 3) := by decide +kernel
theorem dX3_payStrikers_4 : decode cX3_payStrikers 4 = .ok (.astore_n 1, 1) := by decide +kernel
theorem dX3_payStrikers_5 : decode cX3_payStrikers 5 = .ok (.aload_n 1, 1) := by decide +kernel
theorem dX3_payStrikers_6 : decode cX3_payStrikers 6 = .ok (.arraylength, 1) := by decide +kernel
theorem dX3_payStrikers_7 : decode cX3_payStrikers 7 = .ok (.istore_n 2, 1) := by decide +kernel
theorem dX3_payStrikers_8 : decode cX3_payStrikers 8 = .ok (.iconst 0, 1) := by decide +kernel
theorem dX3_payStrikers_9 : decode cX3_payStrikers 9 = .ok (.istore_n 3, 1) := by decide +kernel
theorem dX3_payStrikers_10 : decode cX3_payStrikers 10 = .ok (.iload_n 3, 1) := by decide +kernel
theorem dX3_payStrikers_11 : decode cX3_payStrikers 11 = .ok (.iload_n 2, 1) := by decide +kernel
theorem dX3_payStrikers_12 : decode cX3_payStrikers 12 = .ok (.if_icmp .ge 80, 3) := by decide +kernel
theorem dX3_payStrikers_15 : decode cX3_payStrikers 15 = .ok (.aload_n 1, 1) := by decide +kernel
theorem dX3_payStrikers_16 : decode cX3_payStrikers 16 = .ok (.iload_n 3, 1) := by decide +kernel
theorem dX3_payStrikers_17 : decode cX3_payStrikers 17 = .ok (.aaload, 1) := by decide +kernel
theorem dX3_payStrikers_18 : decode cX3_payStrikers 18 = .ok (.astore 4, 2) := by decide +kernel
theorem dX3_payStrikers_20 : decode cX3_payStrikers 20 = .ok (.aload 4, 2) := by decide +kernel
theorem dX3_payStrikers_22 : decode cX3_payStrikers 22 = .ok (.ifnull 64, 3) := by decide +kernel
theorem dX3_payStrikers_25 : decode cX3_payStrikers 25 = .ok (.aload 4, 2) := by decide +kernel
theorem dX3_payStrikers_27 : decode cX3_payStrikers 27 = .ok (.getfield 81, 3) := by decide +kernel
theorem dX3_payStrikers_30 : decode cX3_payStrikers 30 = .ok (.getfield 108, 3) := by decide +kernel
theorem dX3_payStrikers_33 : decode cX3_payStrikers 33 = .ok (.ifCond .eq 53, 3) := by decide +kernel
theorem dX3_payStrikers_36 : decode cX3_payStrikers 36 = .ok (.aload 4, 2) := by decide +kernel
theorem dX3_payStrikers_38 : decode cX3_payStrikers 38 = .ok (.aload_n 0, 1) := by decide +kernel
theorem dX3_payStrikers_39 : decode cX3_payStrikers 39 = .ok (.getfield 38, 3) := by decide +kernel
theorem dX3_payStrikers_42 : decode cX3_payStrikers 42 = .ok (.invokevirtual 120, 3) := by decide +kernel
theorem dX3_payStrikers_45 : decode cX3_payStrikers 45 = .ok (.ifCond .eq 41, 3) := by decide +kernel
theorem dX3_payStrikers_48 : decode cX3_payStrikers 48 = .ok (.aload_n 0, 1) := by decide +kernel
theorem dX3_payStrikers_49 : decode cX3_payStrikers 49 = .ok (.getfield 41, 3) := by decide +kernel
theorem dX3_payStrikers_52 : decode cX3_payStrikers 52 = .ok (.aload_n 0, 1) := by decide +kernel
theorem dX3_payStrikers_53 : decode cX3_payStrikers 53 = .ok (.getfield 35, 3) := by decide +kernel
theorem dX3_payStrikers_56 : decode cX3_payStrikers 56 = .ok (.if_icmp .lt 30, 3) := by decide +kernel
theorem dX3_payStrikers_59 : decode cX3_payStrikers 59 = .ok (.aload_n 0, 1) := by decide +kernel
theorem dX3_payStrikers_60 : decode cX3_payStrikers 60 = .ok (.dup, 1) := by decide +kernel
theorem dX3_payStrikers_61 : decode cX3_payStrikers 61 = .ok (.getfield 41, 3) := by decide +kernel
theorem dX3_payStrikers_64 : decode cX3_payStrikers 64 = .ok (.aload_n 0, 1) := by decide +kernel
theorem dX3_payStrikers_65 : decode cX3_payStrikers 65 = .ok (.getfield 35, 3) := by decide +kernel
theorem dX3_payStrikers_68 : decode cX3_payStrikers 68 = .ok (.isub, 1) := by decide +kernel
theorem dX3_payStrikers_69 : decode cX3_payStrikers 69 = .ok (.putfield 41, 3) := by decide +kernel
theorem dX3_payStrikers_72 : decode cX3_payStrikers 72 = .ok (.aload 4, 2) := by decide +kernel
theorem dX3_payStrikers_74 : decode cX3_payStrikers 74 = .ok (.dup, 1) := by decide +kernel
theorem dX3_payStrikers_75 : decode cX3_payStrikers 75 = .ok (.getfield 180, 3) := by decide +kernel
theorem dX3_payStrikers_78 : decode cX3_payStrikers 78 = .ok (.aload_n 0, 1) := by decide +kernel
theorem dX3_payStrikers_79 : decode cX3_payStrikers 79 = .ok (.getfield 35, 3) := by decide +kernel
theorem dX3_payStrikers_82 : decode cX3_payStrikers 82 = .ok (.iadd, 1) := by decide +kernel
theorem dX3_payStrikers_83 : decode cX3_payStrikers 83 = .ok (.putfield 180, 3) := by decide +kernel
theorem dX3_payStrikers_86 : decode cX3_payStrikers 86 = .ok (.iinc 3 1, 3) := by decide +kernel
theorem dX3_payStrikers_89 : decode cX3_payStrikers 89 = .ok (.goto (-79), 3) := by decide +kernel
theorem dX3_payStrikers_92 : decode cX3_payStrikers 92 = .ok (.return_, 1) := by decide +kernel
set_option maxRecDepth 20000 in
theorem ggX3_chargeDues_X2_charge : GoodIn wsX3_chargeDues wsX2_charge := goodIn_r _ [6, 7, 8, 9, 10, 11, 12, 13, 14, 15, 16, 4, 17, 18, 19, 20, 21, 22, 23, 24, 33, 34, 35, 36, 37, 38, 39, 40, 41, 42, 43, 44, 45, 46, 47, 48, 49, 50] (by decide +kernel) (by decide +kernel)
set_option maxRecDepth 20000 in
theorem gX3_chargeDues_X2_charge_n210 : GoodIn wsX3_chargeDues (wsX2_charge) := ggX3_chargeDues_X2_charge
theorem dX3_chargeDues_0 : decode cX3_chargeDues 0 = .ok (.aload_n 0, 1) := by decide +kernel
theorem dX3_chargeDues_1 : decode cX3_chargeDues 1 = .ok (.getfield 27, 3) := by decide +kernel
theorem dX3_chargeDues_4 : decode cX3_chargeDues 4 = .ok (.astore_n 2, 1) := by decide +kernel
theorem dX3_chargeDues_5 : decode cX3_chargeDues 5 = .ok (.aload_n 2, 1) := by decide +kernel
theorem dX3_chargeDues_6 : decode cX3_chargeDues 6 = .ok (.arraylength, 1) := by decide +kernel
theorem dX3_chargeDues_7 : decode cX3_chargeDues 7 = .ok (.istore_n 3, 1) := by decide +kernel
theorem dX3_chargeDues_8 : decode cX3_chargeDues 8 = .ok (.iconst 0, 1) := by decide +kernel
theorem dX3_chargeDues_9 : decode cX3_chargeDues 9 = .ok (.istore 4, 2) := by decide +kernel
theorem dX3_chargeDues_11 : decode cX3_chargeDues 11 = .ok (.iload 4, 2) := by decide +kernel
theorem dX3_chargeDues_13 : decode cX3_chargeDues 13 = .ok (.iload_n 3, 1) := by decide +kernel
theorem dX3_chargeDues_14 : decode cX3_chargeDues 14 = .ok (.if_icmp .ge 51, 3) := by decide +kernel
theorem dX3_chargeDues_17 : decode cX3_chargeDues 17 = .ok (.aload_n 2, 1) := by decide +kernel
theorem dX3_chargeDues_18 : decode cX3_chargeDues 18 = .ok (.iload 4, 2) := by decide +kernel
theorem dX3_chargeDues_20 : decode cX3_chargeDues 20 = .ok (.aaload, 1) := by decide +kernel
theorem dX3_chargeDues_21 : decode cX3_chargeDues 21 = .ok (.astore 5, 2) := by decide +kernel
theorem dX3_chargeDues_23 : decode cX3_chargeDues 23 = .ok (.aload 5, 2) := by decide +kernel
theorem dX3_chargeDues_25 : decode cX3_chargeDues 25 = .ok (.ifnull 34, 3) := by decide +kernel
theorem dX3_chargeDues_28 : decode cX3_chargeDues 28 = .ok (.aload 5, 2) := by decide +kernel
theorem dX3_chargeDues_30 : decode cX3_chargeDues 30 = .ok (.getfield 93, 3) := by decide +kernel
theorem dX3_chargeDues_33 : decode cX3_chargeDues 33 = .ok (.ifCond .ne 26, 3) := by decide +kernel
theorem dX3_chargeDues_36 : decode cX3_chargeDues 36 = .ok (.aload 5, 2) := by decide +kernel
theorem dX3_chargeDues_38 : decode cX3_chargeDues 38 = .ok (.getfield 89, 3) := by decide +kernel
theorem dX3_chargeDues_41 : decode cX3_chargeDues 41 = .ok (.ifCond .ne 18, 3) := by decide +kernel
theorem dX3_chargeDues_44 : decode cX3_chargeDues 44 = .ok (.aload_n 0, 1) := by decide +kernel
theorem dX3_chargeDues_45 : decode cX3_chargeDues 45 = .ok (.dup, 1) := by decide +kernel
theorem dX3_chargeDues_46 : decode cX3_chargeDues 46 = .ok (.getfield 41, 3) := by decide +kernel
theorem dX3_chargeDues_49 : decode cX3_chargeDues 49 = .ok (.aload 5, 2) := by decide +kernel
theorem dX3_chargeDues_51 : decode cX3_chargeDues 51 = .ok (.iload_n 1, 1) := by decide +kernel
theorem dX3_chargeDues_52 : decode cX3_chargeDues 52 = .ok (.invokevirtual 210, 3) := by decide +kernel
theorem dX3_chargeDues_55 : decode cX3_chargeDues 55 = .ok (.iadd, 1) := by decide +kernel
theorem dX3_chargeDues_56 : decode cX3_chargeDues 56 = .ok (.putfield 41, 3) := by decide +kernel
theorem dX3_chargeDues_59 : decode cX3_chargeDues 59 = .ok (.iinc 4 1, 3) := by decide +kernel
theorem dX3_chargeDues_62 : decode cX3_chargeDues 62 = .ok (.goto (-51), 3) := by decide +kernel
theorem dX3_chargeDues_65 : decode cX3_chargeDues 65 = .ok (.return_, 1) := by decide +kernel
set_option maxRecDepth 20000 in
theorem ggX3_countDelegates_X3_countStanding : GoodIn wsX3_countDelegates wsX3_countStanding := goodIn_r _ [6, 7, 8, 9, 10, 11, 12, 13, 14, 15, 16, 17, 18, 19, 20, 21, 22, 30, 31, 32, 33, 34, 35, 36, 37, 38, 39] (by decide +kernel) (by decide +kernel)
set_option maxRecDepth 20000 in
theorem gX3_countDelegates_X3_countStanding : GoodIn wsX3_countDelegates (wsV RX3 116 RX3 yX3_countStanding wsX3_countStanding) := goodIn_app (goodIn_of _ (by decide +kernel)) ggX3_countDelegates_X3_countStanding
theorem dX3_countDelegates_0 : decode cX3_countDelegates 0 = .ok (.aload_n 0, 1) := by decide +kernel
theorem dX3_countDelegates_1 : decode cX3_countDelegates 1 = .ok (.getfield 21, 3) := by decide +kernel
theorem dX3_countDelegates_4 : decode cX3_countDelegates 4 = .ok (.astore_n 1, 1) := by decide +kernel
theorem dX3_countDelegates_5 : decode cX3_countDelegates 5 = .ok (.aload_n 1, 1) := by decide +kernel
theorem dX3_countDelegates_6 : decode cX3_countDelegates 6 = .ok (.arraylength, 1) := by decide +kernel
theorem dX3_countDelegates_7 : decode cX3_countDelegates 7 = .ok (.istore_n 2, 1) := by decide +kernel
theorem dX3_countDelegates_8 : decode cX3_countDelegates 8 = .ok (.iconst 0, 1) := by decide +kernel
theorem dX3_countDelegates_9 : decode cX3_countDelegates 9 = .ok (.istore_n 3, 1) := by decide +kernel
theorem dX3_countDelegates_10 : decode cX3_countDelegates 10 = .ok (.iload_n 3, 1) := by decide +kernel
theorem dX3_countDelegates_11 : decode cX3_countDelegates 11 = .ok (.iload_n 2, 1) := by decide +kernel
theorem dX3_countDelegates_12 : decode cX3_countDelegates 12 = .ok (.if_icmp .ge 35, 3) := by decide +kernel
theorem dX3_countDelegates_15 : decode cX3_countDelegates 15 = .ok (.aload_n 1, 1) := by decide +kernel
theorem dX3_countDelegates_16 : decode cX3_countDelegates 16 = .ok (.iload_n 3, 1) := by decide +kernel
theorem dX3_countDelegates_17 : decode cX3_countDelegates 17 = .ok (.aaload, 1) := by decide +kernel
theorem dX3_countDelegates_18 : decode cX3_countDelegates 18 = .ok (.astore 4, 2) := by decide +kernel
theorem dX3_countDelegates_20 : decode cX3_countDelegates 20 = .ok (.aload_n 0, 1) := by decide +kernel
theorem dX3_countDelegates_21 : decode cX3_countDelegates 21 = .ok (.aload 4, 2) := by decide +kernel
theorem dX3_countDelegates_23 : decode cX3_countDelegates 23 = .ok (.invokevirtual 116, 3) := by decide +kernel
theorem dX3_countDelegates_26 : decode cX3_countDelegates 26 = .ok (.istore 5, 2) := by decide +kernel
theorem dX3_countDelegates_28 : decode cX3_countDelegates 28 = .ok (.aload 4, 2) := by decide +kernel
theorem dX3_countDelegates_30 : decode cX3_countDelegates 30 = .ok (.iload 5, 2) := by decide +kernel
theorem dX3_countDelegates_32 : decode cX3_countDelegates 32 = .ok (.iconst 3, 1) := by decide +kernel
theorem dX3_countDelegates_33 : decode cX3_countDelegates 33 = .ok (.iadd, 1) := by decide +kernel
theorem dX3_countDelegates_34 : decode cX3_countDelegates 34 = .ok (.iconst 1, 1) := by decide +kernel
theorem dX3_countDelegates_35 : decode cX3_countDelegates 35 = .ok (.isub, 1) := by decide +kernel
theorem dX3_countDelegates_36 : decode cX3_countDelegates 36 = .ok (.iconst 3, 1) := by decide +kernel
theorem dX3_countDelegates_37 : decode cX3_countDelegates 37 = .ok (.idiv, 1) := by decide +kernel
theorem dX3_countDelegates_38 : decode cX3_countDelegates 38 = .ok (.putfield 183, 3) := by decide +kernel
theorem dX3_countDelegates_41 : decode cX3_countDelegates 41 = .ok (.iinc 3 1, 3) := by decide +kernel
theorem dX3_countDelegates_44 : decode cX3_countDelegates 44 = .ok (.goto (-34), 3) := by decide +kernel
theorem dX3_countDelegates_47 : decode cX3_countDelegates 47 = .ok (.return_, 1) := by decide +kernel
abbrev vwCl : List vw_C := [(RX0, TX0, 1), (RX1, TX1, 7), (RX2, TX2, 10), (RX3, TX3, 8), (RX4, TX4, 23)]
theorem dX4_isOut_0 : decode cX4_isOut 0 = .ok (.aload_n 0, 1) := by decide +kernel
theorem dX4_isOut_1 : decode cX4_isOut 1 = .ok (.iload_n 1, 1) := by decide +kernel
theorem dX4_isOut_2 : decode cX4_isOut 2 = .ok (.invokestatic 90, 3) := by decide +kernel
theorem dX4_isOut_5 : decode cX4_isOut 5 = .ok (.ifCond .eq 7, 3) := by decide +kernel
theorem dX4_isOut_8 : decode cX4_isOut 8 = .ok (.iconst 0, 1) := by decide +kernel
theorem dX4_isOut_9 : decode cX4_isOut 9 = .ok (.goto 4, 3) := by decide +kernel
theorem dX4_isOut_12 : decode cX4_isOut 12 = .ok (.iconst 1, 1) := by decide +kernel
theorem dX4_isOut_13 : decode cX4_isOut 13 = .ok (.putfield 69, 3) := by decide +kernel
theorem dX4_isOut_16 : decode cX4_isOut 16 = .ok (.aload_n 0, 1) := by decide +kernel
theorem dX4_isOut_17 : decode cX4_isOut 17 = .ok (.getfield 69, 3) := by decide +kernel
theorem dX4_isOut_20 : decode cX4_isOut 20 = .ok (.ifCond .ne 16, 3) := by decide +kernel
theorem dX4_isOut_23 : decode cX4_isOut 23 = .ok (.aload_n 0, 1) := by decide +kernel
theorem dX4_isOut_24 : decode cX4_isOut 24 = .ok (.getfield 53, 3) := by decide +kernel
theorem dX4_isOut_27 : decode cX4_isOut 27 = .ok (.iload_n 1, 1) := by decide +kernel
theorem dX4_isOut_28 : decode cX4_isOut 28 = .ok (.baload, 1) := by decide +kernel
theorem dX4_isOut_29 : decode cX4_isOut 29 = .ok (.ifCond .eq 7, 3) := by decide +kernel
theorem dX4_isOut_32 : decode cX4_isOut 32 = .ok (.iconst 1, 1) := by decide +kernel
theorem dX4_isOut_33 : decode cX4_isOut 33 = .ok (.goto 4, 3) := by decide +kernel
theorem dX4_isOut_36 : decode cX4_isOut 36 = .ok (.iconst 0, 1) := by decide +kernel
theorem dX4_isOut_37 : decode cX4_isOut 37 = .ok (.ireturn, 1) := by decide +kernel
theorem dJ6_bitCount_0f7a4_0 : decode cJ6_bitCount_0f7a4 0 = .ok (.iload_n 0, 1) := by decide +kernel
theorem dJ6_bitCount_0f7a4_1 : decode cJ6_bitCount_0f7a4 1 = .ok (.iload_n 0, 1) := by decide +kernel
theorem dJ6_bitCount_0f7a4_2 : decode cJ6_bitCount_0f7a4 2 = .ok (.iconst 1, 1) := by decide +kernel
theorem dJ6_bitCount_0f7a4_3 : decode cJ6_bitCount_0f7a4 3 = .ok (.iushr, 1) := by decide +kernel
theorem dJ6_bitCount_0f7a4_4 : decode cJ6_bitCount_0f7a4 4 = .ok (.ldc_w 265, 3) := by decide +kernel
theorem dJ6_bitCount_0f7a4_7 : decode cJ6_bitCount_0f7a4 7 = .ok (.iand, 1) := by decide +kernel
theorem dJ6_bitCount_0f7a4_8 : decode cJ6_bitCount_0f7a4 8 = .ok (.isub, 1) := by decide +kernel
theorem dJ6_bitCount_0f7a4_9 : decode cJ6_bitCount_0f7a4 9 = .ok (.istore_n 0, 1) := by decide +kernel
theorem dJ6_bitCount_0f7a4_10 : decode cJ6_bitCount_0f7a4 10 = .ok (.iload_n 0, 1) := by decide +kernel
theorem dJ6_bitCount_0f7a4_11 : decode cJ6_bitCount_0f7a4 11 = .ok (.ldc_w 266, 3) := by decide +kernel
theorem dJ6_bitCount_0f7a4_14 : decode cJ6_bitCount_0f7a4 14 = .ok (.iand, 1) := by decide +kernel
theorem dJ6_bitCount_0f7a4_15 : decode cJ6_bitCount_0f7a4 15 = .ok (.iload_n 0, 1) := by decide +kernel
theorem dJ6_bitCount_0f7a4_16 : decode cJ6_bitCount_0f7a4 16 = .ok (.iconst 2, 1) := by decide +kernel
theorem dJ6_bitCount_0f7a4_17 : decode cJ6_bitCount_0f7a4 17 = .ok (.iushr, 1) := by decide +kernel
theorem dJ6_bitCount_0f7a4_18 : decode cJ6_bitCount_0f7a4 18 = .ok (.ldc_w 266, 3) := by decide +kernel
theorem dJ6_bitCount_0f7a4_21 : decode cJ6_bitCount_0f7a4 21 = .ok (.iand, 1) := by decide +kernel
theorem dJ6_bitCount_0f7a4_22 : decode cJ6_bitCount_0f7a4 22 = .ok (.iadd, 1) := by decide +kernel
theorem dJ6_bitCount_0f7a4_23 : decode cJ6_bitCount_0f7a4 23 = .ok (.istore_n 0, 1) := by decide +kernel
theorem dJ6_bitCount_0f7a4_24 : decode cJ6_bitCount_0f7a4 24 = .ok (.iload_n 0, 1) := by decide +kernel
theorem dJ6_bitCount_0f7a4_25 : decode cJ6_bitCount_0f7a4 25 = .ok (.iload_n 0, 1) := by decide +kernel
theorem dJ6_bitCount_0f7a4_26 : decode cJ6_bitCount_0f7a4 26 = .ok (.iconst 4, 1) := by decide +kernel
theorem dJ6_bitCount_0f7a4_27 : decode cJ6_bitCount_0f7a4 27 = .ok (.iushr, 1) := by decide +kernel
theorem dJ6_bitCount_0f7a4_28 : decode cJ6_bitCount_0f7a4 28 = .ok (.iadd, 1) := by decide +kernel
theorem dJ6_bitCount_0f7a4_29 : decode cJ6_bitCount_0f7a4 29 = .ok (.ldc_w 267, 3) := by decide +kernel
theorem dJ6_bitCount_0f7a4_32 : decode cJ6_bitCount_0f7a4 32 = .ok (.iand, 1) := by decide +kernel
theorem dJ6_bitCount_0f7a4_33 : decode cJ6_bitCount_0f7a4 33 = .ok (.istore_n 0, 1) := by decide +kernel
theorem dJ6_bitCount_0f7a4_34 : decode cJ6_bitCount_0f7a4 34 = .ok (.iload_n 0, 1) := by decide +kernel
theorem dJ6_bitCount_0f7a4_35 : decode cJ6_bitCount_0f7a4 35 = .ok (.iload_n 0, 1) := by decide +kernel
theorem dJ6_bitCount_0f7a4_36 : decode cJ6_bitCount_0f7a4 36 = .ok (.bipush 8, 2) := by decide +kernel
theorem dJ6_bitCount_0f7a4_38 : decode cJ6_bitCount_0f7a4 38 = .ok (.iushr, 1) := by decide +kernel
theorem dJ6_bitCount_0f7a4_39 : decode cJ6_bitCount_0f7a4 39 = .ok (.iadd, 1) := by decide +kernel
theorem dJ6_bitCount_0f7a4_40 : decode cJ6_bitCount_0f7a4 40 = .ok (.istore_n 0, 1) := by decide +kernel
theorem dJ6_bitCount_0f7a4_41 : decode cJ6_bitCount_0f7a4 41 = .ok (.iload_n 0, 1) := by decide +kernel
theorem dJ6_bitCount_0f7a4_42 : decode cJ6_bitCount_0f7a4 42 = .ok (.iload_n 0, 1) := by decide +kernel
theorem dJ6_bitCount_0f7a4_43 : decode cJ6_bitCount_0f7a4 43 = .ok (.bipush 16, 2) := by decide +kernel
theorem dJ6_bitCount_0f7a4_45 : decode cJ6_bitCount_0f7a4 45 = .ok (.iushr, 1) := by decide +kernel
theorem dJ6_bitCount_0f7a4_46 : decode cJ6_bitCount_0f7a4 46 = .ok (.iadd, 1) := by decide +kernel
theorem dJ6_bitCount_0f7a4_47 : decode cJ6_bitCount_0f7a4 47 = .ok (.istore_n 0, 1) := by decide +kernel
theorem dJ6_bitCount_0f7a4_48 : decode cJ6_bitCount_0f7a4 48 = .ok (.iload_n 0, 1) := by decide +kernel
theorem dJ6_bitCount_0f7a4_49 : decode cJ6_bitCount_0f7a4 49 = .ok (.bipush 63, 2) := by decide +kernel
theorem dJ6_bitCount_0f7a4_51 : decode cJ6_bitCount_0f7a4 51 = .ok (.iand, 1) := by decide +kernel
theorem dJ6_bitCount_0f7a4_52 : decode cJ6_bitCount_0f7a4 52 = .ok (.ireturn, 1) := by decide +kernel
theorem dJ9_min_7cf53_0 : decode cJ9_min_7cf53 0 = .ok (.iload_n 0, 1) := by decide +kernel
theorem dJ9_min_7cf53_1 : decode cJ9_min_7cf53 1 = .ok (.iload_n 1, 1) := by decide +kernel
theorem dJ9_min_7cf53_2 : decode cJ9_min_7cf53 2 = .ok (.if_icmp .gt 7, 3) := by decide +kernel
theorem dJ9_min_7cf53_5 : decode cJ9_min_7cf53 5 = .ok (.iload_n 0, 1) := by decide +kernel
theorem dJ9_min_7cf53_6 : decode cJ9_min_7cf53 6 = .ok (.goto 4, 3) := by decide +kernel
theorem dJ9_min_7cf53_9 : decode cJ9_min_7cf53 9 = .ok (.iload_n 1, 1) := by decide +kernel
end
section
/-! ===== my own rows: a store of N cells, cell k at the address ad k, holding g k ===== -/
def st_L (ad : Nat → Nat) (N : Nat) (g : Nat → va_E) : va_W := (List.range N).map (fun k => (ad k, g k))
theorem st_len (ad : Nat → Nat) (N : Nat) (g : Nat → va_E) : (st_L ad N g).length = N := by simp [st_L]
theorem st_get {ad : Nat → Nat} {N : Nat} {g : Nat → va_E} {k : Nat} (h : k < N) : (st_L ad N g)[k]? = some (ad k, g k) := by
  simp [st_L, h]
theorem st_inv {ad : Nat → Nat} {N : Nat} {g : Nat → va_E} {k : Nat} {q : Nat × va_E} (h : (st_L ad N g)[k]? = some q) : k < N ∧ q = (ad k, g k) := by
  have hk : k < N := by
    have h1 := (List.getElem?_eq_some_iff.mp h).1
    rw [st_len] at h1
    exact h1
  rw [st_get hk] at h
  exact ⟨hk, (Option.some.inj h).symm⟩
theorem st_set {ad : Nat → Nat} {N : Nat} {g : Nat → va_E} {k : Nat} (h : k < N) (e : va_E) : (st_L ad N g).set k (ad k, e) = st_L ad N (va_up g k e) := by
  apply List.ext_getElem?
  intro j
  by_cases hj : j = k
  · subst hj
    rw [List.getElem?_set_self (by rw [st_len]; exact h), st_get h, va_up_self]
  · rw [List.getElem?_set_ne (Ne.symm hj)]
    by_cases hN : j < N
    · rw [st_get hN, st_get hN, va_up_ne _ _ hj]
    · rw [List.getElem?_eq_none (by rw [st_len]; omega), List.getElem?_eq_none (by rw [st_len]; omega)]
theorem st_push (ad : Nat → Nat) (N : Nat) (g : Nat → va_E) (q : Nat) (e : va_E) : st_L ad N g ++ [(q, e)] = st_L (va_up ad N q) (N + 1) (va_up g N e) := by
  apply List.ext_getElem?
  intro j
  by_cases hN : j < N
  · rw [List.getElem?_append_left (by rw [st_len]; exact hN), st_get hN, st_get (by omega), va_up_ne _ _ (by omega), va_up_ne _ _ (by omega)]
  · by_cases hE : j = N
    · subst hE
      rw [List.getElem?_append_right (by rw [st_len]; omega), st_len, Nat.sub_self, st_get (by omega), va_up_self, va_up_self]
      rfl
    · rw [List.getElem?_eq_none (by rw [List.length_append, st_len, List.length_singleton]; omega), List.getElem?_eq_none (by rw [st_len]; omega)]
theorem st_congr {ad : Nat → Nat} {N : Nat} {g g' : Nat → va_E} (h : ∀ k, k < N → g k = g' k) : st_L ad N g = st_L ad N g' := by
  apply List.ext_getElem?
  intro j
  by_cases hN : j < N
  · rw [st_get hN, st_get hN, h j hN]
  · rw [List.getElem?_eq_none (by rw [st_len]; omega), List.getElem?_eq_none (by rw [st_len]; omega)]
/-- which cells a method may change: its store's, and those that it makes -/
def xA (ad : Nat → Nat) (N sz : Nat) : Nat → Prop := fun q => (∃ k, k < N ∧ q = ad k) ∨ sz ≤ q
theorem xA_in {ad : Nat → Nat} {N sz k : Nat} (h : k < N) : xA ad N sz (ad k) := Or.inl ⟨k, h, rfl⟩
theorem xA_mono {ad : Nat → Nat} {N sz sz' : Nat} (h : sz ≤ sz') : ∀ q, xA ad N sz' q → xA ad N sz q := fun _ hq => hq.elim Or.inl (fun z => Or.inr (Nat.le_trans h z))
theorem xD_any {A B : Nat → Prop} {ad : Nat → Nat} {N : Nat} {g : Nat → va_E} (h : va_D A (st_L ad N g)) (hB : ∀ k, k < N → B (ad k)) : va_D B (st_L ad N g) :=
  ⟨h.1, fun k q hk => by obtain ⟨h1, h2⟩ := st_inv hk; rw [h2]; exact hB k h1⟩
/-- the store in the heap, seen from a method's body -/
def XW (D : va_G) (tys : List (ClassId × FieldType)) (A : Nat → Prop) (s : State) (ad : Nat → Nat) (N : Nat) (g : Nat → va_E) (H : Heap) (locs : List Loc) : Prop :=
  va_K D vwCl tys s ∧ va_P D vwCl (st_L ad N g) H ∧ va_D A (st_L ad N g) ∧ va_S A s.heap H locs ∧ ∀ q : Nat, s.heap.size ≤ q → A q
theorem XW.inj {D : va_G} {tys : List (ClassId × FieldType)} {A : Nat → Prop} {s : State} {ad : Nat → Nat} {N : Nat} {g : Nat → va_E} {H : Heap} {locs : List Loc} (h : XW D tys A s ad N g H locs) {i j : Nat} (hi : i < N) (hj : j < N) (e : ad i = ad j) : i = j :=
  h.2.2.1.1 i j _ _ (st_get hi) (st_get hj) e
section XR
variable {p : Program} {l : Launch} {e : Env} {R : Room} {s : State} {m : MethodId} {args : Array Value} {below : List Frame} {meth : Method} {c : Code} {H : Heap} {locs : List Loc} {cells slots : Nat} {Q : State → Prop}
variable {cc : ByteArray} {pc : Nat} {ls : Array Slot} {rest : List Value} {D : va_G} {tys : List (ClassId × FieldType)} {A : Nat → Prop} {ad : Nat → Nat} {N : Nat} {g : Nat → va_E} {nL : Nat} {Ts : List Cond} {own : String}
theorem xr_get (S : CallFix p m c cc nL s args Ts own) (hw : XW D tys A s ad N g H locs) {k ci j index n : Nat} {fs : List Value} {C : String} {T : u_T} {v : Value} (hk : k < N) (hg : g k = .inr (ci, fs)) (hc : vwCl[ci]? = some (C, T, n)) (hin : ∀ w ∈ u_ws C T n, w ∈ Ts) (hj : j < n)
    (hlink : (Cond.fieldLink own index (T j).1 (T j).2.1 (T j).2.2.1).before args s = true) (hv : fs[j]? = some v) (hdg : decode cc pc = .ok (.getfield index, 3))
    (kk : W p l e R s m args below meth c H locs cells slots Q (F0 m (pc + 3) ls (v :: rest))) : W p l e R s m args below meth c H locs cells slots Q (F0 m pc ls (.ref (ad k) :: rest)) :=
  va_get (cl := vwCl) (ws := st_L ad N g) S.1 S.2.1 S.2.2.2.2 hin S.2.2.2.1 hw.1 hw.2.1 k ((st_get hk).trans (by rw [hg])) hc j hj hlink (fun _ h => h) hv hdg kk
theorem xr_getN (S : CallFix p m c cc nL s args Ts own) (hw : XW D tys A s ad N g H locs) {k ci j index n : Nat} {fs : List Value} {C host : String} {T : u_T} {v : Value} (hk : k < N) (hg : g k = .inr (ci, fs)) (hc : vwCl[ci]? = some (C, T, n)) (hin : ∀ w ∈ u_ws C T n, w ∈ Ts) (hj : j < n)
    (hlink : va_Nw (.fieldLinkNest own index (T j).1 (T j).2.1 (T j).2.2.1 host) s) (hv : fs[j]? = some v) (hdg : decode cc pc = .ok (.getfield index, 3))
    (kk : W p l e R s m args below meth c H locs cells slots Q (F0 m (pc + 3) ls (v :: rest))) : W p l e R s m args below meth c H locs cells slots Q (F0 m pc ls (.ref (ad k) :: rest)) :=
  va_getN (cl := vwCl) (ws := st_L ad N g) S.1 S.2.1 S.2.2.2.2 hin S.2.2.2.1 hw.1 hw.2.1 k ((st_get hk).trans (by rw [hg])) hc j hj (va_Nw.use rfl hlink) (fun _ h => h) hv hdg kk
theorem xr_put (S : CallFix p m c cc nL s args Ts own) (hw : XW D tys A s ad N g H locs) {k ci j index n : Nat} {fs : List Value} {C : String} {T : u_T} {v : Value} {ty : FieldType} (ty0 : Nat → FieldType) (hty : ∀ k, k < n → parseFieldDescriptor (T k).2.2.1 = some (ty0 k)) (hnm : ∀ a, a < n → ∀ b, b < n → a ≠ b → (T a).2.1 ≠ (T b).2.1)
    (hk : k < N) (hg : g k = .inr (ci, fs)) (hc : vwCl[ci]? = some (C, T, n)) (hin : ∀ w ∈ u_ws C T n, w ∈ Ts) (hj : j < n) (hlink : (Cond.fieldLink own index (T j).1 (T j).2.1 (T j).2.2.1).before args s = true) (hfin : (T j).2.2.2 = false) (hd : parseFieldDescriptor (T j).2.2.1 = some ty) (hn : narrow ty v = v) (hfit : fits ty v = true) (hl : j < fs.length)
    (hdg : decode cc pc = .ok (.putfield index, 3)) (g' : Nat → va_E) (he : va_up g k (.inr (ci, fs.set j v)) = g')
    (kk : ∀ (H1 : Heap) (locs1 : List Loc), XW D tys A s ad N g' H1 locs1 → W p l e R s m args below meth c H1 locs1 cells slots Q (F0 m (pc + 3) ls rest)) : W p l e R s m args below meth c H locs cells slots Q (F0 m pc ls (v :: .ref (ad k) :: rest)) := by
  subst he
  refine va_put (cl := vwCl) (ws := st_L ad N g) S.1 S.2.1 S.2.2.2.2 hin ty0 hty hnm S.2.2.2.1 hw.1 hw.2.1 hw.2.2.1 hw.2.2.2.1 k ((st_get hk).trans (by rw [hg])) hc j hj hlink (fun _ h => h) hfin hd hn hfit hl hdg (fun H1 locs1 hP hD hS => ?_)
  rw [st_set hk] at hP hD
  exact kk H1 locs1 ⟨hw.1, hP, hD, hS, hw.2.2.2.2⟩
theorem xr_putN (S : CallFix p m c cc nL s args Ts own) (hw : XW D tys A s ad N g H locs) {k ci j index n : Nat} {fs : List Value} {C host : String} {T : u_T} {v : Value} {ty : FieldType} (ty0 : Nat → FieldType) (hty : ∀ k, k < n → parseFieldDescriptor (T k).2.2.1 = some (ty0 k)) (hnm : ∀ a, a < n → ∀ b, b < n → a ≠ b → (T a).2.1 ≠ (T b).2.1)
    (hk : k < N) (hg : g k = .inr (ci, fs)) (hc : vwCl[ci]? = some (C, T, n)) (hin : ∀ w ∈ u_ws C T n, w ∈ Ts) (hj : j < n) (hlink : va_Nw (.fieldLinkNest own index (T j).1 (T j).2.1 (T j).2.2.1 host) s) (hfin : (T j).2.2.2 = false) (hd : parseFieldDescriptor (T j).2.2.1 = some ty) (hn : narrow ty v = v) (hfit : fits ty v = true) (hl : j < fs.length)
    (hdg : decode cc pc = .ok (.putfield index, 3)) (g' : Nat → va_E) (he : va_up g k (.inr (ci, fs.set j v)) = g')
    (kk : ∀ (H1 : Heap) (locs1 : List Loc), XW D tys A s ad N g' H1 locs1 → W p l e R s m args below meth c H1 locs1 cells slots Q (F0 m (pc + 3) ls rest)) : W p l e R s m args below meth c H locs cells slots Q (F0 m pc ls (v :: .ref (ad k) :: rest)) := by
  subst he
  refine va_putN (cl := vwCl) (ws := st_L ad N g) S.1 S.2.1 S.2.2.2.2 hin ty0 hty hnm S.2.2.2.1 hw.1 hw.2.1 hw.2.2.1 hw.2.2.2.1 k ((st_get hk).trans (by rw [hg])) hc j hj (va_Nw.use rfl hlink) (fun _ h => h) hfin hd hn hfit hl hdg (fun H1 locs1 hP hD hS => ?_)
  rw [st_set hk] at hP hD
  exact kk H1 locs1 ⟨hw.1, hP, hD, hS, hw.2.2.2.2⟩
theorem xr_putF (S : CallFix p m c cc nL s args Ts own) (hw : XW D tys A s ad N g H locs) (hin2 : meth.name = "<init>") {k ci j index n : Nat} {fs : List Value} {C : String} {T : u_T} {v : Value} {ty : FieldType} (ty0 : Nat → FieldType) (hty : ∀ k, k < n → parseFieldDescriptor (T k).2.2.1 = some (ty0 k)) (hnm : ∀ a, a < n → ∀ b, b < n → a ≠ b → (T a).2.1 ≠ (T b).2.1)
    (hk : k < N) (hg : g k = .inr (ci, fs)) (hc : vwCl[ci]? = some (C, T, n)) (hin : ∀ w ∈ u_ws C T n, w ∈ Ts) (hj : j < n) (hlink : (Cond.fieldLink own index (T j).1 (T j).2.1 (T j).2.2.1).before args s = true) (hfin : (T j).2.2.2 = true) (hdecl : (T j).1 = own) (hd : parseFieldDescriptor (T j).2.2.1 = some ty) (hn : narrow ty v = v) (hfit : fits ty v = true) (hl : j < fs.length)
    (hdg : decode cc pc = .ok (.putfield index, 3)) (g' : Nat → va_E) (he : va_up g k (.inr (ci, fs.set j v)) = g')
    (kk : ∀ (H1 : Heap) (locs1 : List Loc), XW D tys A s ad N g' H1 locs1 → W p l e R s m args below meth c H1 locs1 cells slots Q (F0 m (pc + 3) ls rest)) : W p l e R s m args below meth c H locs cells slots Q (F0 m pc ls (v :: .ref (ad k) :: rest)) := by
  subst he
  refine va_putF (cl := vwCl) (ws := st_L ad N g) S.1 S.2.1 S.2.2.2.2 hin ty0 hty hnm S.2.2.2.1 hw.1 hw.2.1 hw.2.2.1 hw.2.2.2.1 k ((st_get hk).trans (by rw [hg])) hc j hj hlink (fun _ h => h) hfin hin2 hdecl hd hn hfit hl hdg (fun H1 locs1 hP hD hS => ?_)
  rw [st_set hk] at hP hD
  exact kk H1 locs1 ⟨hw.1, hP, hD, hS, hw.2.2.2.2⟩
theorem xr_iald (S : CallFix p m c cc nL s args Ts own) (hw : XW D tys A s ad N g H locs) {k n t0 : Nat} {cA : ClassId} {f : Nat → Int32} (hk : k < N) (hg : g k = .inl (cA, n, .inl f)) (ht : tys[t0]? = some (cA, .int)) {i : Int32} (hin : vp_in i n) (hdg : decode cc pc = .ok (.iaload, 1))
    (kk : W p l e R s m args below meth c H locs cells slots Q (F0 m (pc + 1) ls (.int (f i.toNatClampNeg) :: rest))) : W p l e R s m args below meth c H locs cells slots Q (F0 m pc ls (.int i :: .ref (ad k) :: rest)) :=
  va_iald (cl := vwCl) (ws := st_L ad N g) S.1 S.2.1 hw.1 hw.2.1 k t0 ((st_get hk).trans (by rw [hg])) ht hin hdg kk
theorem xr_zald (S : CallFix p m c cc nL s args Ts own) (hw : XW D tys A s ad N g H locs) {k n t0 : Nat} {cA : ClassId} {f : Nat → Int32} (hk : k < N) (hg : g k = .inl (cA, n, .inl f)) (ht : tys[t0]? = some (cA, .boolean)) {i : Int32} (hin : vp_in i n) (hdg : decode cc pc = .ok (.baload, 1))
    (kk : W p l e R s m args below meth c H locs cells slots Q (F0 m (pc + 1) ls (.int (f i.toNatClampNeg) :: rest))) : W p l e R s m args below meth c H locs cells slots Q (F0 m pc ls (.int i :: .ref (ad k) :: rest)) :=
  va_zald (cl := vwCl) (ws := st_L ad N g) S.1 S.2.1 hw.1 hw.2.1 k t0 ((st_get hk).trans (by rw [hg])) ht hin hdg kk
theorem xr_aald (S : CallFix p m c cc nL s args Ts own) (hw : XW D tys A s ad N g H locs) {k n t0 : Nat} {cA : ClassId} {C : String} {f : Nat → Option Nat} (hk : k < N) (hg : g k = .inl (cA, n, .inr (.inr (.inr (.inr f))))) (ht : tys[t0]? = some (cA, .object C)) {i : Int32} (hin : vp_in i n) (hdg : decode cc pc = .ok (.aaload, 1))
    (kk : W p l e R s m args below meth c H locs cells slots Q (F0 m (pc + 1) ls (va_rf (f i.toNatClampNeg) :: rest))) : W p l e R s m args below meth c H locs cells slots Q (F0 m pc ls (.int i :: .ref (ad k) :: rest)) :=
  va_aldq (cl := vwCl) (ws := st_L ad N g) S.1 S.2.1 hw.1 hw.2.1 k t0 ((st_get hk).trans (by rw [hg])) ht hin hdg kk
theorem xr_iast (S : CallFix p m c cc nL s args Ts own) (hw : XW D tys A s ad N g H locs) {k n t0 : Nat} {cA : ClassId} {f : Nat → Int32} (hk : k < N) (hg : g k = .inl (cA, n, .inl f)) (ht : tys[t0]? = some (cA, .int)) {i x : Int32} (hin : vp_in i n) (hdg : decode cc pc = .ok (.iastore, 1))
    (g' : Nat → va_E) (he : va_up g k (.inl (cA, n, .inl (upd f i.toNatClampNeg x))) = g')
    (kk : ∀ (H1 : Heap) (locs1 : List Loc), XW D tys A s ad N g' H1 locs1 → W p l e R s m args below meth c H1 locs1 cells slots Q (F0 m (pc + 1) ls rest)) : W p l e R s m args below meth c H locs cells slots Q (F0 m pc ls (.int x :: .int i :: .ref (ad k) :: rest)) := by
  subst he
  refine va_iast (cl := vwCl) (ws := st_L ad N g) S.1 S.2.1 hw.1 hw.2.1 hw.2.2.1 hw.2.2.2.1 k t0 ((st_get hk).trans (by rw [hg])) ht hin hdg (fun H1 locs1 hP hD hS => ?_)
  rw [st_set hk] at hP hD
  exact kk H1 locs1 ⟨hw.1, hP, hD, hS, hw.2.2.2.2⟩
theorem xr_zast (S : CallFix p m c cc nL s args Ts own) (hw : XW D tys A s ad N g H locs) {k n t0 : Nat} {cA : ClassId} {f : Nat → Int32} (hk : k < N) (hg : g k = .inl (cA, n, .inl f)) (ht : tys[t0]? = some (cA, .boolean)) {i x : Int32} (hin : vp_in i n) (hx01 : vp_nar .boolean x = x) (hdg : decode cc pc = .ok (.bastore, 1))
    (g' : Nat → va_E) (he : va_up g k (.inl (cA, n, .inl (upd f i.toNatClampNeg x))) = g')
    (kk : ∀ (H1 : Heap) (locs1 : List Loc), XW D tys A s ad N g' H1 locs1 → W p l e R s m args below meth c H1 locs1 cells slots Q (F0 m (pc + 1) ls rest)) : W p l e R s m args below meth c H locs cells slots Q (F0 m pc ls (.int x :: .int i :: .ref (ad k) :: rest)) := by
  subst he
  refine va_zast (cl := vwCl) (ws := st_L ad N g) S.1 S.2.1 hw.1 hw.2.1 hw.2.2.1 hw.2.2.2.1 k t0 ((st_get hk).trans (by rw [hg])) ht hin hdg (fun H1 locs1 hP hD hS => ?_)
  rw [hx01, st_set hk] at hP hD
  exact kk H1 locs1 ⟨hw.1, hP, hD, hS, hw.2.2.2.2⟩
theorem xr_aast (S : CallFix p m c cc nL s args Ts own) (hw : XW D tys A s ad N g H locs) {k n t0 kv ci : Nat} {cA : ClassId} {q : vw_C} {vs : List Value} {f : Nat → Option Nat} (hk : k < N) (hg : g k = .inl (cA, n, .inr (.inr (.inr (.inr f))))) (ht : tys[t0]? = some (cA, .object q.1)) (hkv : kv < N) (hgv : g kv = .inr (ci, vs)) (hc : vwCl[ci]? = some q) {i : Int32} (hin : vp_in i n) (hdg : decode cc pc = .ok (.aastore, 1))
    (g' : Nat → va_E) (he : va_up g k (.inl (cA, n, .inr (.inr (.inr (.inr (va_up f i.toNatClampNeg (some (ad kv)))))))) = g')
    (kk : ∀ (H1 : Heap) (locs1 : List Loc), XW D tys A s ad N g' H1 locs1 → W p l e R s m args below meth c H1 locs1 cells slots Q (F0 m (pc + 1) ls rest)) : W p l e R s m args below meth c H locs cells slots Q (F0 m pc ls (.ref (ad kv) :: .int i :: .ref (ad k) :: rest)) := by
  subst he
  refine va_astq (cl := vwCl) (ws := st_L ad N g) S.1 S.2.1 hw.1 hw.2.1 hw.2.2.1 hw.2.2.2.1 k t0 kv ci ((st_get hk).trans (by rw [hg])) ht ((st_get hkv).trans (by rw [hgv])) hc hin hdg (fun H1 locs1 hP hD hS => ?_)
  rw [st_set hk] at hP hD
  exact kk H1 locs1 ⟨hw.1, hP, hD, hS, hw.2.2.2.2⟩
theorem xr_alen (S : CallFix p m c cc nL s args Ts own) (hw : XW D tys A s ad N g H locs) {k t0 : Nat} {cA : ClassId} {x : vp_A} {ty : FieldType} (hk : k < N) (hg : g k = .inl (cA, x)) (ht : tys[t0]? = some (cA, ty)) {v : Int32} (hv : Int32.ofNat x.1 = v) (hdg : decode cc pc = .ok (.arraylength, 1))
    (kk : W p l e R s m args below meth c H locs cells slots Q (F0 m (pc + 1) ls (.int v :: rest))) : W p l e R s m args below meth c H locs cells slots Q (F0 m pc ls (.ref (ad k) :: rest)) :=
  va_alen (cl := vwCl) (ws := st_L ad N g) S.1 S.2.1 hw.1 hw.2.1 k t0 ((st_get hk).trans (by rw [hg])) ht hv hdg kk
end XR
/-! contracts over a store -/
def xQ {S : Type} (post : Option Value → S → Prop) (B : S → State → Prop) (A : Nat → Prop) : Array Value → State → Outcome → State → Prop := fun _ st oc t => (∃ (v : Option Value) (u : S), oc = .returned v ∧ post v u ∧ B u t) ∧ va_F A st t
def xPi {S : Type} (pi : Int32 → S → Prop) : Option Value → S → Prop := fun v u => ∃ r : Int32, v = some (.int r) ∧ pi r u
def xPv {S : Type} (pv : S → Prop) : Option Value → S → Prop := fun v u => v = none ∧ pv u
def xPr {S : Type} (pr : Nat → S → Prop) : Option Value → S → Prop := fun v u => ∃ r : Nat, v = some (.ref r) ∧ pr r u
def xPre (D : va_G) (tys : List (ClassId × FieldType)) (ad : Nat → Nat) (N : Nat) (g : Nat → va_E) (X : State → Prop) (sz : Nat) (av : List Value) : Array Value → State → Prop :=
  va_Pc av (fun U => U.heap.size = sz ∧ va_K D vwCl tys U ∧ va_P D vwCl (st_L ad N g) U.heap ∧ va_D (fun _ => True) (st_L ad N g) ∧ X U)
def xB {S : Type} (D : va_G) (ad : Nat → Nat) (N : Nat) (E : S → Nat → va_E) (A : Nat → Prop) : S → State → Prop := fun u t => va_P D vwCl (st_L ad N (E u)) t.heap ∧ va_D A (st_L ad N (E u))
/-- a contract of a method that returns -/
def XM {S : Type} (l : Launch) (y : MethodName) (ws : List Cond) (rm : Room) (D : va_G) (tys : List (ClassId × FieldType)) (ad : Nat → Nat) (N : Nat) (X : Nat → State → Prop) (E : S → Nat → va_E) (av : List Value) (σ : S) (post : Option Value → S → Prop) : Prop :=
  ∀ sz : Nat, Met l y ws rm (xPre D tys ad N (E σ) (X sz) sz av) (xQ post (xB D ad N E (xA ad N sz)) (xA ad N sz)) rm.cells rm.slots (xA ad N sz)
def xX {S : Type} (D : va_G) (ad : Nat → Nat) (N sz : Nat) (E : S → Nat → va_E) (σ : S) (err : String → Prop) : String → State → State → Prop :=
  vx_X (fun _ : Unit => True) (fun E9 _ t => err E9 ∧ xB D ad N E (xA ad N sz) σ t) (xA ad N sz)
/-- a contract of a method that returns or throws; when it throws nothing has changed -/
def XT {S : Type} (l : Launch) (y : MethodName) (ws : List Cond) (rm : Room) (D : va_G) (tys : List (ClassId × FieldType)) (ad : Nat → Nat) (N : Nat) (X : Nat → State → Prop) (E : S → Nat → va_E) (av : List Value) (σ : S) (post : Option Value → S → Prop) (err : String → Prop) : Prop :=
  ∀ sz : Nat, vx_Met l y ws rm (xPre D tys ad N (E σ) (X sz) sz av) (xQ post (xB D ad N E (xA ad N sz)) (xA ad N sz)) (xX D ad N sz E σ err) rm.cells rm.slots (xA ad N sz)
/-- what a contract may ask of the state beside the store -/
def XOK (ad : Nat → Nat) (N : Nat) (X : Nat → State → Prop) : Prop :=
  (∀ (sz : Nat) (a : Array Value) (U : State) (g : JFrame) (mk : MethodId), X sz U → X sz (U.calling g mk a)) ∧
  ∀ s U : State, s.WarmedH U.vm → X s.heap.size s → s.heap.size ≤ U.heap.size → (∀ q : Nat, q < s.heap.size → ¬ xA ad N s.heap.size q → U.heap[q]? = s.heap[q]?) → X U.heap.size U
theorem XOK.tt (ad : Nat → Nat) (N : Nat) : XOK ad N (fun _ _ => True) := ⟨fun _ _ _ _ _ _ => trivial, fun _ _ _ _ _ _ => trivial⟩
section XC
variable {p : Program} {l : Launch} {e : Env} {R : Room} {s : State} {m : MethodId} {args : Array Value} {below : List Frame} {meth : Method} {c : Code} {H : Heap} {locs : List Loc} {cells slots mc ms : Nat} {Q : State → Prop}
variable {cc : ByteArray} {pc : Nat} {ls : Array Slot} {rest st0 : List Value} {D : va_G} {tys : List (ClassId × FieldType)} {A0 A1 AX free : Nat → Prop} {H0 : Heap} {ad : Nat → Nat} {N : Nat} {g : Nat → va_E} {a : Array Value}
theorem xc_go {S : Type} {post : Option Value → S → Prop} {B : S → State → Prop} (hr : va_Run p l e R s m args below meth c H locs cells slots mc ms (F0 m pc ls st0) rest (xQ post B A1 a) free) (hS : va_S A0 H0 H locs) (hA : ∀ q, q < H.size → A1 q → A0 q) (hf : ∀ q, free q → A0 q)
    (kk : ∀ (v : Option Value) (u : S) (t : State) (H1 : Heap) (locs1 : List Loc), t.heap = H1 → s.vm.Alike t.vm → post v u → B u t → H.size ≤ H1.size → (∀ q : Nat, q < H.size → ¬ A1 q → H1[q]? = H[q]?) → va_S A0 H0 H1 locs1 → W p l e R s m args below meth c H1 locs1 (cells + mc) (slots + ms) Q (F0 m (pc + 3) ls (v.toList ++ rest))) : W p l e R s m args below meth c H locs cells slots Q (F0 m pc ls st0) := by
  intro T hT X
  obtain ⟨v9, st₀, t, T', L, h0, X', hL, e1, e2, ⟨⟨v, u, hv, hp, hb⟩, hz, hk⟩, st⟩ := hr T hT X
  cases hv
  rw [h0] at hz hk
  obtain ⟨t2, a1, b1⟩ := kk v9 u t T'.heap (locs ++ L) e1.symm (by rw [← e2]; exact X'.warmed.alike) hp hb (by rw [e1]; exact hz) (fun q h1 h2 => by rw [e1]; exact hk q h1 h2)
    ⟨Nat.le_trans hS.1 (by rw [e1]; exact hz), fun q h1 h2 => by rw [e1, hk q (Nat.lt_of_lt_of_le h1 hS.1) (fun z => h2 (hA q (Nat.lt_of_lt_of_le h1 hS.1) z))]; exact hS.2.1 q h1 h2, fun q hq => by
      rcases List.mem_append.mp hq with h | h
      · exact hS.2.2 q h
      · exact hf _ (hL q h)⟩ T' rfl X'
  exact ⟨t2, st t2 a1, b1⟩
theorem xc_goX {S SX : Type} {post : Option Value → S → Prop} {px : SX → Prop} {B : S → State → Prop} {BX : String → SX → State → Prop} (hr : vx_Run p l e R s m args below meth c H locs cells slots mc ms (F0 m pc ls st0) rest (xQ post B A1 a) (vx_X px BX AX) free) (hS : va_S A0 H0 H locs) (hA : ∀ q, q < H.size → A1 q → A0 q) (hf : ∀ q, free q → A0 q) (hAX : ∀ q, q < H.size → AX q → A0 q)
    (kx : ∀ (E : String) (ce : Cell) (q9 : Addr) (u : SX) (t : State) (H1 : Heap) (locs1 : List Loc), t.heap = H1 → s.vm.Alike t.vm → px u → BX E u t → H.size ≤ H1.size → (∀ q : Nat, q < H.size → ¬ AX q → H1[q]? = H[q]?) → va_S A0 H0 H1 locs1 → H1[q9]? = some ce → ce.vm = .none → s.vm.findClass E = some ce.cls → vx_W p l e R s m args below meth c H1 locs1 (cells + mc) (slots + ms) Q (F0 m pc ls rest) q9)
    (kk : ∀ (v : Option Value) (u : S) (t : State) (H1 : Heap) (locs1 : List Loc), t.heap = H1 → s.vm.Alike t.vm → post v u → B u t → H.size ≤ H1.size → (∀ q : Nat, q < H.size → ¬ A1 q → H1[q]? = H[q]?) → va_S A0 H0 H1 locs1 → W p l e R s m args below meth c H1 locs1 (cells + mc) (slots + ms) Q (F0 m (pc + 3) ls (v.toList ++ rest))) : W p l e R s m args below meth c H locs cells slots Q (F0 m pc ls st0) := by
  intro T hT X
  rcases hr T hT X with ⟨v9, st₀, t, T', L, h0, X', hL, e1, e2, ⟨⟨v, u, hv, hp, hb⟩, hF⟩, st⟩ | ⟨q9, st₀, t, T', L, E, ce, h0, X', hL, e1, e2, ⟨u, hp, hb, hF⟩, hce, hcv, hcl, st⟩
  · cases hv
    obtain ⟨z1, k1, hS1⟩ := vx_keep h0 e1 hS hA hf hL hF
    obtain ⟨t2, a1, b1⟩ := kk v9 u t T'.heap (locs ++ L) e1.symm (by rw [← e2]; exact X'.warmed.alike) hp hb z1 k1 hS1 T' rfl X'
    exact ⟨t2, st t2 a1, b1⟩
  · obtain ⟨z1, k1, hS1⟩ := vx_keep h0 e1 hS hAX hf hL hF
    obtain ⟨t2, a1, b1⟩ := kx E ce q9 u t T'.heap (locs ++ L) e1.symm (by rw [← e2]; exact X'.warmed.alike) hp hb z1 k1 hS1 (by rw [e1]; exact hce) hcv hcl T' rfl X'
    exact ⟨t2, Steps.trans st a1, b1⟩
end XC
end
section
/-! ===== what a method of the class asks of the state beside the store: links to nest mates, texts, the two statics of Throwable ===== -/
def pm_ws : List Cond := [.fieldLinkNest RX3 56 "UnionOffice$Band" "monthlyDues" "I" "UnionOffice", .fieldLinkNest RX2 46 "UnionOffice$Band" "monthlyDues" "I" "UnionOffice", .fieldLinkNest RX2 61 "UnionOffice$Branch" "laidOn" "[I" "UnionOffice", .fieldLinkNest RX3 179 "UnionOffice$Branch" "laidOn" "[I" "UnionOffice", .fieldLinkNest RX3 105 "UnionOffice$Branch" "hasBallot" "Z" "UnionOffice", .fieldLinkNest RX3 142 "UnionOffice$Branch" "mayStrike" "Z" "UnionOffice", .fieldLinkNest RX3 108 "UnionOffice$Branch" "isOnStrike" "Z" "UnionOffice", .fieldLinkNest RX3 183 "UnionOffice$Branch" "delegatesOfYear" "I" "UnionOffice", .fieldLinkNest RX3 175 "UnionOffice$Member" "laidOn" "[I" "UnionOffice", .fieldLinkNest RX3 81 "UnionOffice$Member" "branch" "LUnionOffice$Branch;" "UnionOffice", .fieldLinkNest RX3 85 "UnionOffice$Member" "band" "LUnionOffice$Band;" "UnionOffice", .fieldLinkNest RX3 89 "UnionOffice$Member" "isOnLeave" "Z" "UnionOffice", .fieldLinkNest RX3 93 "UnionOffice$Member" "hasLeft" "Z" "UnionOffice", .fieldLinkNest RX3 167 "UnionOffice$Member" "leftOver" "I" "UnionOffice", .fieldLinkNest RX3 180 "UnionOffice$Member" "strikePayHad" "I" "UnionOffice", .methodLinkNest RX3 11 yX0_init "UnionOffice", .methodLinkNest RX3 20 yX1_init "UnionOffice", .methodLinkNest RX3 70 yX2_init "UnionOffice", .methodLinkNest RX3 96 yX2_sumOwed "UnionOffice", .methodLinkNest RX3 101 yX2_takeIn "UnionOffice", .methodLinkNest RX3 113 yX1_beginBallot "UnionOffice", .methodLinkNest RX3 120 yX2_standsOn "UnionOffice", .methodLinkNest RX3 124 yX1_hasVoteOf "UnionOffice", .methodLinkNest RX1 35 yX2_bit "UnionOffice", .methodLinkNest RX3 130 yX1_takeVote "UnionOffice", .methodLinkNest RX3 134 yX1_countVotes "UnionOffice", .methodLinkNest RX3 139 yX1_endBallot "UnionOffice", .methodLinkNest RX3 145 yX1_canBeCalledOut "UnionOffice", .methodLinkNest RX3 210 yX2_charge "UnionOffice", .castable "java/lang/IndexOutOfBoundsException" "java/lang/IndexOutOfBoundsException", .castable "java/lang/IllegalArgumentException" "java/lang/IllegalArgumentException", .castable "java/lang/IllegalStateException" "java/lang/IllegalStateException", .declares (Bundle.initS "java/lang/Throwable"), .declares (Bundle.initS "java/lang/Exception"), .declares (Bundle.initS "java/lang/RuntimeException")]
def pm_st : List (Nat × String) := [(188, "no such band"), (197, "out of range"), (191, "no such branch"), (65, "the union has all its members"), (193, "no such member"), (195, "the member has left"), (111, "the branch has a ballot or is on strike"), (128, "the member can't vote"), (137, "the branch has no ballot"), (149, "the branch can't be called out, or is not on strike"), (151, "the day would be above the last one"), (161, "the month has not ended, or is folded"), (199, "the month has not ended"), (173, "the month is folded")]
def pm_ok : Cond → Bool
  | .fieldLinkNest .. => true
  | .methodLinkNest .. => true
  | .castable .. => true
  | .declares _ => true
  | _ => false
theorem pm_ok_all : ∀ w ∈ pm_ws, pm_ok w = true := by decide +kernel
theorem pm_warm {w : Cond} {s U : State} (hk : pm_ok w = true) (hW : s.WarmedH U.vm) (h : va_Nw w s) : va_Nw w U := by
  cases w <;> first | exact va_Nw.warmF hW h | exact va_Nw.warmM hW h | exact va_Nw.warmC hW h | exact va_Nw.warmD hW h | (simp [pm_ok] at hk)
theorem pm_tab {w : Cond} (hk : pm_ok w = true) : w.onTables = true := by
  cases w <;> first | rfl | (simp [pm_ok] at hk)
def PM (U : State) : Prop := (∀ w ∈ pm_ws, va_Nw w U) ∧ ∀ q ∈ pm_st, ∃ sa : Nat, vk_R "UnionOffice" q.1 q.2 sa U
theorem PM.warm {s U : State} (hW : s.WarmedH U.vm) (h : PM s) : PM U :=
  ⟨fun w hw => pm_warm (pm_ok_all w hw) hW (h.1 w hw), fun q hq => by obtain ⟨sa, h1⟩ := h.2 q hq; exact ⟨sa, vk_R.warm hW h1⟩⟩
theorem PM.same {u U : State} (hv : U.vm = u.vm) (h : PM u) : PM U :=
  ⟨fun w hw => va_Nw.same (pm_tab (pm_ok_all w hw)) hv.symm (h.1 w hw), fun q hq => by obtain ⟨sa, h1⟩ := h.2 q hq; exact ⟨sa, vk_R.same hv h1⟩⟩
theorem PM.w {s : State} (h : PM s) {w : Cond} (hw : w ∈ pm_ws) : va_Nw w s := h.1 w hw
def PZ (A : Nat → Prop) (U : State) (H : Heap) : Prop := vx_Zq Bundle.tN "UNASSIGNED_STACK" Bundle.steD A U H ∧ vx_Zq Bundle.tN "SUPPRESSED_SENTINEL" Bundle.listD A U H
theorem PZ.moved {A : Nat → Prop} {u U : State} {H : Heap} (hvm : u.vm.Alike U.vm) (h : PZ A u H) : PZ A U H := ⟨h.1.moved hvm, h.2.moved hvm⟩
theorem PZ.kept {A : Nat → Prop} {U : State} {H H1 : Heap} (h : PZ A U H) (hq : ∀ a : Nat, a < H.size → ¬ A a → H1[a]? = H[a]?) : PZ A U H1 := ⟨h.1.kept hq, h.2.kept hq⟩
theorem PZ.narrow {A B : Nat → Prop} {U : State} {H : Heap} (h : PZ A U H) (hAB : ∀ q, B q → A q) : PZ B U H := ⟨h.1.narrow hAB, h.2.narrow hAB⟩
def cX (ad : Nat → Nat) (N : Nat) : Nat → State → Prop := fun sz U => PM U ∧ PZ (xA ad N sz) U U.heap
theorem cX_ok (ad : Nat → Nat) (N : Nat) : XOK ad N (cX ad N) := by
  refine ⟨fun sz a U g mk h => ⟨PM.same (u := U) (U := U.calling g mk a) rfl h.1, PZ.moved (u := U) (U := U.calling g mk a) (Vm.Alike.refl U.vm) h.2⟩, fun s U hW h hz hq => ⟨h.1.warm hW, ?_⟩⟩
  exact ((h.2.moved hW.alike).kept hq).narrow (xA_mono hz)
abbrev nm2 : List String := ["java/lang/RuntimeException", "java/lang/Exception"]
abbrev xIO : String := "java/lang/IndexOutOfBoundsException"
abbrev xIA : String := "java/lang/IllegalArgumentException"
abbrev xIS : String := "java/lang/IllegalStateException"
theorem tg_IO : (∀ w ∈ (vx_atS RX3 190 xIO nm2).filter (fun w => !goodWord w), w ∈ pm_ws) ∧ ∀ w ∈ Cond.classLink RX3 186 xIO :: Cond.initialized xIO :: vx_atS RX3 190 xIO nm2, vx_ot w = true := ⟨by decide +kernel, by decide +kernel⟩
theorem tg_IA : (∀ w ∈ (vx_atS RX3 163 xIA nm2).filter (fun w => !goodWord w), w ∈ pm_ws) ∧ ∀ w ∈ Cond.classLink RX3 159 xIA :: Cond.initialized xIA :: vx_atS RX3 163 xIA nm2, vx_ot w = true := ⟨by decide +kernel, by decide +kernel⟩
theorem tg_IS : (∀ w ∈ (vx_atS RX3 67 xIS nm2).filter (fun w => !goodWord w), w ∈ pm_ws) ∧ ∀ w ∈ Cond.classLink RX3 63 xIS :: Cond.initialized xIS :: vx_atS RX3 67 xIS nm2, vx_ot w = true := ⟨by decide +kernel, by decide +kernel⟩
section XS
variable {p : Program} {l : Launch} {e : Env} {R rm : Room} {s : State} {m : MethodId} {args : Array Value} {below : List Frame} {meth : Method} {c : Code} {H : Heap} {locs : List Loc} {cells slots mc ms : Nat} {Q : State → Prop}
variable {cc : ByteArray} {pc : Nat} {ls : Array Slot} {rest st : List Value} {D : va_G} {tys : List (ClassId × FieldType)} {ad : Nat → Nat} {N nL : Nat} {g : Nat → va_E} {a : Array Value} {Ts : List Cond} {own : String} {S : Type} {E : S → Nat → va_E} {σ τ : S} {X : Nat → State → Prop}
/-- a text thrown in the class: nothing has changed -/
theorem xt_throw {post : Option Value → S → Prop} {err : String → Prop} {cls text : String} {ik is ic : Nat} (S0 : CallFix p m c cc nL s args Ts RX3) (hl : l.stackTraces = false) (hlocks : meth.locks = false) (htb : ∀ x ∈ c.exceptionTable.toList, False)
    (hw : XW D tys (xA ad N s.heap.size) s ad N (E σ) H locs) (hX : cX ad N s.heap.size s) (hsize : ls.size = nL) (hcls : Bundle.fit cls = true) (hk : Cond.classLink RX3 ik cls ∈ Ts) (hini : Cond.initialized cls ∈ Ts) (hat : ∀ w ∈ (vx_atS RX3 ic cls nm2).filter goodWord, w ∈ Ts)
    (tg : (∀ w ∈ (vx_atS RX3 ic cls nm2).filter (fun w => !goodWord w), w ∈ pm_ws) ∧ ∀ w ∈ Cond.classLink RX3 ik cls :: Cond.initialized cls :: vx_atS RX3 ic cls nm2, vx_ot w = true) (hstr : (is, text) ∈ pm_st)
    (d0 : decode cc pc = .ok (.new ik, 3)) (d3 : decode cc (pc + 3) = .ok (.dup, 1)) (d4 : decode cc (pc + 4) = .ok (.ldc is, 2)) (d6 : decode cc (pc + 6) = .ok (.invokespecial ic, 3)) (d9 : decode cc (pc + 9) = .ok (.athrow, 1))
    (hRf : 5 < rm.frames) (hRl : (rest.map fun v => v.category).sum + 82 ≤ rm.locals) (hc : cells + 1 ≤ rm.cells) (hs : slots + 6 ≤ rm.slots) (herr : err cls) :
    W p l e rm s m args below meth c H locs cells slots (vx_MQ below (xQ post (xB D ad N E (xA ad N s.heap.size)) (xA ad N s.heap.size)) (xX D ad N s.heap.size E σ err) args s rm.cells rm.slots (xA ad N s.heap.size)) (F0 m pc ls rest) := by
  obtain ⟨hx, hb, hml, hown, hts⟩ := S0
  obtain ⟨sa, hsa⟩ := hX.1.2 _ hstr
  refine vx_throwS (names := nm2) (A := xA ad N s.heap.size) hx hb hl hown hcls (by decide) (hts _ hk) (hts _ hini) hsa (vx_hat (B := pm_ws) (fun w h => hts w (hat w h)) tg.1 (fun w h => va_Nw.use (pm_tab (pm_ok_all w h)) (hX.1.w h))) tg.2 hX.2.1 hX.2.2 hw.2.2.2.1 (hsize.trans hml.symm) d0 d3 d4 d6 d9 (fun x h => (htb x h).elim) hRf hRl (by omega) (by omega) hlocks (fun t hvm hz hq => ?_) hw.2.2.2.1.2.2 hc hs
  have hS := hw.2.2.2.1
  refine ⟨(), trivial, ⟨herr, hw.2.1.kept (fun k q hk => hq q.1 (hw.2.1 k q hk).lt), hw.2.2.1⟩, Nat.le_trans hS.1 hz, fun q h1 h2 => ?_⟩
  rw [hq q (Nat.lt_of_lt_of_le h1 hS.1)]
  exact hS.2.1 q h1 h2
/-! ends -/
theorem xe_i {pi : Int32 → S → Prop} {v : Int32} (hx : p.tables.exec = Jvm.exec) (hb : c.code = cc) (hr : meth.sig.returnType = some .int) (hlocks : meth.locks = false) (hw : XW D tys (xA ad N s.heap.size) s ad N (E τ) H locs) (hp : pi v τ) (hc : cells ≤ mc) (hs : slots ≤ ms) (hdg : decode cc pc = .ok (.ireturn, 1)) :
    W p l e R s m args below meth c H locs cells slots (MQ below (xQ (xPi pi) (xB D ad N E (xA ad N s.heap.size)) (xA ad N s.heap.size)) args s mc ms (xA ad N s.heap.size)) (F0 m pc ls [.int v]) := by
  refine W.widen hc hs ?_
  exact W.iret hx hb hr (fun t ht hW => ⟨⟨_, τ, rfl, ⟨v, rfl, hp⟩, by rw [ht]; exact hw.2.1, hw.2.2.1⟩, hw.2.2.2.1.F ht⟩) hw.2.2.2.1.2.2 hdg hlocks
theorem xe_z {pi : Int32 → S → Prop} {v : Int32} (hx : p.tables.exec = Jvm.exec) (hb : c.code = cc) (hr : meth.sig.returnType = some .boolean) (hv : v = 0 ∨ v = 1) (hlocks : meth.locks = false) (hw : XW D tys (xA ad N s.heap.size) s ad N (E τ) H locs) (hp : pi v τ) (hc : cells ≤ mc) (hs : slots ≤ ms) (hdg : decode cc pc = .ok (.ireturn, 1)) :
    W p l e R s m args below meth c H locs cells slots (MQ below (xQ (xPi pi) (xB D ad N E (xA ad N s.heap.size)) (xA ad N s.heap.size)) args s mc ms (xA ad N s.heap.size)) (F0 m pc ls [.int v]) := by
  refine W.widen hc hs ?_
  exact W.zret hx hb hr (by rcases hv with rfl | rfl <;> rfl) (fun t ht hW => ⟨⟨_, τ, rfl, ⟨v, rfl, hp⟩, by rw [ht]; exact hw.2.1, hw.2.2.1⟩, hw.2.2.2.1.F ht⟩) hw.2.2.2.1.2.2 hdg hlocks
theorem xe_v {pv : S → Prop} (hx : p.tables.exec = Jvm.exec) (hb : c.code = cc) (hr : meth.sig.returnType = none) (hlocks : meth.locks = false) (hw : XW D tys (xA ad N s.heap.size) s ad N (E τ) H locs) (hp : pv τ) (hc : cells ≤ mc) (hs : slots ≤ ms) (hdg : decode cc pc = .ok (.return_, 1)) :
    W p l e R s m args below meth c H locs cells slots (MQ below (xQ (xPv pv) (xB D ad N E (xA ad N s.heap.size)) (xA ad N s.heap.size)) args s mc ms (xA ad N s.heap.size)) (F0 m pc ls []) := by
  refine W.widen hc hs ?_
  exact W.vret hx hb hr (fun t ht hW => ⟨⟨_, τ, rfl, ⟨rfl, hp⟩, by rw [ht]; exact hw.2.1, hw.2.2.1⟩, hw.2.2.2.1.F ht⟩) hw.2.2.2.1.2.2 hdg hlocks
theorem xe_r {pr : Nat → S → Prop} {v : Nat} {nm : String} (hx : p.tables.exec = Jvm.exec) (hb : c.code = cc) (hr : meth.sig.returnType = some (.object nm)) (hlocks : meth.locks = false) (hw : XW D tys (xA ad N s.heap.size) s ad N (E τ) H locs) (hp : pr v τ) (hc : cells ≤ mc) (hs : slots ≤ ms) (hdg : decode cc pc = .ok (.areturn, 1)) :
    W p l e R s m args below meth c H locs cells slots (MQ below (xQ (xPr pr) (xB D ad N E (xA ad N s.heap.size)) (xA ad N s.heap.size)) args s mc ms (xA ad N s.heap.size)) (F0 m pc ls [.ref v]) := by
  refine W.widen hc hs ?_
  exact W.aret hx hb hr (Or.inl ⟨nm, rfl⟩) (Or.inr ⟨v, rfl⟩) (fun t ht hW => ⟨⟨_, τ, rfl, ⟨v, rfl, hp⟩, by rw [ht]; exact hw.2.1, hw.2.2.1⟩, hw.2.2.2.1.F ht⟩) hw.2.2.2.1.2.2 hdg hlocks
/-! starts -/
theorem xs_M {y : MethodName} {ws ws' : List Cond} {maxL : Nat} {ret : Option FieldType} {av : List Value} {post : Option Value → S → Prop} (hy : plainName y.cls = true) (hws : ws = Cond.code y cc maxL ret :: ws') (hlen : (lg_sl av).length ≤ maxL)
    (body : ∀ (p : Program) (e : Env) (s : State) (m : MethodId) (below : List Frame) (meth : Method) (c : Code) (ls : Array Slot), CallFix p m c cc maxL s av.toArray ws y.cls → meth.sig.returnType = ret → meth.locks = false → meth.name = y.name → XW D tys (xA ad N s.heap.size) s ad N (E σ) s.heap [] → X s.heap.size s → lv_has ls maxL (lv_args 0 av) →
      W p l e rm s m av.toArray below meth c s.heap [] 0 0 (MQ below (xQ post (xB D ad N E (xA ad N s.heap.size)) (xA ad N s.heap.size)) av.toArray s rm.cells rm.slots (xA ad N s.heap.size)) (F0 m 0 ls [])) : XM l y ws rm D tys ad N X E av σ post := by
  intro sz
  refine Met.ofW (cc := cc) (maxL := maxL) (ret := ret) hy hws ?_
  intro p e s m args below meth c s₁ B hml hv
  obtain ⟨rfl, hsz, hK, hP, hD, hX⟩ := hv
  subst hsz
  rw [lg_entry_eq]
  exact body p e s m below meth c _ ⟨B.exec, B.bytes, hml, findClass_of_methodNamed B.named, atoms_spec (ws := ws) B.pre⟩ B.returns B.notSynchronized (name_of_methodNamed B.named B.method).1
    ⟨hK, hP, xD_any hD (fun k h => xA_in h), va_S.rf, fun q h => Or.inr h⟩ hX (lv_entry av hlen)
theorem xs_T {y : MethodName} {ws ws' : List Cond} {maxL : Nat} {ret : Option FieldType} {av : List Value} {post : Option Value → S → Prop} {err : String → Prop} (hy : plainName y.cls = true) (hws : ws = Cond.code y cc maxL ret :: ws') (hlen : (lg_sl av).length ≤ maxL)
    (body : ∀ (p : Program) (e : Env) (s : State) (m : MethodId) (below : List Frame) (meth : Method) (c : Code) (ls : Array Slot), CallFix p m c cc maxL s av.toArray ws y.cls → meth.sig.returnType = ret → meth.locks = false → (∀ x ∈ c.exceptionTable.toList, False) → XW D tys (xA ad N s.heap.size) s ad N (E σ) s.heap [] → X s.heap.size s → lv_has ls maxL (lv_args 0 av) →
      W p l e rm s m av.toArray below meth c s.heap [] 0 0 (vx_MQ below (xQ post (xB D ad N E (xA ad N s.heap.size)) (xA ad N s.heap.size)) (xX D ad N s.heap.size E σ err) av.toArray s rm.cells rm.slots (xA ad N s.heap.size)) (F0 m 0 ls [])) : XT l y ws rm D tys ad N X E av σ post err := by
  intro sz
  refine vx_ofW (cc := cc) (maxL := maxL) (ret := ret) hy hws ?_
  intro p e s m args below meth c s₁ B hml htb hv
  obtain ⟨rfl, hsz, hK, hP, hD, hX⟩ := hv
  subst hsz
  rw [lg_entry_eq]
  exact body p e s m below meth c _ ⟨B.exec, B.bytes, hml, findClass_of_methodNamed B.named, atoms_spec (ws := ws) B.pre⟩ B.returns B.notSynchronized htb
    ⟨hK, hP, xD_any hD (fun k h => xA_in h), va_S.rf, fun q h => Or.inr h⟩ hX (lv_entry av hlen)
/-! calls -/
theorem xc_pre (hX : XOK ad N X) (hXs : X s.heap.size s) (hw : XW D tys (xA ad N s.heap.size) s ad N g H locs) (av : List Value) : FrameBlind (xPre D tys ad N g (X H.size) H.size av) ∧ ∀ U : State, U.heap = H → s.WarmedH U.vm → xPre D tys ad N g (X H.size) H.size av av.toArray U := by
  refine ⟨fun a U g mk q => ?_, fun U hU hW => ?_⟩
  · obtain ⟨q0, q1, qK, qP, qD, qX⟩ := q
    exact ⟨q0, q1, va_K.moved (u := U) (U := U.calling g mk a) (Vm.Alike.refl U.vm) qK, qP, qD, hX.1 _ _ _ _ _ qX⟩
  · subst hU
    exact ⟨rfl, rfl, va_K.moved hW.alike hw.1, hw.2.1, hw.2.2.1.weaken (fun _ _ _ _ => trivial), hX.2 s U hW hXs hw.2.2.2.1.1 hw.2.2.2.1.2.1⟩
theorem xc_preV (hX : XOK ad N X) (hXs : X s.heap.size s) (hw : XW D tys (xA ad N s.heap.size) s ad N g H locs) {k ci : Nat} {fs : List Value} {q : vw_C} {C : String} {As : List Value} (hk : k < N) (hg : g k = .inr (ci, fs)) (hc : vwCl[ci]? = some q) (hC : q.1 = C) : PreV s H C (ad k) (xPre D tys ad N g (X H.size) H.size (.ref (ad k) :: As)) As := by
  obtain ⟨h1, h2⟩ := xc_pre hX hXs hw (.ref (ad k) :: As)
  subst hC
  exact ⟨h1, va_recv hw.1 hw.2.1 hc ((st_get hk).trans (by rw [hg])), h2⟩
theorem xc_preS (hX : XOK ad N X) (hXs : X s.heap.size s) (hw : XW D tys (xA ad N s.heap.size) s ad N g H locs) (As : List Value) : PreS s H (xPre D tys ad N g (X H.size) H.size As) As := xc_pre hX hXs hw As
theorem xc_M {post : Option Value → S → Prop} (hw : XW D tys (xA ad N s.heap.size) s ad N g H locs) (hr : va_Run p l e R s m args below meth c H locs cells slots mc ms (F0 m pc ls st) rest (xQ post (xB D ad N E (xA ad N H.size)) (xA ad N H.size) a) (xA ad N H.size))
    (kk : ∀ (v : Option Value) (u : S) (H1 : Heap) (locs1 : List Loc), post v u → XW D tys (xA ad N s.heap.size) s ad N (E u) H1 locs1 → W p l e R s m args below meth c H1 locs1 (cells + mc) (slots + ms) Q (F0 m (pc + 3) ls (v.toList ++ rest))) : W p l e R s m args below meth c H locs cells slots Q (F0 m pc ls st) := by
  have hm := xA_mono (ad := ad) (N := N) hw.2.2.2.1.1
  refine xc_go hr hw.2.2.2.1 (fun q _ h => hm q h) hm (fun v u t H1 locs1 ht hvm hp hb hz hk hS => ?_)
  rw [← ht] at hS ⊢
  exact kk v u t.heap locs1 hp ⟨hw.1, hb.1, xD_any hb.2 (fun k h => xA_in h), hS, hw.2.2.2.2⟩
theorem xc_Mi {pi : Int32 → S → Prop} (hw : XW D tys (xA ad N s.heap.size) s ad N g H locs) (hr : va_Run p l e R s m args below meth c H locs cells slots mc ms (F0 m pc ls st) rest (xQ (xPi pi) (xB D ad N E (xA ad N H.size)) (xA ad N H.size) a) (xA ad N H.size))
    (kk : ∀ (r : Int32) (u : S) (H1 : Heap) (locs1 : List Loc), pi r u → XW D tys (xA ad N s.heap.size) s ad N (E u) H1 locs1 → W p l e R s m args below meth c H1 locs1 (cells + mc) (slots + ms) Q (F0 m (pc + 3) ls (.int r :: rest))) : W p l e R s m args below meth c H locs cells slots Q (F0 m pc ls st) := by
  refine xc_M hw hr (fun v u H1 locs1 hp hw1 => ?_)
  obtain ⟨r, rfl, hp⟩ := hp
  exact kk r u H1 locs1 hp hw1
theorem xc_Mv {pv : S → Prop} (hw : XW D tys (xA ad N s.heap.size) s ad N g H locs) (hr : va_Run p l e R s m args below meth c H locs cells slots mc ms (F0 m pc ls st) rest (xQ (xPv pv) (xB D ad N E (xA ad N H.size)) (xA ad N H.size) a) (xA ad N H.size))
    (kk : ∀ (u : S) (H1 : Heap) (locs1 : List Loc), pv u → XW D tys (xA ad N s.heap.size) s ad N (E u) H1 locs1 → W p l e R s m args below meth c H1 locs1 (cells + mc) (slots + ms) Q (F0 m (pc + 3) ls rest)) : W p l e R s m args below meth c H locs cells slots Q (F0 m pc ls st) := by
  refine xc_M hw hr (fun v u H1 locs1 hp hw1 => ?_)
  obtain ⟨rfl, hp⟩ := hp
  exact kk u H1 locs1 hp hw1
/-- a call that may throw, uncaught here; till then nothing has been changed -/
theorem xc_T {post : Option Value → S → Prop} {postC : Option Value → S → Prop} {err errC : String → Prop} (htb : ∀ x ∈ c.exceptionTable.toList, False) (hlocks : meth.locks = false) (hw : XW D tys (xA ad N s.heap.size) s ad N (E σ) H locs)
    (hr : vx_Run p l e R s m args below meth c H locs cells slots mc ms (F0 m pc ls st) rest (xQ post (xB D ad N E (xA ad N H.size)) (xA ad N H.size) a) (xX D ad N H.size E σ err) (xA ad N H.size)) (hce : ∀ E9, err E9 → errC E9) (hmc : cells + mc ≤ rm.cells) (hms : slots + ms ≤ rm.slots)
    (kk : ∀ (v : Option Value) (u : S) (H1 : Heap) (locs1 : List Loc), post v u → XW D tys (xA ad N s.heap.size) s ad N (E u) H1 locs1 → W p l e R s m args below meth c H1 locs1 (cells + mc) (slots + ms) (vx_MQ below (xQ postC (xB D ad N E (xA ad N s.heap.size)) (xA ad N s.heap.size)) (xX D ad N s.heap.size E σ errC) args s rm.cells rm.slots (xA ad N s.heap.size)) (F0 m (pc + 3) ls (v.toList ++ rest))) :
    W p l e R s m args below meth c H locs cells slots (vx_MQ below (xQ postC (xB D ad N E (xA ad N s.heap.size)) (xA ad N s.heap.size)) (xX D ad N s.heap.size E σ errC) args s rm.cells rm.slots (xA ad N s.heap.size)) (F0 m pc ls st) := by
  have hm := xA_mono (ad := ad) (N := N) hw.2.2.2.1.1
  refine xc_goX hr hw.2.2.2.1 (fun q _ h => hm q h) hm (fun q _ h => hm q h) (fun E9 ce q9 u t H1 locs1 ht hvm _ hb hz hk hS hce9 hcv hcl => ?_) (fun v u t H1 locs1 ht hvm hp hb hz hk hS => ?_)
  · refine vx_out (fun x h => (htb x h).elim) hlocks hce9 hcv hcl (fun t' ht' hvm' => ?_) hS.2.2 hmc hms
    rw [← ht] at ht' hS
    exact ⟨(), trivial, ⟨hce E9 hb.1, by rw [ht']; exact hb.2.1, xD_any hb.2.2 (fun k h => xA_in h)⟩, hS.F ht'⟩
  · rw [← ht] at hS ⊢
    exact kk v u t.heap locs1 hp ⟨hw.1, hb.1, xD_any hb.2 (fun k h => xA_in h), hS, hw.2.2.2.2⟩
end XS
end
section
/-! ===== the state of the class: a number at component k, index i, month m ===== -/
-- 0 dues of band i; 1, 2 branch and band of member i; 3 hasLeft; 4 isOnLeave; 5 leftOver; 6 strikePayHad; 7 owedFor; 8 laidOn of a member; 9 laidOn of a branch; 10 hasBallot; 11 yesVoters; 12 voters; 13 mayStrike; 14 isOnStrike; 16 delegates; 17 strike pay; 18 today; 19 fund; 20 foldedMonths; 22 earliestOwed
abbrev S3 : Type := Nat → Nat → Nat → Int32
def su (σ : S3) (k i m : Nat) (v : Int32) : S3 := fun a b c => if a = k then (if b = i then (if c = m then v else σ a b c) else σ a b c) else σ a b c
def br (σ : S3) (i : Nat) : Nat := (σ 1 i 0).toNatClampNeg % 4
def bd (σ : S3) (i : Nat) : Nat := (σ 2 i 0).toNatClampNeg % 3
def eo (σ : S3) (i : Nat) : Nat := (σ 22 i 0).toNatClampNeg % 61
def fo (σ : S3) : Nat := (σ 20 0 0).toNatClampNeg
theorem br_lt (σ : S3) (i : Nat) : br σ i < 4 := Nat.mod_lt _ (by decide)
theorem bd_lt (σ : S3) (i : Nat) : bd σ i < 3 := Nat.mod_lt _ (by decide)
theorem eo_le (σ : S3) (i : Nat) : eo σ i ≤ 60 := Nat.le_of_lt_succ (Nat.mod_lt _ (by decide))
theorem su_same (σ : S3) (k i m : Nat) (v : Int32) : su σ k i m v k i m = v := by simp [su]
theorem su_k {σ : S3} {k i m a b c : Nat} {v : Int32} (h : a ≠ k) : su σ k i m v a b c = σ a b c := by simp [su, h]
theorem su_i {σ : S3} {k i m a b c : Nat} {v : Int32} (h : b ≠ i) : su σ k i m v a b c = σ a b c := by simp [su, h]
theorem su_m {σ : S3} {k i m a b c : Nat} {v : Int32} (h : c ≠ m) : su σ k i m v a b c = σ a b c := by simp [su, h]
/-- the class ids of the arrays: int[], boolean[], Band[], Branch[], Member[], long[] -/
abbrev tyL (cy : Nat → ClassId) : List (ClassId × FieldType) := [(cy 0, .int), (cy 1, .boolean), (cy 2, .object RX0), (cy 3, .object RX1), (cy 4, .object RX2), (cy 5, .long)]
abbrev eOff (ad : Nat → Nat) (n : Nat) (σ : S3) : va_E := .inr (3, [.ref (ad 1), .ref (ad 2), .ref (ad 3), .int (nI n), .int (σ 17 0 0), .int (σ 18 0 0), .int (σ 19 0 0), .int (nI (fo σ))])
abbrev eBds (cy : Nat → ClassId) (ad : Nat → Nat) : va_E := .inl (cy 2, 3, .inr (.inr (.inr (.inr (fun j => if j < 3 then some (ad (4 + j)) else none)))))
abbrev eBrs (cy : Nat → ClassId) (ad : Nat → Nat) : va_E := .inl (cy 3, 4, .inr (.inr (.inr (.inr (fun j => if j < 4 then some (ad (7 + j)) else none)))))
abbrev eMms (cy : Nat → ClassId) (ad : Nat → Nat) (n : Nat) : va_E := .inl (cy 4, 16, .inr (.inr (.inr (.inr (fun j => if j < n then some (ad (15 + 3 * j)) else none)))))
abbrev eBand (σ : S3) (b : Nat) : va_E := .inr (0, [.int (σ 0 b 0)])
abbrev eBr (ad : Nat → Nat) (σ : S3) (b : Nat) : va_E := .inr (1, [.ref (ad (11 + b)), .int (σ 10 b 0), .int (σ 12 b 0), .int (σ 11 b 0), .int (σ 13 b 0), .int (σ 14 b 0), .int (σ 16 b 0)])
abbrev eArr (cy : Nat → ClassId) (f : Nat → Int32) : va_E := .inl (cy 0, 60, .inl f)
abbrev eMem (ad : Nat → Nat) (σ : S3) (i : Nat) : va_E := .inr (2, [.int (nI i), .ref (ad (16 + 3 * i)), .ref (ad (17 + 3 * i)), .ref (ad (7 + br σ i)), .ref (ad (4 + bd σ i)), .int (σ 4 i 0), .int (σ 3 i 0), .int (σ 5 i 0), .int (σ 6 i 0), .int (nI (eo σ i))])
def cE (cy : Nat → ClassId) (ad : Nat → Nat) (n : Nat) (σ : S3) (k : Nat) : va_E :=
  if k = 0 then eOff ad n σ else if k = 1 then eBds cy ad else if k = 2 then eBrs cy ad else if k = 3 then eMms cy ad n
  else if k < 7 then eBand σ (k - 4) else if k < 11 then eBr ad σ (k - 7) else if k < 15 then eArr cy (σ 9 (k - 11))
  else if (k - 15) % 3 = 0 then eMem ad σ ((k - 15) / 3) else if (k - 15) % 3 = 1 then eArr cy (σ 7 ((k - 15) / 3)) else eArr cy (σ 8 ((k - 15) / 3))
section CE
variable (cy : Nat → ClassId) (ad : Nat → Nat) (n : Nat) (σ : S3)
theorem cE_0 : cE cy ad n σ 0 = eOff ad n σ := rfl
theorem cE_1 : cE cy ad n σ 1 = eBds cy ad := rfl
theorem cE_2 : cE cy ad n σ 2 = eBrs cy ad := rfl
theorem cE_3 : cE cy ad n σ 3 = eMms cy ad n := rfl
theorem cE_band {b : Nat} (h : b < 3) : cE cy ad n σ (4 + b) = eBand σ b := by
  unfold cE
  rw [if_neg (by omega), if_neg (by omega), if_neg (by omega), if_neg (by omega), if_pos (by omega), Nat.add_sub_cancel_left]
theorem cE_br {b : Nat} (h : b < 4) : cE cy ad n σ (7 + b) = eBr ad σ b := by
  unfold cE
  rw [if_neg (by omega), if_neg (by omega), if_neg (by omega), if_neg (by omega), if_neg (by omega), if_pos (by omega), Nat.add_sub_cancel_left]
theorem cE_la {b : Nat} (h : b < 4) : cE cy ad n σ (11 + b) = eArr cy (σ 9 b) := by
  unfold cE
  rw [if_neg (by omega), if_neg (by omega), if_neg (by omega), if_neg (by omega), if_neg (by omega), if_neg (by omega), if_pos (by omega), Nat.add_sub_cancel_left]
theorem cE_m (i : Nat) : cE cy ad n σ (15 + 3 * i) = eMem ad σ i := by
  unfold cE
  rw [if_neg (by omega), if_neg (by omega), if_neg (by omega), if_neg (by omega), if_neg (by omega), if_neg (by omega), if_neg (by omega), if_pos (by omega), show (15 + 3 * i - 15) / 3 = i by omega]
theorem cE_ow (i : Nat) : cE cy ad n σ (16 + 3 * i) = eArr cy (σ 7 i) := by
  unfold cE
  rw [if_neg (by omega), if_neg (by omega), if_neg (by omega), if_neg (by omega), if_neg (by omega), if_neg (by omega), if_neg (by omega), if_neg (by omega), if_pos (by omega), show (16 + 3 * i - 15) / 3 = i by omega]
theorem cE_ml (i : Nat) : cE cy ad n σ (17 + 3 * i) = eArr cy (σ 8 i) := by
  unfold cE
  rw [if_neg (by omega), if_neg (by omega), if_neg (by omega), if_neg (by omega), if_neg (by omega), if_neg (by omega), if_neg (by omega), if_neg (by omega), if_neg (by omega), show (17 + 3 * i - 15) / 3 = i by omega]
theorem cE_cases (j : Nat) : j = 0 ∨ j = 1 ∨ j = 2 ∨ j = 3 ∨ (∃ b, b < 3 ∧ j = 4 + b) ∨ (∃ b, b < 4 ∧ j = 7 + b) ∨ (∃ b, b < 4 ∧ j = 11 + b) ∨ (∃ i, j = 15 + 3 * i) ∨ (∃ i, j = 16 + 3 * i) ∨ ∃ i, j = 17 + 3 * i := by
  by_cases h : j < 15
  · by_cases h7 : j < 7
    · by_cases h4 : j < 4
      · omega
      · exact Or.inr (Or.inr (Or.inr (Or.inr (Or.inl ⟨j - 4, by omega, by omega⟩))))
    · by_cases h11 : j < 11
      · exact Or.inr (Or.inr (Or.inr (Or.inr (Or.inr (Or.inl ⟨j - 7, by omega, by omega⟩)))))
      · exact Or.inr (Or.inr (Or.inr (Or.inr (Or.inr (Or.inr (Or.inl ⟨j - 11, by omega, by omega⟩))))))
  · have h3 : (j - 15) % 3 = 0 ∨ (j - 15) % 3 = 1 ∨ (j - 15) % 3 = 2 := by omega
    rcases h3 with h3 | h3 | h3
    · exact Or.inr (Or.inr (Or.inr (Or.inr (Or.inr (Or.inr (Or.inr (Or.inl ⟨(j - 15) / 3, by omega⟩)))))))
    · exact Or.inr (Or.inr (Or.inr (Or.inr (Or.inr (Or.inr (Or.inr (Or.inr (Or.inl ⟨(j - 15) / 3, by omega⟩))))))))
    · exact Or.inr (Or.inr (Or.inr (Or.inr (Or.inr (Or.inr (Or.inr (Or.inr (Or.inr ⟨(j - 15) / 3, by omega⟩))))))))
end CE
theorem cE_ext {cy : Nat → ClassId} {ad : Nat → Nat} {n : Nat} {σ τ : S3} {j : Nat} (h0 : j = 0 → τ 17 0 0 = σ 17 0 0 ∧ τ 18 0 0 = σ 18 0 0 ∧ τ 19 0 0 = σ 19 0 0 ∧ τ 20 0 0 = σ 20 0 0)
    (hb : ∀ b, j = 4 + b → τ 0 b 0 = σ 0 b 0) (hbr : ∀ b, j = 7 + b → τ 10 b 0 = σ 10 b 0 ∧ τ 12 b 0 = σ 12 b 0 ∧ τ 11 b 0 = σ 11 b 0 ∧ τ 13 b 0 = σ 13 b 0 ∧ τ 14 b 0 = σ 14 b 0 ∧ τ 16 b 0 = σ 16 b 0) (hla : ∀ b m, j = 11 + b → τ 9 b m = σ 9 b m)
    (hm : ∀ i, j = 15 + 3 * i → τ 1 i 0 = σ 1 i 0 ∧ τ 2 i 0 = σ 2 i 0 ∧ τ 4 i 0 = σ 4 i 0 ∧ τ 3 i 0 = σ 3 i 0 ∧ τ 5 i 0 = σ 5 i 0 ∧ τ 6 i 0 = σ 6 i 0 ∧ τ 22 i 0 = σ 22 i 0) (how : ∀ i m, j = 16 + 3 * i → τ 7 i m = σ 7 i m) (hml : ∀ i m, j = 17 + 3 * i → τ 8 i m = σ 8 i m) : cE cy ad n σ j = cE cy ad n τ j := by
  rcases cE_cases j with h | h | h | h | ⟨b, h1, h⟩ | ⟨b, h1, h⟩ | ⟨b, h1, h⟩ | ⟨i, h⟩ | ⟨i, h⟩ | ⟨i, h⟩
  · obtain ⟨e1, e2, e3, e4⟩ := h0 h
    rw [h, cE_0, cE_0]; simp only [eOff, fo, e1, e2, e3, e4]
  · rw [h, cE_1, cE_1]
  · rw [h, cE_2, cE_2]
  · rw [h, cE_3, cE_3]
  · have e1 := hb b h
    rw [h, cE_band _ _ _ _ h1, cE_band _ _ _ _ h1]; simp only [eBand, e1]
  · obtain ⟨e1, e2, e3, e4, e5, e6⟩ := hbr b h
    rw [h, cE_br _ _ _ _ h1, cE_br _ _ _ _ h1]; simp only [eBr, e1, e2, e3, e4, e5, e6]
  · rw [h, cE_la _ _ _ _ h1, cE_la _ _ _ _ h1, show τ 9 b = σ 9 b from funext fun m => hla b m h]
  · obtain ⟨e1, e2, e3, e4, e5, e6, e7⟩ := hm i h
    rw [h, cE_m, cE_m]; simp only [eMem, br, bd, eo, e1, e2, e3, e4, e5, e6, e7]
  · rw [h, cE_ow, cE_ow, show τ 7 i = σ 7 i from funext fun m => how i m h]
  · rw [h, cE_ml, cE_ml, show τ 8 i = σ 8 i from funext fun m => hml i m h]
theorem up_of {cy : Nat → ClassId} {ad : Nat → Nat} {n : Nat} {σ τ : S3} {k : Nat} {e : va_E} (h1 : cE cy ad n τ k = e) (h2 : ∀ j, j ≠ k → cE cy ad n σ j = cE cy ad n τ j) : va_up (cE cy ad n σ) k e = cE cy ad n τ := by
  funext j
  by_cases h : j = k
  · rw [h, va_up_self, h1]
  · rw [va_up_ne _ _ h, h2 j h]
theorem cl_nI {b : Nat} (h : b < 2 ^ 31) : (nI b).toNatClampNeg = b := nI_clamp h
section UP
variable (cy : Nat → ClassId) (ad : Nat → Nat) (n : Nat) (σ : S3)
theorem up_pay (v : Int32) : va_up (cE cy ad n σ) 0 (.inr (3, [.ref (ad 1), .ref (ad 2), .ref (ad 3), .int (nI n), .int v, .int (σ 18 0 0), .int (σ 19 0 0), .int (nI (fo σ))])) = cE cy ad n (su σ 17 0 0 v) := by
  refine up_of ?_ (fun j hj => cE_ext (fun h => absurd h hj) (fun x hx => by simp [su]) (fun x hx => by simp [su]) (fun x y hx => by simp [su]) (fun x hx => by simp [su]) (fun x y hx => by simp [su]) (fun x y hx => by simp [su]))
  rw [cE_0]; simp [su, fo]
theorem up_today (v : Int32) : va_up (cE cy ad n σ) 0 (.inr (3, [.ref (ad 1), .ref (ad 2), .ref (ad 3), .int (nI n), .int (σ 17 0 0), .int v, .int (σ 19 0 0), .int (nI (fo σ))])) = cE cy ad n (su σ 18 0 0 v) := by
  refine up_of ?_ (fun j hj => cE_ext (fun h => absurd h hj) (fun x hx => by simp [su]) (fun x hx => by simp [su]) (fun x y hx => by simp [su]) (fun x hx => by simp [su]) (fun x y hx => by simp [su]) (fun x y hx => by simp [su]))
  rw [cE_0]; simp [su, fo]
theorem up_fund (v : Int32) : va_up (cE cy ad n σ) 0 (.inr (3, [.ref (ad 1), .ref (ad 2), .ref (ad 3), .int (nI n), .int (σ 17 0 0), .int (σ 18 0 0), .int v, .int (nI (fo σ))])) = cE cy ad n (su σ 19 0 0 v) := by
  refine up_of ?_ (fun j hj => cE_ext (fun h => absurd h hj) (fun x hx => by simp [su]) (fun x hx => by simp [su]) (fun x y hx => by simp [su]) (fun x hx => by simp [su]) (fun x y hx => by simp [su]) (fun x y hx => by simp [su]))
  rw [cE_0]; simp [su, fo]
theorem up_fold {f : Nat} (hf : f < 2 ^ 31) : va_up (cE cy ad n σ) 0 (.inr (3, [.ref (ad 1), .ref (ad 2), .ref (ad 3), .int (nI n), .int (σ 17 0 0), .int (σ 18 0 0), .int (σ 19 0 0), .int (nI f)])) = cE cy ad n (su σ 20 0 0 (nI f)) := by
  refine up_of ?_ (fun j hj => cE_ext (fun h => absurd h hj) (fun x hx => by simp [su]) (fun x hx => by simp [su]) (fun x y hx => by simp [su]) (fun x hx => by simp [su]) (fun x y hx => by simp [su]) (fun x y hx => by simp [su]))
  rw [cE_0]; simp [su, fo, cl_nI hf]
theorem up_dues {b : Nat} (hb : b < 3) (v : Int32) : va_up (cE cy ad n σ) (4 + b) (.inr (0, [.int v])) = cE cy ad n (su σ 0 b 0 v) := by
  refine up_of ?_ (fun j hj => cE_ext (fun _ => by simp [su]) (fun x hx => by have hne : x ≠ b := (by omega); simp [su, hne]) (fun x hx => by simp [su]) (fun x y hx => by simp [su]) (fun x hx => by simp [su]) (fun x y hx => by simp [su]) (fun x y hx => by simp [su]))
  rw [cE_band _ _ _ _ hb]; simp [su]
theorem up_ballot {b : Nat} (hb : b < 4) (v : Int32) : va_up (cE cy ad n σ) (7 + b) (.inr (1, [.ref (ad (11 + b)), .int v, .int (σ 12 b 0), .int (σ 11 b 0), .int (σ 13 b 0), .int (σ 14 b 0), .int (σ 16 b 0)])) = cE cy ad n (su σ 10 b 0 v) := by
  refine up_of ?_ (fun j hj => cE_ext (fun _ => by simp [su]) (fun x hx => by simp [su]) (fun x hx => by have hne : x ≠ b := (by omega); simp [su, hne]) (fun x y hx => by simp [su]) (fun x hx => by simp [su]) (fun x y hx => by simp [su]) (fun x y hx => by simp [su]))
  rw [cE_br _ _ _ _ hb]; simp [su]
theorem up_voters {b : Nat} (hb : b < 4) (v : Int32) : va_up (cE cy ad n σ) (7 + b) (.inr (1, [.ref (ad (11 + b)), .int (σ 10 b 0), .int v, .int (σ 11 b 0), .int (σ 13 b 0), .int (σ 14 b 0), .int (σ 16 b 0)])) = cE cy ad n (su σ 12 b 0 v) := by
  refine up_of ?_ (fun j hj => cE_ext (fun _ => by simp [su]) (fun x hx => by simp [su]) (fun x hx => by have hne : x ≠ b := (by omega); simp [su, hne]) (fun x y hx => by simp [su]) (fun x hx => by simp [su]) (fun x y hx => by simp [su]) (fun x y hx => by simp [su]))
  rw [cE_br _ _ _ _ hb]; simp [su]
theorem up_yes {b : Nat} (hb : b < 4) (v : Int32) : va_up (cE cy ad n σ) (7 + b) (.inr (1, [.ref (ad (11 + b)), .int (σ 10 b 0), .int (σ 12 b 0), .int v, .int (σ 13 b 0), .int (σ 14 b 0), .int (σ 16 b 0)])) = cE cy ad n (su σ 11 b 0 v) := by
  refine up_of ?_ (fun j hj => cE_ext (fun _ => by simp [su]) (fun x hx => by simp [su]) (fun x hx => by have hne : x ≠ b := (by omega); simp [su, hne]) (fun x y hx => by simp [su]) (fun x hx => by simp [su]) (fun x y hx => by simp [su]) (fun x y hx => by simp [su]))
  rw [cE_br _ _ _ _ hb]; simp [su]
theorem up_may {b : Nat} (hb : b < 4) (v : Int32) : va_up (cE cy ad n σ) (7 + b) (.inr (1, [.ref (ad (11 + b)), .int (σ 10 b 0), .int (σ 12 b 0), .int (σ 11 b 0), .int v, .int (σ 14 b 0), .int (σ 16 b 0)])) = cE cy ad n (su σ 13 b 0 v) := by
  refine up_of ?_ (fun j hj => cE_ext (fun _ => by simp [su]) (fun x hx => by simp [su]) (fun x hx => by have hne : x ≠ b := (by omega); simp [su, hne]) (fun x y hx => by simp [su]) (fun x hx => by simp [su]) (fun x y hx => by simp [su]) (fun x y hx => by simp [su]))
  rw [cE_br _ _ _ _ hb]; simp [su]
theorem up_out {b : Nat} (hb : b < 4) (v : Int32) : va_up (cE cy ad n σ) (7 + b) (.inr (1, [.ref (ad (11 + b)), .int (σ 10 b 0), .int (σ 12 b 0), .int (σ 11 b 0), .int (σ 13 b 0), .int v, .int (σ 16 b 0)])) = cE cy ad n (su σ 14 b 0 v) := by
  refine up_of ?_ (fun j hj => cE_ext (fun _ => by simp [su]) (fun x hx => by simp [su]) (fun x hx => by have hne : x ≠ b := (by omega); simp [su, hne]) (fun x y hx => by simp [su]) (fun x hx => by simp [su]) (fun x y hx => by simp [su]) (fun x y hx => by simp [su]))
  rw [cE_br _ _ _ _ hb]; simp [su]
theorem up_deleg {b : Nat} (hb : b < 4) (v : Int32) : va_up (cE cy ad n σ) (7 + b) (.inr (1, [.ref (ad (11 + b)), .int (σ 10 b 0), .int (σ 12 b 0), .int (σ 11 b 0), .int (σ 13 b 0), .int (σ 14 b 0), .int v])) = cE cy ad n (su σ 16 b 0 v) := by
  refine up_of ?_ (fun j hj => cE_ext (fun _ => by simp [su]) (fun x hx => by simp [su]) (fun x hx => by have hne : x ≠ b := (by omega); simp [su, hne]) (fun x y hx => by simp [su]) (fun x hx => by simp [su]) (fun x y hx => by simp [su]) (fun x y hx => by simp [su]))
  rw [cE_br _ _ _ _ hb]; simp [su]
theorem up_away (i : Nat) (v : Int32) : va_up (cE cy ad n σ) (15 + 3 * i) (.inr (2, [.int (nI i), .ref (ad (16 + 3 * i)), .ref (ad (17 + 3 * i)), .ref (ad (7 + br σ i)), .ref (ad (4 + bd σ i)), .int v, .int (σ 3 i 0), .int (σ 5 i 0), .int (σ 6 i 0), .int (nI (eo σ i))])) = cE cy ad n (su σ 4 i 0 v) := by
  refine up_of ?_ (fun j hj => cE_ext (fun _ => by simp [su]) (fun x hx => by simp [su]) (fun x hx => by simp [su]) (fun x y hx => by simp [su]) (fun x hx => by have hne : x ≠ i := (by omega); simp [su, hne]) (fun x y hx => by simp [su]) (fun x y hx => by simp [su]))
  rw [cE_m]; simp [su, br, bd, eo]
theorem up_left (i : Nat) (v : Int32) : va_up (cE cy ad n σ) (15 + 3 * i) (.inr (2, [.int (nI i), .ref (ad (16 + 3 * i)), .ref (ad (17 + 3 * i)), .ref (ad (7 + br σ i)), .ref (ad (4 + bd σ i)), .int (σ 4 i 0), .int v, .int (σ 5 i 0), .int (σ 6 i 0), .int (nI (eo σ i))])) = cE cy ad n (su σ 3 i 0 v) := by
  refine up_of ?_ (fun j hj => cE_ext (fun _ => by simp [su]) (fun x hx => by simp [su]) (fun x hx => by simp [su]) (fun x y hx => by simp [su]) (fun x hx => by have hne : x ≠ i := (by omega); simp [su, hne]) (fun x y hx => by simp [su]) (fun x y hx => by simp [su]))
  rw [cE_m]; simp [su, br, bd, eo]
theorem up_lo (i : Nat) (v : Int32) : va_up (cE cy ad n σ) (15 + 3 * i) (.inr (2, [.int (nI i), .ref (ad (16 + 3 * i)), .ref (ad (17 + 3 * i)), .ref (ad (7 + br σ i)), .ref (ad (4 + bd σ i)), .int (σ 4 i 0), .int (σ 3 i 0), .int v, .int (σ 6 i 0), .int (nI (eo σ i))])) = cE cy ad n (su σ 5 i 0 v) := by
  refine up_of ?_ (fun j hj => cE_ext (fun _ => by simp [su]) (fun x hx => by simp [su]) (fun x hx => by simp [su]) (fun x y hx => by simp [su]) (fun x hx => by have hne : x ≠ i := (by omega); simp [su, hne]) (fun x y hx => by simp [su]) (fun x y hx => by simp [su]))
  rw [cE_m]; simp [su, br, bd, eo]
theorem up_had (i : Nat) (v : Int32) : va_up (cE cy ad n σ) (15 + 3 * i) (.inr (2, [.int (nI i), .ref (ad (16 + 3 * i)), .ref (ad (17 + 3 * i)), .ref (ad (7 + br σ i)), .ref (ad (4 + bd σ i)), .int (σ 4 i 0), .int (σ 3 i 0), .int (σ 5 i 0), .int v, .int (nI (eo σ i))])) = cE cy ad n (su σ 6 i 0 v) := by
  refine up_of ?_ (fun j hj => cE_ext (fun _ => by simp [su]) (fun x hx => by simp [su]) (fun x hx => by simp [su]) (fun x y hx => by simp [su]) (fun x hx => by have hne : x ≠ i := (by omega); simp [su, hne]) (fun x y hx => by simp [su]) (fun x y hx => by simp [su]))
  rw [cE_m]; simp [su, br, bd, eo]
theorem up_mbr (i : Nat) {b : Nat} (hb : b < 4) : va_up (cE cy ad n σ) (15 + 3 * i) (.inr (2, [.int (nI i), .ref (ad (16 + 3 * i)), .ref (ad (17 + 3 * i)), .ref (ad (7 + b)), .ref (ad (4 + bd σ i)), .int (σ 4 i 0), .int (σ 3 i 0), .int (σ 5 i 0), .int (σ 6 i 0), .int (nI (eo σ i))])) = cE cy ad n (su σ 1 i 0 (nI b)) := by
  refine up_of ?_ (fun j hj => cE_ext (fun _ => by simp [su]) (fun x hx => by simp [su]) (fun x hx => by simp [su]) (fun x y hx => by simp [su]) (fun x hx => by have hne : x ≠ i := (by omega); simp [su, hne]) (fun x y hx => by simp [su]) (fun x y hx => by simp [su]))
  rw [cE_m]; simp [su, br, bd, eo, cl_nI (show b < 2 ^ 31 by omega), Nat.mod_eq_of_lt hb]
theorem up_mbd (i : Nat) {b : Nat} (hb : b < 3) : va_up (cE cy ad n σ) (15 + 3 * i) (.inr (2, [.int (nI i), .ref (ad (16 + 3 * i)), .ref (ad (17 + 3 * i)), .ref (ad (7 + br σ i)), .ref (ad (4 + b)), .int (σ 4 i 0), .int (σ 3 i 0), .int (σ 5 i 0), .int (σ 6 i 0), .int (nI (eo σ i))])) = cE cy ad n (su σ 2 i 0 (nI b)) := by
  refine up_of ?_ (fun j hj => cE_ext (fun _ => by simp [su]) (fun x hx => by simp [su]) (fun x hx => by simp [su]) (fun x y hx => by simp [su]) (fun x hx => by have hne : x ≠ i := (by omega); simp [su, hne]) (fun x y hx => by simp [su]) (fun x y hx => by simp [su]))
  rw [cE_m]; simp [su, br, bd, eo, cl_nI (show b < 2 ^ 31 by omega), Nat.mod_eq_of_lt hb]
theorem up_eo (i : Nat) {e : Nat} (he : e ≤ 60) : va_up (cE cy ad n σ) (15 + 3 * i) (.inr (2, [.int (nI i), .ref (ad (16 + 3 * i)), .ref (ad (17 + 3 * i)), .ref (ad (7 + br σ i)), .ref (ad (4 + bd σ i)), .int (σ 4 i 0), .int (σ 3 i 0), .int (σ 5 i 0), .int (σ 6 i 0), .int (nI e)])) = cE cy ad n (su σ 22 i 0 (nI e)) := by
  refine up_of ?_ (fun j hj => cE_ext (fun _ => by simp [su]) (fun x hx => by simp [su]) (fun x hx => by simp [su]) (fun x y hx => by simp [su]) (fun x hx => by have hne : x ≠ i := (by omega); simp [su, hne]) (fun x y hx => by simp [su]) (fun x y hx => by simp [su]))
  rw [cE_m]; simp [su, br, bd, eo, cl_nI (show e < 2 ^ 31 by omega), Nat.mod_eq_of_lt (show e < 61 by omega)]
theorem up_ow (i : Nat) (m : Nat) (v : Int32) : va_up (cE cy ad n σ) (16 + 3 * i) (.inl (cy 0, 60, .inl (upd (σ 7 i) m v))) = cE cy ad n (su σ 7 i m v) := by
  refine up_of ?_ (fun j hj => cE_ext (fun _ => by simp [su]) (fun x hx => by simp [su]) (fun x hx => by simp [su]) (fun x y hx => by simp [su]) (fun x hx => by simp [su]) (fun x y hx => by have hne : x ≠ i := (by omega); simp [su, hne]) (fun x y hx => by simp [su]))
  rw [cE_ow]; congr 3; funext y; simp [su, upd]
theorem up_ml (i : Nat) (m : Nat) (v : Int32) : va_up (cE cy ad n σ) (17 + 3 * i) (.inl (cy 0, 60, .inl (upd (σ 8 i) m v))) = cE cy ad n (su σ 8 i m v) := by
  refine up_of ?_ (fun j hj => cE_ext (fun _ => by simp [su]) (fun x hx => by simp [su]) (fun x hx => by simp [su]) (fun x y hx => by simp [su]) (fun x hx => by simp [su]) (fun x y hx => by simp [su]) (fun x y hx => by have hne : x ≠ i := (by omega); simp [su, hne]))
  rw [cE_ml]; congr 3; funext y; simp [su, upd]
theorem up_la {b : Nat} (hb : b < 4) (m : Nat) (v : Int32) : va_up (cE cy ad n σ) (11 + b) (.inl (cy 0, 60, .inl (upd (σ 9 b) m v))) = cE cy ad n (su σ 9 b m v) := by
  refine up_of ?_ (fun j hj => cE_ext (fun _ => by simp [su]) (fun x hx => by simp [su]) (fun x hx => by simp [su]) (fun x y hx => by have hne : x ≠ b := (by omega); simp [su, hne]) (fun x hx => by simp [su]) (fun x y hx => by simp [su]) (fun x y hx => by simp [su]))
  rw [cE_la _ _ _ _ hb]; congr 3; funext y; simp [su, upd]
end UP
theorem nar_z {v : Int32} (h : v = 0 ∨ v = 1) : narrow .boolean (.int v) = .int v := by rcases h with rfl | rfl <;> rfl
theorem fit_z {v : Int32} (h : v = 0 ∨ v = 1) : fits .boolean (.int v) = true := by rcases h with rfl | rfl <;> rfl
theorem vpn_z {v : Int32} (h : v = 0 ∨ v = 1) : vp_nar .boolean v = v := by rcases h with rfl | rfl <;> rfl
theorem k_0 (n : Nat) : 0 < 15 + 3 * n := by omega
theorem k_1 (n : Nat) : 1 < 15 + 3 * n := by omega
theorem k_2 (n : Nat) : 2 < 15 + 3 * n := by omega
theorem k_3 (n : Nat) : 3 < 15 + 3 * n := by omega
theorem k_band (n : Nat) {b : Nat} (h : b < 3) : 4 + b < 15 + 3 * n := by omega
theorem k_br (n : Nat) {b : Nat} (h : b < 4) : 7 + b < 15 + 3 * n := by omega
theorem k_la (n : Nat) {b : Nat} (h : b < 4) : 11 + b < 15 + 3 * n := by omega
theorem k_m {i n : Nat} (h : i < n) : 15 + 3 * i < 15 + 3 * n := by omega
theorem k_ow {i n : Nat} (h : i < n) : 16 + 3 * i < 15 + 3 * n := by omega
theorem k_ml {i n : Nat} (h : i < n) : 17 + 3 * i < 15 + 3 * n := by omega
/-- contracts of the class's methods -/
abbrev CM (l : Launch) (y : MethodName) (ws : List Cond) (rm : Room) (D : va_G) (cy : Nat → ClassId) (ad : Nat → Nat) (n : Nat) (av : List Value) (σ : S3) (post : Option Value → S3 → Prop) : Prop := XM l y ws rm D (tyL cy) ad (15 + 3 * n) (cX ad (15 + 3 * n)) (cE cy ad n) av σ post
abbrev CT (l : Launch) (y : MethodName) (ws : List Cond) (rm : Room) (D : va_G) (cy : Nat → ClassId) (ad : Nat → Nat) (n : Nat) (av : List Value) (σ : S3) (post : Option Value → S3 → Prop) (err : String → Prop) : Prop := XT l y ws rm D (tyL cy) ad (15 + 3 * n) (cX ad (15 + 3 * n)) (cE cy ad n) av σ post err
abbrev CW (D : va_G) (cy : Nat → ClassId) (s : State) (ad : Nat → Nat) (n : Nat) (σ : S3) (H : Heap) (locs : List Loc) : Prop := XW D (tyL cy) (xA ad (15 + 3 * n) s.heap.size) s ad (15 + 3 * n) (cE cy ad n σ) H locs
end
section
/-! ===== rows at a counted index; references compared ===== -/
section XN
variable {p : Program} {l : Launch} {e : Env} {R : Room} {s : State} {m : MethodId} {args : Array Value} {below : List Frame} {meth : Method} {c : Code} {H : Heap} {locs : List Loc} {cells slots : Nat} {Q : State → Prop}
variable {cc : ByteArray} {pc : Nat} {ls : Array Slot} {rest : List Value} {D : va_G} {tys : List (ClassId × FieldType)} {A : Nat → Prop} {ad : Nat → Nat} {N : Nat} {g : Nat → va_E} {nL : Nat} {Ts : List Cond} {own : String}
theorem xn_iald (S : CallFix p m c cc nL s args Ts own) (hw : XW D tys A s ad N g H locs) {k n t0 j : Nat} {cA : ClassId} {f : Nat → Int32} (hk : k < N) (hg : g k = .inl (cA, n, .inl f)) (ht : tys[t0]? = some (cA, .int)) (hj : j < n) (h31 : n < 2 ^ 31) (hdg : decode cc pc = .ok (.iaload, 1))
    (kk : W p l e R s m args below meth c H locs cells slots Q (F0 m (pc + 1) ls (.int (f j) :: rest))) : W p l e R s m args below meth c H locs cells slots Q (F0 m pc ls (.int (nI j) :: .ref (ad k) :: rest)) := by
  refine xr_iald S hw hk hg ht (vp_in_nI hj h31) hdg ?_
  rw [nI_clamp (Nat.lt_trans hj h31)]
  exact kk
theorem xn_zald (S : CallFix p m c cc nL s args Ts own) (hw : XW D tys A s ad N g H locs) {k n t0 j : Nat} {cA : ClassId} {f : Nat → Int32} (hk : k < N) (hg : g k = .inl (cA, n, .inl f)) (ht : tys[t0]? = some (cA, .boolean)) (hj : j < n) (h31 : n < 2 ^ 31) (hdg : decode cc pc = .ok (.baload, 1))
    (kk : W p l e R s m args below meth c H locs cells slots Q (F0 m (pc + 1) ls (.int (f j) :: rest))) : W p l e R s m args below meth c H locs cells slots Q (F0 m pc ls (.int (nI j) :: .ref (ad k) :: rest)) := by
  refine xr_zald S hw hk hg ht (vp_in_nI hj h31) hdg ?_
  rw [nI_clamp (Nat.lt_trans hj h31)]
  exact kk
theorem xn_aald (S : CallFix p m c cc nL s args Ts own) (hw : XW D tys A s ad N g H locs) {k n t0 j : Nat} {cA : ClassId} {C : String} {f : Nat → Option Nat} {v : Value} (hk : k < N) (hg : g k = .inl (cA, n, .inr (.inr (.inr (.inr f))))) (ht : tys[t0]? = some (cA, .object C)) (hj : j < n) (h31 : n < 2 ^ 31) (hv : va_rf (f j) = v) (hdg : decode cc pc = .ok (.aaload, 1))
    (kk : W p l e R s m args below meth c H locs cells slots Q (F0 m (pc + 1) ls (v :: rest))) : W p l e R s m args below meth c H locs cells slots Q (F0 m pc ls (.int (nI j) :: .ref (ad k) :: rest)) := by
  refine xr_aald S hw hk hg ht (vp_in_nI hj h31) hdg ?_
  rw [nI_clamp (Nat.lt_trans hj h31), hv]
  exact kk
theorem xp_aald (S : CallFix p m c cc nL s args Ts own) (hw : XW D tys A s ad N g H locs) {k n t0 : Nat} {cA : ClassId} {C : String} {f : Nat → Option Nat} {v : Value} {i : Int32} (hk : k < N) (hg : g k = .inl (cA, n, .inr (.inr (.inr (.inr f))))) (ht : tys[t0]? = some (cA, .object C)) (hin : vp_in i n) (hv : va_rf (f i.toNatClampNeg) = v) (hdg : decode cc pc = .ok (.aaload, 1))
    (kk : W p l e R s m args below meth c H locs cells slots Q (F0 m (pc + 1) ls (v :: rest))) : W p l e R s m args below meth c H locs cells slots Q (F0 m pc ls (.int i :: .ref (ad k) :: rest)) := by
  refine xr_aald S hw hk hg ht hin hdg ?_
  rw [hv]
  exact kk
theorem xn_iast (S : CallFix p m c cc nL s args Ts own) (hw : XW D tys A s ad N g H locs) {k n t0 j : Nat} {cA : ClassId} {f : Nat → Int32} (hk : k < N) (hg : g k = .inl (cA, n, .inl f)) (ht : tys[t0]? = some (cA, .int)) {x : Int32} (hj : j < n) (h31 : n < 2 ^ 31) (hdg : decode cc pc = .ok (.iastore, 1))
    (g' : Nat → va_E) (he : va_up g k (.inl (cA, n, .inl (upd f j x))) = g')
    (kk : ∀ (H1 : Heap) (locs1 : List Loc), XW D tys A s ad N g' H1 locs1 → W p l e R s m args below meth c H1 locs1 cells slots Q (F0 m (pc + 1) ls rest)) : W p l e R s m args below meth c H locs cells slots Q (F0 m pc ls (.int x :: .int (nI j) :: .ref (ad k) :: rest)) :=
  xr_iast S hw hk hg ht (vp_in_nI hj h31) hdg g' (by rw [nI_clamp (Nat.lt_trans hj h31)]; exact he) kk
theorem xn_zast (S : CallFix p m c cc nL s args Ts own) (hw : XW D tys A s ad N g H locs) {k n t0 j : Nat} {cA : ClassId} {f : Nat → Int32} (hk : k < N) (hg : g k = .inl (cA, n, .inl f)) (ht : tys[t0]? = some (cA, .boolean)) {x : Int32} (hj : j < n) (h31 : n < 2 ^ 31) (hx01 : vp_nar .boolean x = x) (hdg : decode cc pc = .ok (.bastore, 1))
    (g' : Nat → va_E) (he : va_up g k (.inl (cA, n, .inl (upd f j x))) = g')
    (kk : ∀ (H1 : Heap) (locs1 : List Loc), XW D tys A s ad N g' H1 locs1 → W p l e R s m args below meth c H1 locs1 cells slots Q (F0 m (pc + 1) ls rest)) : W p l e R s m args below meth c H locs cells slots Q (F0 m pc ls (.int x :: .int (nI j) :: .ref (ad k) :: rest)) :=
  xr_zast S hw hk hg ht (vp_in_nI hj h31) hx01 hdg g' (by rw [nI_clamp (Nat.lt_trans hj h31)]; exact he) kk
theorem xr_acmpne (hx : p.tables.exec = Jvm.exec) (hb : c.code = cc) (hw : XW D tys A s ad N g H locs) {k1 k2 : Nat} (h1 : k1 < N) (h2 : k2 < N) {off : Int} {tgt : Nat} (hdg : decode cc pc = .ok (.if_acmp .ne off, 3)) (ht : (pc : Int) + off = (tgt : Int))
    (kt : ¬ k1 = k2 → W p l e R s m args below meth c H locs cells slots Q (F0 m tgt ls rest)) (kf : k1 = k2 → W p l e R s m args below meth c H locs cells slots Q (F0 m (pc + 3) ls rest)) : W p l e R s m args below meth c H locs cells slots Q (F0 m pc ls (.ref (ad k2) :: .ref (ad k1) :: rest)) :=
  lv_acmp_ne (rx := some (ad k1)) (ry := some (ad k2)) hx hb hdg ht (fun h => kt (fun e => h (by rw [e]))) (fun h => kf (hw.inj h1 h2 (Option.some.inj h)))
end XN
/-! ===== what the methods of the class do, as functions on the state ===== -/
abbrev inI (p : Int32) (n : Nat) : Prop := ¬ p < 0 ∧ p.toNatClampNeg < n
theorem vp_of_in {p : Int32} {n : Nat} (h : inI p n) : vp_in p n := fun q => q.elim h.1 (fun z => Nat.not_lt.mpr z h.2)
abbrev Stands (σ : S3) (i : Nat) (d : Int32) : Prop := σ 3 i 0 = 0 ∧ ¬ (¬ 60 ≤ nI (eo σ i) ∧ ¬ d < 30 * (nI (eo σ i) + 1) + 60)
def stI (σ : S3) (i : Nat) (d : Int32) : Int32 := if Stands σ i d then 1 else 0
theorem stI_1 {σ : S3} {i : Nat} {d : Int32} : ¬ stI σ i d = 0 ↔ Stands σ i d := by
  unfold stI
  by_cases h : Stands σ i d
  · rw [if_pos h]; exact ⟨fun _ => h, fun _ => by decide⟩
  · rw [if_neg h]; exact ⟨fun z => absurd rfl z, fun z => absurd z h⟩
theorem stI_0 {σ : S3} {i : Nat} {d : Int32} : stI σ i d = 0 ↔ ¬ Stands σ i d := by
  rw [← stI_1, Decidable.not_not]
def sumN (f : Nat → Int32) (a : Nat) : Nat → Int32
  | 0 => 0
  | k + 1 => sumN f a k + f (a + k)
def sOwed (σ : S3) (i : Nat) : Int32 := sumN (σ 7 i) (eo σ i) (60 - eo σ i)
def imin (x y : Int32) : Int32 := if y < x then y else x
def layS (σ : S3) (i m : Nat) : S3 :=
  su (su (su (su σ 5 i 0 (σ 5 i 0 - imin (σ 5 i 0) (σ 7 i m))) 7 i m (σ 7 i m - imin (σ 5 i 0) (σ 7 i m))) 8 i m (σ 8 i m + imin (σ 5 i 0) (σ 7 i m))) 9 (br σ i) m (σ 9 (br σ i) m + imin (σ 5 i 0) (σ 7 i m))
def layL (i : Nat) : Nat → Nat → S3 → Int32 → S3 × Int32
  | 0, _, σ, sh => (σ, sh)
  | k + 1, m, σ, sh => if 0 < σ 5 i 0 then layL i k (m + 1) (layS σ i m) (sh + imin (σ 5 i 0) (σ 7 i m) / 5) else (σ, sh)
def skipL (i : Nat) : Nat → S3 → S3
  | 0, σ => σ
  | k + 1, σ => if σ 7 i (eo σ i) = 0 then skipL i k (su σ 22 i 0 (nI (eo σ i + 1))) else σ
def layQ (σ : S3) (i : Nat) : S3 × Int32 := layL i (60 - eo σ i) (eo σ i) σ 0
def layA (σ : S3) (i : Nat) : S3 × Int32 := (skipL i (60 - eo (layQ σ i).1 i) (layQ σ i).1, (layQ σ i).2)
def takeF (σ : S3) (i : Nat) (a : Int32) : S3 × Int32 := layA (su σ 5 i 0 (σ 5 i 0 + a)) i
def chgE (σ : S3) (i m : Nat) : Nat := if m < eo σ i then m else eo σ i
def chgF (σ : S3) (i : Nat) (p : Int32) : S3 × Int32 :=
  if p < 0 ∨ 60 ≤ p ∨ σ 0 (bd σ i) 0 = 0 then (σ, 0)
  else layA (su (su σ 7 i p.toNatClampNeg (σ 0 (bd σ i) 0)) 22 i 0 (nI (chgE σ i p.toNatClampNeg))) i
theorem eo_su22 {σ : S3} {i e : Nat} (h : e ≤ 60) : eo (su σ 22 i 0 (nI e)) i = e := by
  unfold eo
  rw [su_same, cl_nI (by omega), Nat.mod_eq_of_lt (by omega)]
theorem imin_nI {a b : Nat} (ha : a < 2 ^ 31) (hb : b < 2 ^ 31) : (if nI b < nI a then nI b else nI a) = nI (if b < a then b else a) := by
  by_cases h : b < a
  · rw [if_pos h, if_pos ((nI_ltI hb ha).mpr h)]
  · rw [if_neg h, if_neg (mt (nI_ltI hb ha).mp h)]
theorem i32_ix {p : Int32} (h0 : ¬ p < 0) (h : ¬ 60 ≤ p) : ∃ j : Nat, j < 60 ∧ p = nI j := by
  rcases pk_ix p (n := 60) (by decide) with q | q | q
  · exact absurd q h0
  · exact absurd q h
  · exact q
theorem lt60 {m : Nat} (h : m < 2 ^ 31) : ¬ 60 ≤ nI m ↔ m < 60 := by
  have e : (60 : Int32) = nI 60 := rfl
  rw [e, nI_leI (by decide) h]
  omega
end
section
/-! ===== UnionOffice$Member ===== -/
abbrev rmX2_bit : Room := { frames := 0, cells := 0, slots := 0, locals := 0 }
theorem inX2_bit_X2 : (∀ w ∈ wsX20, w ∈ wsX2_bit) := by decide +kernel
set_option maxHeartbeats 1000000 in
set_option maxRecDepth 100000 in
/-- bit(): one bit, by the number -/
theorem c_X2_bit (l : Launch) (D : va_G) (cy : Nat → ClassId) (ad : Nat → Nat) (n : Nat) (σ : S3) (i : Nat) (hi : i < n) : CM l yX2_bit wsX2_bit rmX2_bit D cy ad n [.ref (ad (15 + 3 * i))] σ (xPi fun r u => u = σ ∧ r = 1 <<< (nI i &&& 31)) := by
  refine xs_M (cc := cX2_bit) (maxL := 1) (ret := (some .int)) (by decide +kernel) rfl (Nat.le_of_ble_eq_true rfl) ?_
  intro p e s m below meth c ls S hr hlocks hnm hw hX hl
  have S : CallFix p m c cX2_bit 1 s [.ref (ad (15 + 3 * i))].toArray wsX2_bit RX2 := S
  have hx := S.1
  have hb := S.2.1
  have hts := S.2.2.2.2
  have hl : lv_has ls 1 [(0, .ref (ad (15 + 3 * i)))] := hl
  refine lv_iconst (v := 1) hx hb dX2_bit_0 (by decide) ?_
  refine lv_aload_n hx hb dX2_bit_1 rfl (lv_at hl 0 rfl) ?_
  refine xr_get S hw (j := 0) (k_m hi) (cE_m _ _ _ _ _) rfl inX2_bit_X2 (by decide) (hts (.fieldLink RX2 35 "UnionOffice$Member" "number" "I") (by decide +kernel)) rfl dX2_bit_2 ?_
  refine lv_ishl hx hb dX2_bit_5 ?_
  exact xe_i S.1 S.2.1 hr hlocks hw (⟨rfl, rfl⟩) (Nat.le_of_ble_eq_true rfl) (Nat.le_of_ble_eq_true rfl) dX2_bit_6
abbrev rmX2_standsOn : Room := { frames := 0, cells := 0, slots := 0, locals := 0 }
theorem inX2_standsOn_X2 : (∀ w ∈ wsX20, w ∈ wsX2_standsOn) := by decide +kernel
set_option maxHeartbeats 1000000 in
set_option maxRecDepth 100000 in
/-- standsOn(day) -/
theorem c_X2_standsOn (l : Launch) (D : va_G) (cy : Nat → ClassId) (ad : Nat → Nat) (n : Nat) (σ : S3) (i : Nat) (hi : i < n) (d : Int32) : CM l yX2_standsOn wsX2_standsOn rmX2_standsOn D cy ad n [.ref (ad (15 + 3 * i)), .int d] σ (xPi fun r u => u = σ ∧ r = stI σ i d) := by
  refine xs_M (cc := cX2_standsOn) (maxL := 3) (ret := (some .boolean)) (by decide +kernel) rfl (Nat.le_of_ble_eq_true rfl) ?_
  intro p e s m below meth c ls S hr hlocks hnm hw hX hl
  have S : CallFix p m c cX2_standsOn 3 s [.ref (ad (15 + 3 * i)), .int d].toArray wsX2_standsOn RX2 := S
  have hx := S.1
  have hb := S.2.1
  have hts := S.2.2.2.2
  have hl : lv_has ls 3 [(0, .ref (ad (15 + 3 * i))), (1, .int d)] := hl
  refine lv_aload_n hx hb dX2_standsOn_0 rfl (lv_at hl 0 rfl) ?_
  refine xr_get S hw (j := 9) (k_m hi) (cE_m _ _ _ _ _) rfl inX2_standsOn_X2 (by decide) (hts (.fieldLink RX2 32 "UnionOffice$Member" "earliestOwed" "I") (by decide +kernel)) rfl dX2_standsOn_1 ?_
  refine lv_bipush (v := 60) hx hb dX2_standsOn_4 (by decide) ?_
  refine lv_icmp_ge (tgt := 29) hx hb dX2_standsOn_6 (by decide) (fun c1 => ?_) (fun c1 => ?_)
  · refine lv_iconst (v := 0) hx hb dX2_standsOn_29 (by decide) ?_
    refine lv_istore_n (lv' := [(2, .int 0), (0, .ref (ad (15 + 3 * i))), (1, .int d)]) hx hb dX2_standsOn_30 rfl hl (by decide) rfl (fun ls hl => ?_)
    refine lv_aload_n hx hb dX2_standsOn_31 rfl (lv_at hl 1 rfl) ?_
    refine xr_get S hw (j := 6) (k_m hi) (cE_m _ _ _ _ _) rfl inX2_standsOn_X2 (by decide) (hts (.fieldLink RX2 22 "UnionOffice$Member" "hasLeft" "Z") (by decide +kernel)) rfl dX2_standsOn_32 ?_
    refine lv_if_ne (tgt := 46) hx hb dX2_standsOn_35 (by decide) (fun c2 => ?_) (fun c2 => ?_)
    · refine lv_iconst (v := 0) hx hb dX2_standsOn_46 (by decide) ?_
      exact xe_z S.1 S.2.1 hr (Or.inl rfl) hlocks hw (⟨rfl, by simp [stI, Stands, c1, c2]⟩) (Nat.le_of_ble_eq_true rfl) (Nat.le_of_ble_eq_true rfl) dX2_standsOn_47
    · refine lv_iload_n hx hb dX2_standsOn_38 rfl (lv_at hl 0 rfl) ?_
      refine lv_if_ne (tgt := 46) hx hb dX2_standsOn_39 (by decide) (fun h => absurd h (by decide)) (fun _ => ?_)
      refine lv_iconst (v := 1) hx hb dX2_standsOn_42 (by decide) ?_
      refine lv_goto (tgt := 47) hx hb dX2_standsOn_43 (by decide) ?_
      exact xe_z S.1 S.2.1 hr (Or.inr rfl) hlocks hw (⟨rfl, by simp [stI, Stands, c1, c2]⟩) (Nat.le_of_ble_eq_true rfl) (Nat.le_of_ble_eq_true rfl) dX2_standsOn_47
  · refine lv_iload_n hx hb dX2_standsOn_9 rfl (lv_at hl 1 rfl) ?_
    refine lv_bipush (v := 30) hx hb dX2_standsOn_10 (by decide) ?_
    refine lv_aload_n hx hb dX2_standsOn_12 rfl (lv_at hl 0 rfl) ?_
    refine xr_get S hw (j := 9) (k_m hi) (cE_m _ _ _ _ _) rfl inX2_standsOn_X2 (by decide) (hts (.fieldLink RX2 32 "UnionOffice$Member" "earliestOwed" "I") (by decide +kernel)) rfl dX2_standsOn_13 ?_
    refine lv_iconst (v := 1) hx hb dX2_standsOn_16 (by decide) ?_
    refine lv_iadd hx hb dX2_standsOn_17 ?_
    refine lv_imul hx hb dX2_standsOn_18 ?_
    refine lv_bipush (v := 60) hx hb dX2_standsOn_19 (by decide) ?_
    refine lv_iadd hx hb dX2_standsOn_21 ?_
    refine lv_icmp_lt (tgt := 29) hx hb dX2_standsOn_22 (by decide) (fun c4 => ?_) (fun c4 => ?_)
    · refine lv_iconst (v := 0) hx hb dX2_standsOn_29 (by decide) ?_
      refine lv_istore_n (lv' := [(2, .int 0), (0, .ref (ad (15 + 3 * i))), (1, .int d)]) hx hb dX2_standsOn_30 rfl hl (by decide) rfl (fun ls hl => ?_)
      refine lv_aload_n hx hb dX2_standsOn_31 rfl (lv_at hl 1 rfl) ?_
      refine xr_get S hw (j := 6) (k_m hi) (cE_m _ _ _ _ _) rfl inX2_standsOn_X2 (by decide) (hts (.fieldLink RX2 22 "UnionOffice$Member" "hasLeft" "Z") (by decide +kernel)) rfl dX2_standsOn_32 ?_
      refine lv_if_ne (tgt := 46) hx hb dX2_standsOn_35 (by decide) (fun c5 => ?_) (fun c5 => ?_)
      · refine lv_iconst (v := 0) hx hb dX2_standsOn_46 (by decide) ?_
        exact xe_z S.1 S.2.1 hr (Or.inl rfl) hlocks hw (⟨rfl, by simp [stI, Stands, c1, c4, c5]⟩) (Nat.le_of_ble_eq_true rfl) (Nat.le_of_ble_eq_true rfl) dX2_standsOn_47
      · refine lv_iload_n hx hb dX2_standsOn_38 rfl (lv_at hl 0 rfl) ?_
        refine lv_if_ne (tgt := 46) hx hb dX2_standsOn_39 (by decide) (fun h => absurd h (by decide)) (fun _ => ?_)
        refine lv_iconst (v := 1) hx hb dX2_standsOn_42 (by decide) ?_
        refine lv_goto (tgt := 47) hx hb dX2_standsOn_43 (by decide) ?_
        exact xe_z S.1 S.2.1 hr (Or.inr rfl) hlocks hw (⟨rfl, by simp [stI, Stands, c1, c4, c5]⟩) (Nat.le_of_ble_eq_true rfl) (Nat.le_of_ble_eq_true rfl) dX2_standsOn_47
    · refine lv_iconst (v := 1) hx hb dX2_standsOn_25 (by decide) ?_
      refine lv_goto (tgt := 30) hx hb dX2_standsOn_26 (by decide) ?_
      refine lv_istore_n (lv' := [(2, .int 1), (0, .ref (ad (15 + 3 * i))), (1, .int d)]) hx hb dX2_standsOn_30 rfl hl (by decide) rfl (fun ls hl => ?_)
      refine lv_aload_n hx hb dX2_standsOn_31 rfl (lv_at hl 1 rfl) ?_
      refine xr_get S hw (j := 6) (k_m hi) (cE_m _ _ _ _ _) rfl inX2_standsOn_X2 (by decide) (hts (.fieldLink RX2 22 "UnionOffice$Member" "hasLeft" "Z") (by decide +kernel)) rfl dX2_standsOn_32 ?_
      refine lv_if_ne (tgt := 46) hx hb dX2_standsOn_35 (by decide) (fun c7 => ?_) (fun c7 => ?_)
      · refine lv_iconst (v := 0) hx hb dX2_standsOn_46 (by decide) ?_
        exact xe_z S.1 S.2.1 hr (Or.inl rfl) hlocks hw (⟨rfl, by simp [stI, Stands, c1, c4, c7]⟩) (Nat.le_of_ble_eq_true rfl) (Nat.le_of_ble_eq_true rfl) dX2_standsOn_47
      · refine lv_iload_n hx hb dX2_standsOn_38 rfl (lv_at hl 0 rfl) ?_
        refine lv_if_ne (tgt := 46) hx hb dX2_standsOn_39 (by decide) (fun _ => ?_) (fun h => absurd h (by decide))
        refine lv_iconst (v := 0) hx hb dX2_standsOn_46 (by decide) ?_
        exact xe_z S.1 S.2.1 hr (Or.inl rfl) hlocks hw (⟨rfl, by simp [stI, Stands, c1, c4, c7]⟩) (Nat.le_of_ble_eq_true rfl) (Nat.le_of_ble_eq_true rfl) dX2_standsOn_47
abbrev rmX2_sumOwed : Room := { frames := 0, cells := 0, slots := 0, locals := 0 }
theorem inX2_sumOwed_X2 : (∀ w ∈ wsX20, w ∈ wsX2_sumOwed) := by decide +kernel
set_option maxHeartbeats 1000000 in
set_option maxRecDepth 100000 in
theorem lp_X2_sumOwed {p : Program} {l : Launch} {e : Env} {R : Room} {s : State} {m : MethodId} {args : Array Value} {below : List Frame} {meth : Method} {c : Code} {cells slots : Nat} {Q : State → Prop} (S : CallFix p m c cX2_sumOwed 3 s args wsX2_sumOwed RX2) {D : va_G} {cy : Nat → ClassId} {ad : Nat → Nat} {n : Nat} {σ : S3} {i : Nat} (hi : i < n) : ∀ (k : Nat) (j : Nat) (acc : Int32) (H : Heap) (locs : List Loc) (ls : Array Slot), 60 - j < k → j ≤ 60 → eo σ i ≤ j → acc = sumN (σ 7 i) (eo σ i) (j - eo σ i) → CW D cy s ad n σ H locs → lv_has ls 3 [(0, .ref (ad (15 + 3 * i))), (1, .int acc), (2, .int (nI j))] → (∀ (r : Int32) (H : Heap) (locs : List Loc) (ls : Array Slot), r = sOwed σ i → CW D cy s ad n σ H locs → lv_has ls 3 [(0, .ref (ad (15 + 3 * i))), (1, .int r)] → W p l e R s m args below meth c H locs cells slots Q (F0 m 28 ls [])) → W p l e R s m args below meth c H locs cells slots Q (F0 m 7 ls []) := by
  have hx := S.1
  have hb := S.2.1
  have hts := S.2.2.2.2
  intro k
  induction k with
  | zero => intro j acc H locs ls hk; exact absurd hk (Nat.not_lt_zero _)
  | succ k ih =>
    intro j acc H locs ls hk hj hej hacc hw hl kk
    refine lv_iload_n hx hb dX2_sumOwed_7 rfl (lv_at hl 2 rfl) ?_
    refine lv_bipush (v := 60) hx hb dX2_sumOwed_8 (by decide) ?_
    refine lv_icmp_ge (tgt := 28) hx hb dX2_sumOwed_10 (by decide) (fun c1 => ?_) (fun c1 => ?_)
    · have hj6 : j = 60 := by
        rcases Nat.lt_or_ge j 60 with q | q
        · exact absurd c1 ((lt60 (by omega)).mpr q)
        · omega
      exact kk acc H locs ls (by rw [hacc, hj6]; rfl) hw (lv_sub hl [0, 1] rfl)
    · have hj6 : j < 60 := (lt60 (by omega)).mp c1
      refine lv_iload_n hx hb dX2_sumOwed_13 rfl (lv_at hl 1 rfl) ?_
      refine lv_aload_n hx hb dX2_sumOwed_14 rfl (lv_at hl 0 rfl) ?_
      refine xr_get S hw (j := 1) (k_m hi) (cE_m _ _ _ _ _) rfl inX2_sumOwed_X2 (by decide) (hts (.fieldLink RX2 9 "UnionOffice$Member" "owedFor" "[I") (by decide +kernel)) rfl dX2_sumOwed_15 ?_
      refine lv_iload_n hx hb dX2_sumOwed_18 rfl (lv_at hl 2 rfl) ?_
      refine xn_iald S hw (t0 := 0) (k_ow hi) (cE_ow _ _ _ _ _) rfl hj6 (by decide) dX2_sumOwed_19 ?_
      refine lv_iadd hx hb dX2_sumOwed_20 ?_
      refine lv_istore_n (lv' := [(1, .int (acc + (σ 7 i j))), (0, .ref (ad (15 + 3 * i))), (2, .int (nI j))]) hx hb dX2_sumOwed_21 rfl hl (by decide) rfl (fun ls hl => ?_)
      refine lv_iinc (v := nI (j + 1)) (lv' := [(2, .int (nI (j + 1))), (1, .int (acc + (σ 7 i j))), (0, .ref (ad (15 + 3 * i)))]) hx hb dX2_sumOwed_22 hl (k := 2) rfl (nI_1 j) (by decide) rfl (fun ls hl => ?_)
      refine lv_goto (tgt := 7) hx hb dX2_sumOwed_25 (by decide) ?_
      exact ih (j + 1) (acc + σ 7 i j) H locs ls (by omega) (by omega) (by omega) (by rw [hacc, show j + 1 - eo σ i = (j - eo σ i) + 1 by omega]; show _ = sumN _ _ _ + σ 7 i (eo σ i + (j - eo σ i)); rw [show eo σ i + (j - eo σ i) = j by omega]) hw (lv_sub hl [2, 1, 0] rfl) kk
set_option maxHeartbeats 1000000 in
set_option maxRecDepth 100000 in
/-- sumOwed() -/
theorem c_X2_sumOwed (l : Launch) (D : va_G) (cy : Nat → ClassId) (ad : Nat → Nat) (n : Nat) (σ : S3) (i : Nat) (hi : i < n) : CM l yX2_sumOwed wsX2_sumOwed rmX2_sumOwed D cy ad n [.ref (ad (15 + 3 * i))] σ (xPi fun r u => u = σ ∧ r = sOwed σ i) := by
  refine xs_M (cc := cX2_sumOwed) (maxL := 3) (ret := (some .int)) (by decide +kernel) rfl (Nat.le_of_ble_eq_true rfl) ?_
  intro p e s m below meth c ls S hr hlocks hnm hw hX hl
  have S : CallFix p m c cX2_sumOwed 3 s [.ref (ad (15 + 3 * i))].toArray wsX2_sumOwed RX2 := S
  have hx := S.1
  have hb := S.2.1
  have hts := S.2.2.2.2
  have hl : lv_has ls 3 [(0, .ref (ad (15 + 3 * i)))] := hl
  refine lv_iconst (v := 0) hx hb dX2_sumOwed_0 (by decide) ?_
  refine lv_istore_n (lv' := [(1, .int 0), (0, .ref (ad (15 + 3 * i)))]) hx hb dX2_sumOwed_1 rfl hl (by decide) rfl (fun ls hl => ?_)
  refine lv_aload_n hx hb dX2_sumOwed_2 rfl (lv_at hl 1 rfl) ?_
  refine xr_get S hw (j := 9) (k_m hi) (cE_m _ _ _ _ _) rfl inX2_sumOwed_X2 (by decide) (hts (.fieldLink RX2 32 "UnionOffice$Member" "earliestOwed" "I") (by decide +kernel)) rfl dX2_sumOwed_3 ?_
  refine lv_istore_n (lv' := [(2, .int (nI (eo σ i))), (1, .int 0), (0, .ref (ad (15 + 3 * i)))]) hx hb dX2_sumOwed_6 rfl hl (by decide) rfl (fun ls hl => ?_)
  refine lp_X2_sumOwed S hi 61 (eo σ i) 0 _ _ ls (by omega) (eo_le σ i) (Nat.le_refl _) (by rw [Nat.sub_self]; rfl) hw (lv_sub hl [2, 1, 0] rfl) (fun r H locs ls hr9 hw hl => ?_)
  refine lv_iload_n hx hb dX2_sumOwed_28 rfl (lv_at hl 1 rfl) ?_
  exact xe_i S.1 S.2.1 hr hlocks hw (⟨rfl, hr9⟩) (Nat.le_of_ble_eq_true rfl) (Nat.le_of_ble_eq_true rfl) dX2_sumOwed_29
abbrev rmX2_skipSettled : Room := { frames := 0, cells := 0, slots := 0, locals := 0 }
theorem inX2_skipSettled_X2 : (∀ w ∈ wsX20, w ∈ wsX2_skipSettled) := by decide +kernel
set_option maxHeartbeats 1000000 in
set_option maxRecDepth 100000 in
theorem lp_X2_skipSettled {p : Program} {l : Launch} {e : Env} {R : Room} {s : State} {m : MethodId} {args : Array Value} {below : List Frame} {meth : Method} {c : Code} {cells slots : Nat} {Q : State → Prop} (S : CallFix p m c cX2_skipSettled 1 s args wsX2_skipSettled RX2) {D : va_G} {cy : Nat → ClassId} {ad : Nat → Nat} {n : Nat} {i : Nat} (hi : i < n) : ∀ (k : Nat) (σ : S3) (H : Heap) (locs : List Loc) (ls : Array Slot), 60 - eo σ i < k → CW D cy s ad n σ H locs → lv_has ls 1 [(0, .ref (ad (15 + 3 * i)))] → (∀ (H : Heap) (locs : List Loc) (ls : Array Slot), CW D cy s ad n (skipL i (60 - eo σ i) σ) H locs → lv_has ls 1 [(0, .ref (ad (15 + 3 * i)))] → W p l e R s m args below meth c H locs cells slots Q (F0 m 34 ls [])) → W p l e R s m args below meth c H locs cells slots Q (F0 m 0 ls []) := by
  have hx := S.1
  have hb := S.2.1
  have hts := S.2.2.2.2
  intro k
  induction k with
  | zero => intro σ H locs ls hk; exact absurd hk (Nat.not_lt_zero _)
  | succ k ih =>
    intro σ H locs ls hk  hw hl kk
    refine lv_aload_n hx hb dX2_skipSettled_0 rfl (lv_at hl 0 rfl) ?_
    refine xr_get S hw (j := 9) (k_m hi) (cE_m _ _ _ _ _) rfl inX2_skipSettled_X2 (by decide) (hts (.fieldLink RX2 32 "UnionOffice$Member" "earliestOwed" "I") (by decide +kernel)) rfl dX2_skipSettled_1 ?_
    refine lv_bipush (v := 60) hx hb dX2_skipSettled_4 (by decide) ?_
    refine lv_icmp_ge (tgt := 34) hx hb dX2_skipSettled_6 (by decide) (fun c1 => ?_) (fun c1 => ?_)
    · have hj6 : eo σ i = 60 := by
        have := eo_le σ i
        rcases Nat.lt_or_ge (eo σ i) 60 with q | q
        · exact absurd c1 ((lt60 (by omega)).mpr q)
        · omega
      exact kk H locs ls (by rw [hj6]; exact hw) (lv_sub hl [0] rfl)
    · have hj6 : eo σ i < 60 := (lt60 (by have := eo_le σ i; omega)).mp c1
      refine lv_aload_n hx hb dX2_skipSettled_9 rfl (lv_at hl 0 rfl) ?_
      refine xr_get S hw (j := 1) (k_m hi) (cE_m _ _ _ _ _) rfl inX2_skipSettled_X2 (by decide) (hts (.fieldLink RX2 9 "UnionOffice$Member" "owedFor" "[I") (by decide +kernel)) rfl dX2_skipSettled_10 ?_
      refine lv_aload_n hx hb dX2_skipSettled_13 rfl (lv_at hl 0 rfl) ?_
      refine xr_get S hw (j := 9) (k_m hi) (cE_m _ _ _ _ _) rfl inX2_skipSettled_X2 (by decide) (hts (.fieldLink RX2 32 "UnionOffice$Member" "earliestOwed" "I") (by decide +kernel)) rfl dX2_skipSettled_14 ?_
      refine xn_iald S hw (t0 := 0) (k_ow hi) (cE_ow _ _ _ _ _) rfl hj6 (by decide) dX2_skipSettled_17 ?_
      refine lv_if_ne (tgt := 34) hx hb dX2_skipSettled_18 (by decide) (fun c2 => ?_) (fun c2 => ?_)
      · exact kk H locs ls (by rw [show 60 - eo σ i = (59 - eo σ i) + 1 by omega, show skipL i ((59 - eo σ i) + 1) σ = σ from if_neg c2]; exact hw) (lv_sub hl [0] rfl)
      · refine lv_aload_n hx hb dX2_skipSettled_21 rfl (lv_at hl 0 rfl) ?_
        refine lv_dup hx hb dX2_skipSettled_22 rfl ?_
        refine xr_get S hw (j := 9) (k_m hi) (cE_m _ _ _ _ _) rfl inX2_skipSettled_X2 (by decide) (hts (.fieldLink RX2 32 "UnionOffice$Member" "earliestOwed" "I") (by decide +kernel)) rfl dX2_skipSettled_23 ?_
        refine lv_iconst (v := 1) hx hb dX2_skipSettled_26 (by decide) ?_
        refine lv_iadd hx hb dX2_skipSettled_27 ?_
        rw [show nI (eo σ i) + 1 = nI (eo σ i + 1) from nI_1 _]
        obtain ⟨σ1, hσ1⟩ : ∃ y : S3, y = su σ 22 i 0 (nI (eo σ i + 1)) := ⟨_, rfl⟩
        refine xr_put S hw tyX2 tyX2_ok nmX2 (j := 9) (k_m hi) (cE_m _ _ _ _ _) rfl inX2_skipSettled_X2 (by decide) (hts (.fieldLink RX2 32 "UnionOffice$Member" "earliestOwed" "I") (by decide +kernel)) rfl (tyX2_ok 9 (by decide)) rfl rfl (Nat.le_of_ble_eq_true rfl) dX2_skipSettled_28 (cE cy ad n σ1) (by rw [hσ1]; exact up_eo _ _ _ _ i (show eo σ i + 1 ≤ 60 by omega)) (fun H locs hw => ?_)
        refine lv_goto (tgt := 0) hx hb dX2_skipSettled_31 (by decide) ?_
        have he1 : eo σ1 i = eo σ i + 1 := by rw [hσ1]; exact eo_su22 (by omega)
        have he2 : skipL i (60 - eo σ i) σ = skipL i (60 - eo σ1 i) σ1 := by
          rw [he1, show 60 - eo σ i = (60 - (eo σ i + 1)) + 1 by omega, hσ1]
          exact if_pos c2
        exact ih σ1 H locs ls (by omega) hw (lv_sub hl [0] rfl) (fun H locs ls hw hl => kk H locs ls (by rw [he2]; exact hw) hl)
set_option maxHeartbeats 1000000 in
set_option maxRecDepth 100000 in
/-- skipSettled() -/
theorem c_X2_skipSettled (l : Launch) (D : va_G) (cy : Nat → ClassId) (ad : Nat → Nat) (n : Nat) (σ : S3) (i : Nat) (hi : i < n) : CM l yX2_skipSettled wsX2_skipSettled rmX2_skipSettled D cy ad n [.ref (ad (15 + 3 * i))] σ (xPv fun u => u = skipL i (60 - eo σ i) σ) := by
  refine xs_M (cc := cX2_skipSettled) (maxL := 1) (ret := none) (by decide +kernel) rfl (Nat.le_of_ble_eq_true rfl) ?_
  intro p e s m below meth c ls S hr hlocks hnm hw hX hl
  have S : CallFix p m c cX2_skipSettled 1 s [.ref (ad (15 + 3 * i))].toArray wsX2_skipSettled RX2 := S
  have hx := S.1
  have hb := S.2.1
  have hts := S.2.2.2.2
  have hl : lv_has ls 1 [(0, .ref (ad (15 + 3 * i)))] := hl
  refine lp_X2_skipSettled S hi 61 σ _ _ ls (by omega) hw hl (fun H locs ls hw hl => ?_)
  exact xe_v S.1 S.2.1 hr hlocks hw (rfl) (Nat.le_of_ble_eq_true rfl) (Nat.le_of_ble_eq_true rfl) dX2_skipSettled_34
abbrev rmX2_layLeftOver : Room := { frames := 1, cells := 0, slots := 0, locals := 20 }
theorem inX2_layLeftOver_X1 : (∀ w ∈ wsX10, w ∈ wsX2_layLeftOver) := by decide +kernel
theorem inX2_layLeftOver_X2 : (∀ w ∈ wsX20, w ∈ wsX2_layLeftOver) := by decide +kernel
set_option maxHeartbeats 1000000 in
set_option maxRecDepth 100000 in
theorem lp_X2_layLeftOver {p : Program} {l : Launch} {e : Env} {R : Room} {s : State} {m : MethodId} {args : Array Value} {below : List Frame} {meth : Method} {c : Code} {cells slots : Nat} {Q : State → Prop} (S : CallFix p m c cX2_layLeftOver 4 s args wsX2_layLeftOver RX2) {D : va_G} {cy : Nat → ClassId} {ad : Nat → Nat} {n : Nat} {i : Nat} (hi : i < n) (hX : cX ad (15 + 3 * n) s.heap.size s) (hR1 : 1 ≤ R.frames) (hR2 : 20 ≤ R.locals) (hR3 : cells ≤ R.cells) (hR4 : slots ≤ R.slots) : ∀ (k : Nat) (j : Nat) (σ : S3) (sh : Int32) (H : Heap) (locs : List Loc) (ls : Array Slot), 60 - j < k → j ≤ 60 → CW D cy s ad n σ H locs → lv_has ls 4 [(0, .ref (ad (15 + 3 * i))), (1, .int sh), (2, .int (nI j))] → (∀ (H : Heap) (locs : List Loc) (ls : Array Slot), CW D cy s ad n ((layL i (60 - j) j σ sh).1) H locs → lv_has ls 4 [(0, .ref (ad (15 + 3 * i))), (1, .int ((layL i (60 - j) j σ sh).2))] → W p l e R s m args below meth c H locs cells slots Q (F0 m 89 ls [])) → W p l e R s m args below meth c H locs cells slots Q (F0 m 7 ls []) := by
  have hx := S.1
  have hb := S.2.1
  have hts := S.2.2.2.2
  intro k
  induction k with
  | zero => intro j σ sh H locs ls hk; exact absurd hk (Nat.not_lt_zero _)
  | succ k ih =>
    intro j σ sh H locs ls hk hj hw hl kk
    refine lv_iload_n hx hb dX2_layLeftOver_7 rfl (lv_at hl 2 rfl) ?_
    refine lv_bipush (v := 60) hx hb dX2_layLeftOver_8 (by decide) ?_
    refine lv_icmp_ge (tgt := 89) hx hb dX2_layLeftOver_10 (by decide) (fun c1 => ?_) (fun c1 => ?_)
    · have hj6 : j = 60 := by
        rcases Nat.lt_or_ge j 60 with q | q
        · exact absurd c1 ((lt60 (by omega)).mpr q)
        · omega
      subst hj6
      exact kk H locs ls hw (lv_sub hl [0, 1] rfl)
    · have hj6 : j < 60 := (lt60 (by omega)).mp c1
      refine lv_aload_n hx hb dX2_layLeftOver_13 rfl (lv_at hl 0 rfl) ?_
      refine xr_get S hw (j := 7) (k_m hi) (cE_m _ _ _ _ _) rfl inX2_layLeftOver_X2 (by decide) (hts (.fieldLink RX2 25 "UnionOffice$Member" "leftOver" "I") (by decide +kernel)) rfl dX2_layLeftOver_14 ?_
      refine lv_if_le (tgt := 89) hx hb dX2_layLeftOver_17 (by decide) (fun c2 => ?_) (fun c2 => ?_)
      · have he2 : layL i (60 - j) j σ sh = (σ, sh) := by
          rw [show 60 - j = (59 - j) + 1 by omega]
          exact if_neg (Int32.not_lt.mpr c2)
        rw [he2] at kk
        exact kk H locs ls hw (lv_sub hl [0, 1] rfl)
      · refine lv_aload_n hx hb dX2_layLeftOver_20 rfl (lv_at hl 0 rfl) ?_
        refine xr_get S hw (j := 7) (k_m hi) (cE_m _ _ _ _ _) rfl inX2_layLeftOver_X2 (by decide) (hts (.fieldLink RX2 25 "UnionOffice$Member" "leftOver" "I") (by decide +kernel)) rfl dX2_layLeftOver_21 ?_
        refine lv_aload_n hx hb dX2_layLeftOver_24 rfl (lv_at hl 0 rfl) ?_
        refine xr_get S hw (j := 1) (k_m hi) (cE_m _ _ _ _ _) rfl inX2_layLeftOver_X2 (by decide) (hts (.fieldLink RX2 9 "UnionOffice$Member" "owedFor" "[I") (by decide +kernel)) rfl dX2_layLeftOver_25 ?_
        refine lv_iload_n hx hb dX2_layLeftOver_28 rfl (lv_at hl 2 rfl) ?_
        refine xn_iald S hw (t0 := 0) (k_ow hi) (cE_ow _ _ _ _ _) rfl hj6 (by decide) dX2_layLeftOver_29 ?_
        refine va_mmin hx hb (S.2.2.1.trans hl.1.symm) S.2.2.2.1 (hts (.methodLink RX2 51 Lib.Math.min.name) (by decide +kernel)) (hts (.static Lib.Math.min.name) (by decide +kernel)) (hts (.initialized "java/lang/Math") (by decide +kernel)) (hts (.code Lib.Math.min.name Lib.Math.min.code 2 (some .int)) (by decide +kernel)) hR1 (Nat.le_trans (Nat.le_of_ble_eq_true rfl) hR2) hR3 hR4 dX2_layLeftOver_30 ?_
        refine lv_istore_n (lv' := [(3, .int (if (σ 7 i j) < (σ 5 i 0) then σ 7 i j else σ 5 i 0)), (0, .ref (ad (15 + 3 * i))), (1, .int sh), (2, .int (nI j))]) hx hb dX2_layLeftOver_33 rfl hl (by decide) rfl (fun ls hl => ?_)
        refine lv_aload_n hx hb dX2_layLeftOver_34 rfl (lv_at hl 1 rfl) ?_
        refine lv_dup hx hb dX2_layLeftOver_35 rfl ?_
        refine xr_get S hw (j := 7) (k_m hi) (cE_m _ _ _ _ _) rfl inX2_layLeftOver_X2 (by decide) (hts (.fieldLink RX2 25 "UnionOffice$Member" "leftOver" "I") (by decide +kernel)) rfl dX2_layLeftOver_36 ?_
        refine lv_iload_n hx hb dX2_layLeftOver_39 rfl (lv_at hl 0 rfl) ?_
        refine lv_isub hx hb dX2_layLeftOver_40 ?_
        obtain ⟨σ1, hσ1⟩ : ∃ y : S3, y = su σ 5 i 0 ((σ 5 i 0) - (if (σ 7 i j) < (σ 5 i 0) then σ 7 i j else σ 5 i 0)) := ⟨_, rfl⟩
        refine xr_put S hw tyX2 tyX2_ok nmX2 (j := 7) (k_m hi) (cE_m _ _ _ _ _) rfl inX2_layLeftOver_X2 (by decide) (hts (.fieldLink RX2 25 "UnionOffice$Member" "leftOver" "I") (by decide +kernel)) rfl (tyX2_ok 7 (by decide)) rfl rfl (Nat.le_of_ble_eq_true rfl) dX2_layLeftOver_41 (cE cy ad n σ1) (by rw [hσ1]; exact up_lo _ _ _ _ i _) (fun H locs hw => ?_)
        refine lv_aload_n hx hb dX2_layLeftOver_44 rfl (lv_at hl 1 rfl) ?_
        refine xr_get S hw (j := 1) (k_m hi) (cE_m _ _ _ _ _) rfl inX2_layLeftOver_X2 (by decide) (hts (.fieldLink RX2 9 "UnionOffice$Member" "owedFor" "[I") (by decide +kernel)) rfl dX2_layLeftOver_45 ?_
        refine lv_iload_n hx hb dX2_layLeftOver_48 rfl (lv_at hl 3 rfl) ?_
        refine lv_dup2_11 hx hb dX2_layLeftOver_49 rfl rfl ?_
        refine xn_iald S hw (t0 := 0) (k_ow hi) (cE_ow _ _ _ _ _) rfl hj6 (by decide) dX2_layLeftOver_50 ?_
        refine lv_iload_n hx hb dX2_layLeftOver_51 rfl (lv_at hl 0 rfl) ?_
        refine lv_isub hx hb dX2_layLeftOver_52 ?_
        obtain ⟨σ2, hσ2⟩ : ∃ y : S3, y = su σ1 7 i j ((σ1 7 i j) - (if (σ 7 i j) < (σ 5 i 0) then σ 7 i j else σ 5 i 0)) := ⟨_, rfl⟩
        refine xn_iast S hw (t0 := 0) (k_ow hi) (cE_ow _ _ _ _ _) rfl hj6 (by decide) dX2_layLeftOver_53 (cE cy ad n σ2) (by rw [hσ2]; exact up_ow _ _ _ _ i _ _) (fun H locs hw => ?_)
        refine lv_aload_n hx hb dX2_layLeftOver_54 rfl (lv_at hl 1 rfl) ?_
        refine xr_get S hw (j := 2) (k_m hi) (cE_m _ _ _ _ _) rfl inX2_layLeftOver_X2 (by decide) (hts (.fieldLink RX2 15 "UnionOffice$Member" "laidOn" "[I") (by decide +kernel)) rfl dX2_layLeftOver_55 ?_
        refine lv_iload_n hx hb dX2_layLeftOver_58 rfl (lv_at hl 3 rfl) ?_
        refine lv_dup2_11 hx hb dX2_layLeftOver_59 rfl rfl ?_
        refine xn_iald S hw (t0 := 0) (k_ml hi) (cE_ml _ _ _ _ _) rfl hj6 (by decide) dX2_layLeftOver_60 ?_
        refine lv_iload_n hx hb dX2_layLeftOver_61 rfl (lv_at hl 0 rfl) ?_
        refine lv_iadd hx hb dX2_layLeftOver_62 ?_
        obtain ⟨σ3, hσ3⟩ : ∃ y : S3, y = su σ2 8 i j ((σ2 8 i j) + (if (σ 7 i j) < (σ 5 i 0) then σ 7 i j else σ 5 i 0)) := ⟨_, rfl⟩
        refine xn_iast S hw (t0 := 0) (k_ml hi) (cE_ml _ _ _ _ _) rfl hj6 (by decide) dX2_layLeftOver_63 (cE cy ad n σ3) (by rw [hσ3]; exact up_ml _ _ _ _ i _ _) (fun H locs hw => ?_)
        refine lv_aload_n hx hb dX2_layLeftOver_64 rfl (lv_at hl 1 rfl) ?_
        refine xr_get S hw (j := 3) (k_m hi) (cE_m _ _ _ _ _) rfl inX2_layLeftOver_X2 (by decide) (hts (.fieldLink RX2 38 "UnionOffice$Member" "branch" "LUnionOffice$Branch;") (by decide +kernel)) rfl dX2_layLeftOver_65 ?_
        refine xr_getN S hw (j := 0) (k_br n (br_lt σ3 i)) (cE_br _ _ _ _ (br_lt σ3 i)) rfl inX2_layLeftOver_X1 (by decide) (hX.1.w (w := .fieldLinkNest RX2 61 "UnionOffice$Branch" "laidOn" "[I" "UnionOffice") (by decide +kernel)) rfl dX2_layLeftOver_68 ?_
        refine lv_iload_n hx hb dX2_layLeftOver_71 rfl (lv_at hl 3 rfl) ?_
        refine lv_dup2_11 hx hb dX2_layLeftOver_72 rfl rfl ?_
        refine xn_iald S hw (t0 := 0) (k_la n (br_lt σ3 i)) (cE_la _ _ _ _ (br_lt σ3 i)) rfl hj6 (by decide) dX2_layLeftOver_73 ?_
        refine lv_iload_n hx hb dX2_layLeftOver_74 rfl (lv_at hl 0 rfl) ?_
        refine lv_iadd hx hb dX2_layLeftOver_75 ?_
        obtain ⟨σ4, hσ4⟩ : ∃ y : S3, y = su σ3 9 (br σ3 i) j ((σ3 9 (br σ3 i) j) + (if (σ 7 i j) < (σ 5 i 0) then σ 7 i j else σ 5 i 0)) := ⟨_, rfl⟩
        refine xn_iast S hw (t0 := 0) (k_la n (br_lt σ3 i)) (cE_la _ _ _ _ (br_lt σ3 i)) rfl hj6 (by decide) dX2_layLeftOver_76 (cE cy ad n σ4) (by rw [hσ4]; exact up_la _ _ _ _ (br_lt σ3 i) _ _) (fun H locs hw => ?_)
        refine lv_iload_n hx hb dX2_layLeftOver_77 rfl (lv_at hl 2 rfl) ?_
        refine lv_iload_n hx hb dX2_layLeftOver_78 rfl (lv_at hl 0 rfl) ?_
        refine lv_iconst (v := 5) hx hb dX2_layLeftOver_79 (by decide) ?_
        refine lv_idiv hx hb dX2_layLeftOver_80 (by decide) ?_
        refine lv_iadd hx hb dX2_layLeftOver_81 ?_
        refine lv_istore_n (lv' := [(1, .int (sh + ((if (σ 7 i j) < (σ 5 i 0) then σ 7 i j else σ 5 i 0) / 5))), (3, .int (if (σ 7 i j) < (σ 5 i 0) then σ 7 i j else σ 5 i 0)), (0, .ref (ad (15 + 3 * i))), (2, .int (nI j))]) hx hb dX2_layLeftOver_82 rfl hl (by decide) rfl (fun ls hl => ?_)
        refine lv_iinc (v := nI (j + 1)) (lv' := [(2, .int (nI (j + 1))), (1, .int (sh + ((if (σ 7 i j) < (σ 5 i 0) then σ 7 i j else σ 5 i 0) / 5))), (3, .int (if (σ 7 i j) < (σ 5 i 0) then σ 7 i j else σ 5 i 0)), (0, .ref (ad (15 + 3 * i)))]) hx hb dX2_layLeftOver_83 hl (k := 3) rfl (nI_1 j) (by decide) rfl (fun ls hl => ?_)
        refine lv_goto (tgt := 7) hx hb dX2_layLeftOver_86 (by decide) ?_
        have he1 : σ4 = layS σ i j := by
          rw [hσ4, hσ3, hσ2, hσ1]
          simp [layS, imin, su, br]
        rw [he1] at hw
        have he2 : layL i (60 - j) j σ sh = layL i (60 - (j + 1)) (j + 1) (layS σ i j) (sh + imin (σ 5 i 0) (σ 7 i j) / 5) := by
          rw [show 60 - j = (60 - (j + 1)) + 1 by omega]
          exact if_pos (Int32.not_le.mp c2)
        rw [he2] at kk
        exact ih (j + 1) (layS σ i j) (sh + imin (σ 5 i 0) (σ 7 i j) / 5) H locs ls (by omega) (by omega) hw (lv_sub hl [3, 1, 0] rfl) kk
set_option maxHeartbeats 1000000 in
set_option maxRecDepth 100000 in
/-- layLeftOver() -/
theorem c_X2_layLeftOver (l : Launch) (D : va_G) (cy : Nat → ClassId) (ad : Nat → Nat) (n : Nat) (σ : S3) (i : Nat) (hi : i < n) : CM l yX2_layLeftOver wsX2_layLeftOver rmX2_layLeftOver D cy ad n [.ref (ad (15 + 3 * i))] σ (xPi fun r u => u = (layA σ i).1 ∧ r = (layA σ i).2) := by
  refine xs_M (cc := cX2_layLeftOver) (maxL := 4) (ret := (some .int)) (by decide +kernel) rfl (Nat.le_of_ble_eq_true rfl) ?_
  intro p e s m below meth c ls S hr hlocks hnm hw hX hl
  have S : CallFix p m c cX2_layLeftOver 4 s [.ref (ad (15 + 3 * i))].toArray wsX2_layLeftOver RX2 := S
  have hx := S.1
  have hb := S.2.1
  have hts := S.2.2.2.2
  have hl : lv_has ls 4 [(0, .ref (ad (15 + 3 * i)))] := hl
  refine lv_iconst (v := 0) hx hb dX2_layLeftOver_0 (by decide) ?_
  refine lv_istore_n (lv' := [(1, .int 0), (0, .ref (ad (15 + 3 * i)))]) hx hb dX2_layLeftOver_1 rfl hl (by decide) rfl (fun ls hl => ?_)
  refine lv_aload_n hx hb dX2_layLeftOver_2 rfl (lv_at hl 1 rfl) ?_
  refine xr_get S hw (j := 9) (k_m hi) (cE_m _ _ _ _ _) rfl inX2_layLeftOver_X2 (by decide) (hts (.fieldLink RX2 32 "UnionOffice$Member" "earliestOwed" "I") (by decide +kernel)) rfl dX2_layLeftOver_3 ?_
  refine lv_istore_n (lv' := [(2, .int (nI (eo σ i))), (1, .int 0), (0, .ref (ad (15 + 3 * i)))]) hx hb dX2_layLeftOver_6 rfl hl (by decide) rfl (fun ls hl => ?_)
  refine lp_X2_layLeftOver S hi hX (Nat.le_of_ble_eq_true rfl) (Nat.le_of_ble_eq_true rfl) (Nat.le_of_ble_eq_true rfl) (Nat.le_of_ble_eq_true rfl) 61 (eo σ i) σ 0 _ _ ls (by omega) (eo_le σ i) hw (lv_sub hl [2, 1, 0] rfl) (fun H locs ls hw hl => ?_)
  refine lv_aload_n hx hb dX2_layLeftOver_89 rfl (lv_at hl 0 rfl) ?_
  refine xc_Mv hw (va_runV (As := []) (rest := []) S (c_X2_skipSettled l D cy ad n ((layQ σ i).1) i hi _) (cwV 0 S.2.2.2.2 gX2_layLeftOver_X2_skipSettled rfl rfl rfl (by decide +kernel) ⟨Nat.le_of_ble_eq_true rfl, Nat.le_of_ble_eq_true rfl⟩) (xc_preV (cX_ok _ _) hX hw (k_m hi) (cE_m _ _ _ _ _) rfl rfl) rfl rfl hl.1 rfl (lv_room (Nat.le_of_ble_eq_true rfl)) dX2_layLeftOver_90 ⟨Nat.le_of_ble_eq_true rfl, Nat.le_of_ble_eq_true rfl⟩) (fun u H locs hp hw => ?_)
  obtain rfl := hp
  refine lv_iload_n hx hb dX2_layLeftOver_93 rfl (lv_at hl 1 rfl) ?_
  exact xe_i S.1 S.2.1 hr hlocks hw (⟨rfl, rfl⟩) (Nat.le_of_ble_eq_true rfl) (Nat.le_of_ble_eq_true rfl) dX2_layLeftOver_94
abbrev rmX2_takeIn : Room := { frames := 2, cells := 0, slots := 0, locals := 43 }
theorem inX2_takeIn_X2 : (∀ w ∈ wsX20, w ∈ wsX2_takeIn) := by decide +kernel
set_option maxHeartbeats 1000000 in
set_option maxRecDepth 100000 in
/-- takeIn(amount) -/
theorem c_X2_takeIn (l : Launch) (D : va_G) (cy : Nat → ClassId) (ad : Nat → Nat) (n : Nat) (σ : S3) (i : Nat) (hi : i < n) (x0 : Int32) : CM l yX2_takeIn wsX2_takeIn rmX2_takeIn D cy ad n [.ref (ad (15 + 3 * i)), .int x0] σ (xPi fun r u => u = (takeF σ i x0).1 ∧ r = (takeF σ i x0).2) := by
  refine xs_M (cc := cX2_takeIn) (maxL := 2) (ret := (some .int)) (by decide +kernel) rfl (Nat.le_of_ble_eq_true rfl) ?_
  intro p e s m below meth c ls S hr hlocks hnm hw hX hl
  have S : CallFix p m c cX2_takeIn 2 s [.ref (ad (15 + 3 * i)), .int x0].toArray wsX2_takeIn RX2 := S
  have hx := S.1
  have hb := S.2.1
  have hts := S.2.2.2.2
  have hl : lv_has ls 2 [(0, .ref (ad (15 + 3 * i))), (1, .int x0)] := hl
  refine lv_aload_n hx hb dX2_takeIn_0 rfl (lv_at hl 0 rfl) ?_
  refine lv_dup hx hb dX2_takeIn_1 rfl ?_
  refine xr_get S hw (j := 7) (k_m hi) (cE_m _ _ _ _ _) rfl inX2_takeIn_X2 (by decide) (hts (.fieldLink RX2 25 "UnionOffice$Member" "leftOver" "I") (by decide +kernel)) rfl dX2_takeIn_2 ?_
  refine lv_iload_n hx hb dX2_takeIn_5 rfl (lv_at hl 1 rfl) ?_
  refine lv_iadd hx hb dX2_takeIn_6 ?_
  obtain ⟨σ1, hσ1⟩ : ∃ y : S3, y = su σ 5 i 0 ((σ 5 i 0) + x0) := ⟨_, rfl⟩
  refine xr_put S hw tyX2 tyX2_ok nmX2 (j := 7) (k_m hi) (cE_m _ _ _ _ _) rfl inX2_takeIn_X2 (by decide) (hts (.fieldLink RX2 25 "UnionOffice$Member" "leftOver" "I") (by decide +kernel)) rfl (tyX2_ok 7 (by decide)) rfl rfl (Nat.le_of_ble_eq_true rfl) dX2_takeIn_7 (cE cy ad n σ1) (by rw [hσ1]; exact up_lo _ _ _ _ i _) (fun H locs hw => ?_)
  refine lv_aload_n hx hb dX2_takeIn_10 rfl (lv_at hl 0 rfl) ?_
  refine xc_Mi hw (va_runV (As := []) (rest := []) S (c_X2_layLeftOver l D cy ad n σ1 i hi _) (cwV 0 S.2.2.2.2 gX2_takeIn_X2_layLeftOver rfl rfl rfl (by decide +kernel) ⟨Nat.le_of_ble_eq_true rfl, Nat.le_of_ble_eq_true rfl⟩) (xc_preV (cX_ok _ _) hX hw (k_m hi) (cE_m _ _ _ _ _) rfl rfl) rfl rfl hl.1 rfl (lv_room (Nat.le_of_ble_eq_true rfl)) dX2_takeIn_11 ⟨Nat.le_of_ble_eq_true rfl, Nat.le_of_ble_eq_true rfl⟩) (fun r9 u H locs hp hw => ?_)
  obtain ⟨rfl, rfl⟩ := hp
  exact xe_i S.1 S.2.1 hr hlocks hw (⟨by rw [hσ1]; rfl, by rw [hσ1]; rfl⟩) (Nat.le_of_ble_eq_true rfl) (Nat.le_of_ble_eq_true rfl) dX2_takeIn_14
abbrev rmX2_charge : Room := { frames := 2, cells := 0, slots := 0, locals := 43 }
theorem inX2_charge_X0 : (∀ w ∈ wsX00, w ∈ wsX2_charge) := by decide +kernel
theorem inX2_charge_X2 : (∀ w ∈ wsX20, w ∈ wsX2_charge) := by decide +kernel
set_option maxHeartbeats 1000000 in
set_option maxRecDepth 100000 in
/-- charge(month) -/
theorem c_X2_charge (l : Launch) (D : va_G) (cy : Nat → ClassId) (ad : Nat → Nat) (n : Nat) (σ : S3) (i : Nat) (hi : i < n) (x0 : Int32) : CM l yX2_charge wsX2_charge rmX2_charge D cy ad n [.ref (ad (15 + 3 * i)), .int x0] σ (xPi fun r u => u = (chgF σ i x0).1 ∧ r = (chgF σ i x0).2) := by
  refine xs_M (cc := cX2_charge) (maxL := 2) (ret := (some .int)) (by decide +kernel) rfl (Nat.le_of_ble_eq_true rfl) ?_
  intro p e s m below meth c ls S hr hlocks hnm hw hX hl
  have S : CallFix p m c cX2_charge 2 s [.ref (ad (15 + 3 * i)), .int x0].toArray wsX2_charge RX2 := S
  have hx := S.1
  have hb := S.2.1
  have hts := S.2.2.2.2
  have hl : lv_has ls 2 [(0, .ref (ad (15 + 3 * i))), (1, .int x0)] := hl
  refine lv_iload_n hx hb dX2_charge_0 rfl (lv_at hl 1 rfl) ?_
  refine lv_if_lt (tgt := 20) hx hb dX2_charge_1 (by decide) (fun c1 => ?_) (fun c1 => ?_)
  · refine lv_iconst (v := 0) hx hb dX2_charge_20 (by decide) ?_
    exact xe_i S.1 S.2.1 hr hlocks hw (by
            have h9 : chgF σ i x0 = (σ, 0) := if_pos (by first | exact Or.inl c1 | exact Or.inr (Or.inl c2) | exact Or.inr (Or.inr c3))
            rw [h9]; exact ⟨rfl, rfl⟩) (Nat.le_of_ble_eq_true rfl) (Nat.le_of_ble_eq_true rfl) dX2_charge_21
  · refine lv_iload_n hx hb dX2_charge_4 rfl (lv_at hl 1 rfl) ?_
    refine lv_bipush (v := 60) hx hb dX2_charge_5 (by decide) ?_
    refine lv_icmp_ge (tgt := 20) hx hb dX2_charge_7 (by decide) (fun c2 => ?_) (fun c2 => ?_)
    · refine lv_iconst (v := 0) hx hb dX2_charge_20 (by decide) ?_
      exact xe_i S.1 S.2.1 hr hlocks hw (by
              have h9 : chgF σ i x0 = (σ, 0) := if_pos (by first | exact Or.inl c1 | exact Or.inr (Or.inl c2) | exact Or.inr (Or.inr c3))
              rw [h9]; exact ⟨rfl, rfl⟩) (Nat.le_of_ble_eq_true rfl) (Nat.le_of_ble_eq_true rfl) dX2_charge_21
    · obtain ⟨mm, hmm, rfl⟩ := i32_ix c1 c2
      refine lv_aload_n hx hb dX2_charge_10 rfl (lv_at hl 0 rfl) ?_
      refine xr_get S hw (j := 4) (k_m hi) (cE_m _ _ _ _ _) rfl inX2_charge_X2 (by decide) (hts (.fieldLink RX2 42 "UnionOffice$Member" "band" "LUnionOffice$Band;") (by decide +kernel)) rfl dX2_charge_11 ?_
      refine xr_getN S hw (j := 0) (k_band n (bd_lt σ i)) (cE_band _ _ _ _ (bd_lt σ i)) rfl inX2_charge_X0 (by decide) (hX.1.w (w := .fieldLinkNest RX2 46 "UnionOffice$Band" "monthlyDues" "I" "UnionOffice") (by decide +kernel)) rfl dX2_charge_14 ?_
      refine lv_if_ne (tgt := 22) hx hb dX2_charge_17 (by decide) (fun c3 => ?_) (fun c3 => ?_)
      · refine lv_aload_n hx hb dX2_charge_22 rfl (lv_at hl 0 rfl) ?_
        refine xr_get S hw (j := 1) (k_m hi) (cE_m _ _ _ _ _) rfl inX2_charge_X2 (by decide) (hts (.fieldLink RX2 9 "UnionOffice$Member" "owedFor" "[I") (by decide +kernel)) rfl dX2_charge_23 ?_
        refine lv_iload_n hx hb dX2_charge_26 rfl (lv_at hl 1 rfl) ?_
        refine lv_aload_n hx hb dX2_charge_27 rfl (lv_at hl 0 rfl) ?_
        refine xr_get S hw (j := 4) (k_m hi) (cE_m _ _ _ _ _) rfl inX2_charge_X2 (by decide) (hts (.fieldLink RX2 42 "UnionOffice$Member" "band" "LUnionOffice$Band;") (by decide +kernel)) rfl dX2_charge_28 ?_
        refine xr_getN S hw (j := 0) (k_band n (bd_lt σ i)) (cE_band _ _ _ _ (bd_lt σ i)) rfl inX2_charge_X0 (by decide) (hX.1.w (w := .fieldLinkNest RX2 46 "UnionOffice$Band" "monthlyDues" "I" "UnionOffice") (by decide +kernel)) rfl dX2_charge_31 ?_
        obtain ⟨σ1, hσ1⟩ : ∃ y : S3, y = su σ 7 i mm (σ 0 (bd σ i) 0) := ⟨_, rfl⟩
        refine xn_iast S hw (t0 := 0) (k_ow hi) (cE_ow _ _ _ _ _) rfl hmm (by decide) dX2_charge_34 (cE cy ad n σ1) (by rw [hσ1]; exact up_ow _ _ _ _ i _ _) (fun H locs hw => ?_)
        refine lv_aload_n hx hb dX2_charge_35 rfl (lv_at hl 0 rfl) ?_
        refine lv_aload_n hx hb dX2_charge_36 rfl (lv_at hl 0 rfl) ?_
        refine xr_get S hw (j := 9) (k_m hi) (cE_m _ _ _ _ _) rfl inX2_charge_X2 (by decide) (hts (.fieldLink RX2 32 "UnionOffice$Member" "earliestOwed" "I") (by decide +kernel)) rfl dX2_charge_37 ?_
        refine lv_iload_n hx hb dX2_charge_40 rfl (lv_at hl 1 rfl) ?_
        refine va_mmin hx hb (S.2.2.1.trans hl.1.symm) S.2.2.2.1 (hts (.methodLink RX2 51 Lib.Math.min.name) (by decide +kernel)) (hts (.static Lib.Math.min.name) (by decide +kernel)) (hts (.initialized "java/lang/Math") (by decide +kernel)) (hts (.code Lib.Math.min.name Lib.Math.min.code 2 (some .int)) (by decide +kernel)) (Nat.le_of_ble_eq_true rfl) (Nat.le_of_ble_eq_true rfl) (Nat.le_of_ble_eq_true rfl) (Nat.le_of_ble_eq_true rfl) dX2_charge_41 ?_
        have heo : chgE σ1 i mm ≤ 60 := by
          have := eo_le σ1 i
          unfold chgE
          split <;> omega
        rw [show (if (nI mm) < (nI (eo σ1 i)) then nI mm else nI (eo σ1 i)) = nI (chgE σ1 i mm) from imin_nI (by have := eo_le σ1 i; omega) (by omega)]
        obtain ⟨σ2, hσ2⟩ : ∃ y : S3, y = su σ1 22 i 0 (nI (chgE σ1 i mm)) := ⟨_, rfl⟩
        refine xr_put S hw tyX2 tyX2_ok nmX2 (j := 9) (k_m hi) (cE_m _ _ _ _ _) rfl inX2_charge_X2 (by decide) (hts (.fieldLink RX2 32 "UnionOffice$Member" "earliestOwed" "I") (by decide +kernel)) rfl (tyX2_ok 9 (by decide)) rfl rfl (Nat.le_of_ble_eq_true rfl) dX2_charge_44 (cE cy ad n σ2) (by rw [hσ2]; exact up_eo _ _ _ _ i heo) (fun H locs hw => ?_)
        refine lv_aload_n hx hb dX2_charge_47 rfl (lv_at hl 0 rfl) ?_
        refine xc_Mi hw (va_runV (As := []) (rest := []) S (c_X2_layLeftOver l D cy ad n σ2 i hi _) (cwV 0 S.2.2.2.2 gX2_charge_X2_layLeftOver rfl rfl rfl (by decide +kernel) ⟨Nat.le_of_ble_eq_true rfl, Nat.le_of_ble_eq_true rfl⟩) (xc_preV (cX_ok _ _) hX hw (k_m hi) (cE_m _ _ _ _ _) rfl rfl) rfl rfl hl.1 rfl (lv_room (Nat.le_of_ble_eq_true rfl)) dX2_charge_48 ⟨Nat.le_of_ble_eq_true rfl, Nat.le_of_ble_eq_true rfl⟩) (fun r9 u H locs hp hw => ?_)
        obtain ⟨rfl, rfl⟩ := hp
        exact xe_i S.1 S.2.1 hr hlocks hw (by
                have h9 : chgF σ i (nI mm) = layA σ2 i := by
                  unfold chgF
                  rw [if_neg (fun q => q.elim c1 (fun q => q.elim c2 c3)), cl_nI (by omega), hσ2, hσ1]
                  rfl
                rw [h9]; exact ⟨rfl, rfl⟩) (Nat.le_of_ble_eq_true rfl) (Nat.le_of_ble_eq_true rfl) dX2_charge_51
      · refine lv_iconst (v := 0) hx hb dX2_charge_20 (by decide) ?_
        exact xe_i S.1 S.2.1 hr hlocks hw (by
                have h9 : chgF σ i (nI mm) = (σ, 0) := if_pos (by first | exact Or.inl c1 | exact Or.inr (Or.inl c2) | exact Or.inr (Or.inr c3))
                rw [h9]; exact ⟨rfl, rfl⟩) (Nat.le_of_ble_eq_true rfl) (Nat.le_of_ble_eq_true rfl) dX2_charge_21
end
section
/-! ===== Integer.bitCount; UnionOffice$Branch ===== -/
def ushr (x y : Int32) : Int32 := (x.toUInt32 >>> (y.toUInt32 &&& Int32.toUInt32 31)).toInt32
def bc1 (x : Int32) : Int32 := x - (ushr x 1 &&& 1431655765)
def bc2 (x : Int32) : Int32 := (x &&& 858993459) + (ushr x 2 &&& 858993459)
def bc3 (x : Int32) : Int32 := x + ushr x 4 &&& 252645135
def bc4 (x : Int32) : Int32 := x + ushr x 8
def bc5 (x : Int32) : Int32 := x + ushr x 16
/-- Integer.bitCount, as its bytecode reckons -/
def bcF (x : Int32) : Int32 := bc5 (bc4 (bc3 (bc2 (bc1 x)))) &&& 63
abbrev rmJ6_bitCount_0f7a4 : Room := { frames := 0, cells := 0, slots := 0, locals := 0 }
set_option maxHeartbeats 1000000 in
set_option maxRecDepth 100000 in
/-- Integer.bitCount -/
theorem c_J6_bitCount_0f7a4 (l : Launch) (D : va_G) (cy : Nat → ClassId) (ad : Nat → Nat) (n : Nat) (σ : S3) (x0 : Int32) : CM l yJ6_bitCount_0f7a4 wsJ6_bitCount_0f7a4 rmJ6_bitCount_0f7a4 D cy ad n [.int x0] σ (xPi fun r u => u = σ ∧ r = bcF x0) := by
  refine xs_M (cc := cJ6_bitCount_0f7a4) (maxL := 1) (ret := (some .int)) (by decide +kernel) rfl (Nat.le_of_ble_eq_true rfl) ?_
  intro p e s m below meth c ls S hr hlocks hnm hw hX hl
  have S : CallFix p m c cJ6_bitCount_0f7a4 1 s [.int x0].toArray wsJ6_bitCount_0f7a4 RJ6 := S
  have hx := S.1
  have hb := S.2.1
  have hts := S.2.2.2.2
  have hl : lv_has ls 1 [(0, .int x0)] := hl
  refine lv_iload_n hx hb dJ6_bitCount_0f7a4_0 rfl (lv_at hl 0 rfl) ?_
  refine lv_iload_n hx hb dJ6_bitCount_0f7a4_1 rfl (lv_at hl 0 rfl) ?_
  refine lv_iconst (v := 1) hx hb dJ6_bitCount_0f7a4_2 (by decide) ?_
  refine lv_iushr (v := ushr x0 1) hx hb dJ6_bitCount_0f7a4_3 rfl ?_
  refine lv_ldcw hx hb S.2.2.2.1 (hts (.constant RJ6 265 (1431655765)) (by decide +kernel)) dJ6_bitCount_0f7a4_4 ?_
  refine lv_iand hx hb dJ6_bitCount_0f7a4_7 ?_
  refine lv_isub hx hb dJ6_bitCount_0f7a4_8 ?_
  refine lv_istore_n (lv' := [(0, .int (x0 - ((ushr x0 1) &&& 1431655765)))]) hx hb dJ6_bitCount_0f7a4_9 rfl hl (by decide) rfl (fun ls hl => ?_)
  refine lv_iload_n hx hb dJ6_bitCount_0f7a4_10 rfl (lv_at hl 0 rfl) ?_
  refine lv_ldcw hx hb S.2.2.2.1 (hts (.constant RJ6 266 (858993459)) (by decide +kernel)) dJ6_bitCount_0f7a4_11 ?_
  refine lv_iand hx hb dJ6_bitCount_0f7a4_14 ?_
  refine lv_iload_n hx hb dJ6_bitCount_0f7a4_15 rfl (lv_at hl 0 rfl) ?_
  refine lv_iconst (v := 2) hx hb dJ6_bitCount_0f7a4_16 (by decide) ?_
  refine lv_iushr (v := ushr (x0 - ((ushr x0 1) &&& 1431655765)) 2) hx hb dJ6_bitCount_0f7a4_17 rfl ?_
  refine lv_ldcw hx hb S.2.2.2.1 (hts (.constant RJ6 266 (858993459)) (by decide +kernel)) dJ6_bitCount_0f7a4_18 ?_
  refine lv_iand hx hb dJ6_bitCount_0f7a4_21 ?_
  refine lv_iadd hx hb dJ6_bitCount_0f7a4_22 ?_
  refine lv_istore_n (lv' := [(0, .int (((x0 - ((ushr x0 1) &&& 1431655765)) &&& 858993459) + ((ushr (x0 - ((ushr x0 1) &&& 1431655765)) 2) &&& 858993459)))]) hx hb dJ6_bitCount_0f7a4_23 rfl hl (by decide) rfl (fun ls hl => ?_)
  refine lv_iload_n hx hb dJ6_bitCount_0f7a4_24 rfl (lv_at hl 0 rfl) ?_
  refine lv_iload_n hx hb dJ6_bitCount_0f7a4_25 rfl (lv_at hl 0 rfl) ?_
  refine lv_iconst (v := 4) hx hb dJ6_bitCount_0f7a4_26 (by decide) ?_
  refine lv_iushr (v := ushr (((x0 - ((ushr x0 1) &&& 1431655765)) &&& 858993459) + ((ushr (x0 - ((ushr x0 1) &&& 1431655765)) 2) &&& 858993459)) 4) hx hb dJ6_bitCount_0f7a4_27 rfl ?_
  refine lv_iadd hx hb dJ6_bitCount_0f7a4_28 ?_
  refine lv_ldcw hx hb S.2.2.2.1 (hts (.constant RJ6 267 (252645135)) (by decide +kernel)) dJ6_bitCount_0f7a4_29 ?_
  refine lv_iand hx hb dJ6_bitCount_0f7a4_32 ?_
  refine lv_istore_n (lv' := [(0, .int (((((x0 - ((ushr x0 1) &&& 1431655765)) &&& 858993459) + ((ushr (x0 - ((ushr x0 1) &&& 1431655765)) 2) &&& 858993459)) + (ushr (((x0 - ((ushr x0 1) &&& 1431655765)) &&& 858993459) + ((ushr (x0 - ((ushr x0 1) &&& 1431655765)) 2) &&& 858993459)) 4)) &&& 252645135))]) hx hb dJ6_bitCount_0f7a4_33 rfl hl (by decide) rfl (fun ls hl => ?_)
  refine lv_iload_n hx hb dJ6_bitCount_0f7a4_34 rfl (lv_at hl 0 rfl) ?_
  refine lv_iload_n hx hb dJ6_bitCount_0f7a4_35 rfl (lv_at hl 0 rfl) ?_
  refine lv_bipush (v := 8) hx hb dJ6_bitCount_0f7a4_36 (by decide) ?_
  refine lv_iushr (v := ushr (((((x0 - ((ushr x0 1) &&& 1431655765)) &&& 858993459) + ((ushr (x0 - ((ushr x0 1) &&& 1431655765)) 2) &&& 858993459)) + (ushr (((x0 - ((ushr x0 1) &&& 1431655765)) &&& 858993459) + ((ushr (x0 - ((ushr x0 1) &&& 1431655765)) 2) &&& 858993459)) 4)) &&& 252645135) 8) hx hb dJ6_bitCount_0f7a4_38 rfl ?_
  refine lv_iadd hx hb dJ6_bitCount_0f7a4_39 ?_
  refine lv_istore_n (lv' := [(0, .int ((((((x0 - ((ushr x0 1) &&& 1431655765)) &&& 858993459) + ((ushr (x0 - ((ushr x0 1) &&& 1431655765)) 2) &&& 858993459)) + (ushr (((x0 - ((ushr x0 1) &&& 1431655765)) &&& 858993459) + ((ushr (x0 - ((ushr x0 1) &&& 1431655765)) 2) &&& 858993459)) 4)) &&& 252645135) + (ushr (((((x0 - ((ushr x0 1) &&& 1431655765)) &&& 858993459) + ((ushr (x0 - ((ushr x0 1) &&& 1431655765)) 2) &&& 858993459)) + (ushr (((x0 - ((ushr x0 1) &&& 1431655765)) &&& 858993459) + ((ushr (x0 - ((ushr x0 1) &&& 1431655765)) 2) &&& 858993459)) 4)) &&& 252645135) 8)))]) hx hb dJ6_bitCount_0f7a4_40 rfl hl (by decide) rfl (fun ls hl => ?_)
  refine lv_iload_n hx hb dJ6_bitCount_0f7a4_41 rfl (lv_at hl 0 rfl) ?_
  refine lv_iload_n hx hb dJ6_bitCount_0f7a4_42 rfl (lv_at hl 0 rfl) ?_
  refine lv_bipush (v := 16) hx hb dJ6_bitCount_0f7a4_43 (by decide) ?_
  refine lv_iushr (v := ushr ((((((x0 - ((ushr x0 1) &&& 1431655765)) &&& 858993459) + ((ushr (x0 - ((ushr x0 1) &&& 1431655765)) 2) &&& 858993459)) + (ushr (((x0 - ((ushr x0 1) &&& 1431655765)) &&& 858993459) + ((ushr (x0 - ((ushr x0 1) &&& 1431655765)) 2) &&& 858993459)) 4)) &&& 252645135) + (ushr (((((x0 - ((ushr x0 1) &&& 1431655765)) &&& 858993459) + ((ushr (x0 - ((ushr x0 1) &&& 1431655765)) 2) &&& 858993459)) + (ushr (((x0 - ((ushr x0 1) &&& 1431655765)) &&& 858993459) + ((ushr (x0 - ((ushr x0 1) &&& 1431655765)) 2) &&& 858993459)) 4)) &&& 252645135) 8)) 16) hx hb dJ6_bitCount_0f7a4_45 rfl ?_
  refine lv_iadd hx hb dJ6_bitCount_0f7a4_46 ?_
  refine lv_istore_n (lv' := [(0, .int (((((((x0 - ((ushr x0 1) &&& 1431655765)) &&& 858993459) + ((ushr (x0 - ((ushr x0 1) &&& 1431655765)) 2) &&& 858993459)) + (ushr (((x0 - ((ushr x0 1) &&& 1431655765)) &&& 858993459) + ((ushr (x0 - ((ushr x0 1) &&& 1431655765)) 2) &&& 858993459)) 4)) &&& 252645135) + (ushr (((((x0 - ((ushr x0 1) &&& 1431655765)) &&& 858993459) + ((ushr (x0 - ((ushr x0 1) &&& 1431655765)) 2) &&& 858993459)) + (ushr (((x0 - ((ushr x0 1) &&& 1431655765)) &&& 858993459) + ((ushr (x0 - ((ushr x0 1) &&& 1431655765)) 2) &&& 858993459)) 4)) &&& 252645135) 8)) + (ushr ((((((x0 - ((ushr x0 1) &&& 1431655765)) &&& 858993459) + ((ushr (x0 - ((ushr x0 1) &&& 1431655765)) 2) &&& 858993459)) + (ushr (((x0 - ((ushr x0 1) &&& 1431655765)) &&& 858993459) + ((ushr (x0 - ((ushr x0 1) &&& 1431655765)) 2) &&& 858993459)) 4)) &&& 252645135) + (ushr (((((x0 - ((ushr x0 1) &&& 1431655765)) &&& 858993459) + ((ushr (x0 - ((ushr x0 1) &&& 1431655765)) 2) &&& 858993459)) + (ushr (((x0 - ((ushr x0 1) &&& 1431655765)) &&& 858993459) + ((ushr (x0 - ((ushr x0 1) &&& 1431655765)) 2) &&& 858993459)) 4)) &&& 252645135) 8)) 16)))]) hx hb dJ6_bitCount_0f7a4_47 rfl hl (by decide) rfl (fun ls hl => ?_)
  refine lv_iload_n hx hb dJ6_bitCount_0f7a4_48 rfl (lv_at hl 0 rfl) ?_
  refine lv_bipush (v := 63) hx hb dJ6_bitCount_0f7a4_49 (by decide) ?_
  refine lv_iand hx hb dJ6_bitCount_0f7a4_51 ?_
  exact xe_i S.1 S.2.1 hr hlocks hw (⟨rfl, rfl⟩) (Nat.le_of_ble_eq_true rfl) (Nat.le_of_ble_eq_true rfl) dJ6_bitCount_0f7a4_52
abbrev rmX1_beginBallot : Room := { frames := 0, cells := 0, slots := 0, locals := 0 }
def bgF (σ : S3) (b : Nat) : S3 := su (su (su σ 10 b 0 1) 12 b 0 0) 11 b 0 0
theorem inX1_beginBallot_X1 : (∀ w ∈ wsX10, w ∈ wsX1_beginBallot) := by decide +kernel
set_option maxHeartbeats 1000000 in
set_option maxRecDepth 100000 in
/-- beginBallot() -/
theorem c_X1_beginBallot (l : Launch) (D : va_G) (cy : Nat → ClassId) (ad : Nat → Nat) (n : Nat) (σ : S3) (b : Nat) (hb4 : b < 4) : CM l yX1_beginBallot wsX1_beginBallot rmX1_beginBallot D cy ad n [.ref (ad (7 + b))] σ (xPv fun u => u = bgF σ b) := by
  refine xs_M (cc := cX1_beginBallot) (maxL := 1) (ret := none) (by decide +kernel) rfl (Nat.le_of_ble_eq_true rfl) ?_
  intro p e s m below meth c ls S hr hlocks hnm hw hX hl
  have S : CallFix p m c cX1_beginBallot 1 s [.ref (ad (7 + b))].toArray wsX1_beginBallot RX1 := S
  have hx := S.1
  have hb := S.2.1
  have hts := S.2.2.2.2
  have hl : lv_has ls 1 [(0, .ref (ad (7 + b)))] := hl
  refine lv_aload_n hx hb dX1_beginBallot_0 rfl (lv_at hl 0 rfl) ?_
  refine lv_iconst (v := 1) hx hb dX1_beginBallot_1 (by decide) ?_
  obtain ⟨σ1, hσ1⟩ : ∃ y : S3, y = su σ 10 b 0 1 := ⟨_, rfl⟩
  refine xr_put S hw tyX1 tyX1_ok nmX1 (j := 1) (k_br n hb4) (cE_br _ _ _ _ hb4) rfl inX1_beginBallot_X1 (by decide) (hts (.fieldLink RX1 15 "UnionOffice$Branch" "hasBallot" "Z") (by decide +kernel)) rfl (tyX1_ok 1 (by decide)) (nar_z (Or.inr rfl)) (fit_z (Or.inr rfl)) (Nat.le_of_ble_eq_true rfl) dX1_beginBallot_2 (cE cy ad n σ1) (by rw [hσ1]; exact up_ballot _ _ _ _ hb4 _) (fun H locs hw => ?_)
  refine lv_aload_n hx hb dX1_beginBallot_5 rfl (lv_at hl 0 rfl) ?_
  refine lv_iconst (v := 0) hx hb dX1_beginBallot_6 (by decide) ?_
  obtain ⟨σ2, hσ2⟩ : ∃ y : S3, y = su σ1 12 b 0 0 := ⟨_, rfl⟩
  refine xr_put S hw tyX1 tyX1_ok nmX1 (j := 2) (k_br n hb4) (cE_br _ _ _ _ hb4) rfl inX1_beginBallot_X1 (by decide) (hts (.fieldLink RX1 19 "UnionOffice$Branch" "voters" "I") (by decide +kernel)) rfl (tyX1_ok 2 (by decide)) rfl rfl (Nat.le_of_ble_eq_true rfl) dX1_beginBallot_7 (cE cy ad n σ2) (by rw [hσ2]; exact up_voters _ _ _ _ hb4 _) (fun H locs hw => ?_)
  refine lv_aload_n hx hb dX1_beginBallot_10 rfl (lv_at hl 0 rfl) ?_
  refine lv_iconst (v := 0) hx hb dX1_beginBallot_11 (by decide) ?_
  obtain ⟨σ3, hσ3⟩ : ∃ y : S3, y = su σ2 11 b 0 0 := ⟨_, rfl⟩
  refine xr_put S hw tyX1 tyX1_ok nmX1 (j := 3) (k_br n hb4) (cE_br _ _ _ _ hb4) rfl inX1_beginBallot_X1 (by decide) (hts (.fieldLink RX1 23 "UnionOffice$Branch" "yesVoters" "I") (by decide +kernel)) rfl (tyX1_ok 3 (by decide)) rfl rfl (Nat.le_of_ble_eq_true rfl) dX1_beginBallot_12 (cE cy ad n σ3) (by rw [hσ3]; exact up_yes _ _ _ _ hb4 _) (fun H locs hw => ?_)
  exact xe_v S.1 S.2.1 hr hlocks hw (by rw [hσ3, hσ2, hσ1]; rfl) (Nat.le_of_ble_eq_true rfl) (Nat.le_of_ble_eq_true rfl) dX1_beginBallot_15
abbrev rmX1_hasVoteOf : Room := { frames := 1, cells := 0, slots := 0, locals := 20 }
abbrev bitI (i : Nat) : Int32 := 1 <<< (nI i &&& 31)
def hvI (σ : S3) (b i : Nat) : Int32 := if σ 12 b 0 &&& bitI i = 0 then 0 else 1
theorem inX1_hasVoteOf_X1 : (∀ w ∈ wsX10, w ∈ wsX1_hasVoteOf) := by decide +kernel
set_option maxHeartbeats 1000000 in
set_option maxRecDepth 100000 in
/-- hasVoteOf(member) -/
theorem c_X1_hasVoteOf (l : Launch) (D : va_G) (cy : Nat → ClassId) (ad : Nat → Nat) (n : Nat) (σ : S3) (b : Nat) (hb4 : b < 4) (i : Nat) (hi : i < n) : CM l yX1_hasVoteOf wsX1_hasVoteOf rmX1_hasVoteOf D cy ad n [.ref (ad (7 + b)), .ref (ad (15 + 3 * i))] σ (xPi fun r u => u = σ ∧ r = hvI σ b i) := by
  refine xs_M (cc := cX1_hasVoteOf) (maxL := 2) (ret := (some .boolean)) (by decide +kernel) rfl (Nat.le_of_ble_eq_true rfl) ?_
  intro p e s m below meth c ls S hr hlocks hnm hw hX hl
  have S : CallFix p m c cX1_hasVoteOf 2 s [.ref (ad (7 + b)), .ref (ad (15 + 3 * i))].toArray wsX1_hasVoteOf RX1 := S
  have hx := S.1
  have hb := S.2.1
  have hts := S.2.2.2.2
  have hl : lv_has ls 2 [(0, .ref (ad (7 + b))), (1, .ref (ad (15 + 3 * i)))] := hl
  refine lv_aload_n hx hb dX1_hasVoteOf_0 rfl (lv_at hl 0 rfl) ?_
  refine xr_get S hw (j := 2) (k_br n hb4) (cE_br _ _ _ _ hb4) rfl inX1_hasVoteOf_X1 (by decide) (hts (.fieldLink RX1 19 "UnionOffice$Branch" "voters" "I") (by decide +kernel)) rfl dX1_hasVoteOf_1 ?_
  refine lv_aload_n hx hb dX1_hasVoteOf_4 rfl (lv_at hl 1 rfl) ?_
  refine xc_Mi hw (va_runVN (As := []) (rest := [.int (σ 12 b 0)]) S (c_X2_bit l D cy ad n σ i hi _) ⟨va_cnB 0 S.2.2.2.2 gX1_hasVoteOf_X2_bit_n35 rfl rfl rfl (hX.1.w (w := .methodLinkNest RX1 35 yX2_bit "UnionOffice") (by decide +kernel)) (hts (.initialized RX2) (by decide +kernel)) (by decide +kernel) ⟨Nat.le_of_ble_eq_true rfl, Nat.le_of_ble_eq_true rfl⟩, hts (.instanceMethod yX2_bit) (by decide +kernel), hts (.selects RX2 yX2_bit yX2_bit) (by decide +kernel)⟩ (xc_preV (cX_ok _ _) hX hw (k_m hi) (cE_m _ _ _ _ _) rfl rfl) rfl rfl hl.1 rfl (lv_room (Nat.le_of_ble_eq_true rfl)) dX1_hasVoteOf_5 ⟨Nat.le_of_ble_eq_true rfl, Nat.le_of_ble_eq_true rfl⟩) (fun r9 u H locs hp hw => ?_)
  obtain ⟨hu9, rfl⟩ := hp
  rw [hu9] at hw
  clear hu9
  refine lv_iand hx hb dX1_hasVoteOf_8 ?_
  refine lv_if_eq (tgt := 16) hx hb dX1_hasVoteOf_9 (by decide) (fun c1 => ?_) (fun c1 => ?_)
  · refine lv_iconst (v := 0) hx hb dX1_hasVoteOf_16 (by decide) ?_
    exact xe_z S.1 S.2.1 hr (Or.inl rfl) hlocks hw (⟨rfl, by simp [hvI, c1]⟩) (Nat.le_of_ble_eq_true rfl) (Nat.le_of_ble_eq_true rfl) dX1_hasVoteOf_17
  · refine lv_iconst (v := 1) hx hb dX1_hasVoteOf_12 (by decide) ?_
    refine lv_goto (tgt := 17) hx hb dX1_hasVoteOf_13 (by decide) ?_
    exact xe_z S.1 S.2.1 hr (Or.inr rfl) hlocks hw (⟨rfl, by simp [hvI, c1]⟩) (Nat.le_of_ble_eq_true rfl) (Nat.le_of_ble_eq_true rfl) dX1_hasVoteOf_17
abbrev rmX1_takeVote : Room := { frames := 1, cells := 0, slots := 0, locals := 20 }
def tvF (σ : S3) (b i : Nat) (y : Int32) : S3 := if y = 0 then su σ 12 b 0 (σ 12 b 0 ||| bitI i) else su (su σ 12 b 0 (σ 12 b 0 ||| bitI i)) 11 b 0 (σ 11 b 0 ||| bitI i)
theorem inX1_takeVote_X1 : (∀ w ∈ wsX10, w ∈ wsX1_takeVote) := by decide +kernel
set_option maxHeartbeats 1000000 in
set_option maxRecDepth 100000 in
/-- takeVote(member, isYes) -/
theorem c_X1_takeVote (l : Launch) (D : va_G) (cy : Nat → ClassId) (ad : Nat → Nat) (n : Nat) (σ : S3) (b : Nat) (hb4 : b < 4) (i : Nat) (hi : i < n) (x0 : Int32) : CM l yX1_takeVote wsX1_takeVote rmX1_takeVote D cy ad n [.ref (ad (7 + b)), .ref (ad (15 + 3 * i)), .int x0] σ (xPv fun u => u = tvF σ b i x0) := by
  refine xs_M (cc := cX1_takeVote) (maxL := 3) (ret := none) (by decide +kernel) rfl (Nat.le_of_ble_eq_true rfl) ?_
  intro p e s m below meth c ls S hr hlocks hnm hw hX hl
  have S : CallFix p m c cX1_takeVote 3 s [.ref (ad (7 + b)), .ref (ad (15 + 3 * i)), .int x0].toArray wsX1_takeVote RX1 := S
  have hx := S.1
  have hb := S.2.1
  have hts := S.2.2.2.2
  have hl : lv_has ls 3 [(0, .ref (ad (7 + b))), (1, .ref (ad (15 + 3 * i))), (2, .int x0)] := hl
  refine lv_aload_n hx hb dX1_takeVote_0 rfl (lv_at hl 0 rfl) ?_
  refine lv_dup hx hb dX1_takeVote_1 rfl ?_
  refine xr_get S hw (j := 2) (k_br n hb4) (cE_br _ _ _ _ hb4) rfl inX1_takeVote_X1 (by decide) (hts (.fieldLink RX1 19 "UnionOffice$Branch" "voters" "I") (by decide +kernel)) rfl dX1_takeVote_2 ?_
  refine lv_aload_n hx hb dX1_takeVote_5 rfl (lv_at hl 1 rfl) ?_
  refine xc_Mi hw (va_runVN (As := []) (rest := [.int (σ 12 b 0), .ref (ad (7 + b))]) S (c_X2_bit l D cy ad n σ i hi _) ⟨va_cnB 0 S.2.2.2.2 gX1_takeVote_X2_bit_n35 rfl rfl rfl (hX.1.w (w := .methodLinkNest RX1 35 yX2_bit "UnionOffice") (by decide +kernel)) (hts (.initialized RX2) (by decide +kernel)) (by decide +kernel) ⟨Nat.le_of_ble_eq_true rfl, Nat.le_of_ble_eq_true rfl⟩, hts (.instanceMethod yX2_bit) (by decide +kernel), hts (.selects RX2 yX2_bit yX2_bit) (by decide +kernel)⟩ (xc_preV (cX_ok _ _) hX hw (k_m hi) (cE_m _ _ _ _ _) rfl rfl) rfl rfl hl.1 rfl (lv_room (Nat.le_of_ble_eq_true rfl)) dX1_takeVote_6 ⟨Nat.le_of_ble_eq_true rfl, Nat.le_of_ble_eq_true rfl⟩) (fun r9 u H locs hp hw => ?_)
  obtain ⟨hu9, rfl⟩ := hp
  rw [hu9] at hw
  clear hu9
  refine lv_ior hx hb dX1_takeVote_9 ?_
  obtain ⟨σ1, hσ1⟩ : ∃ y : S3, y = su σ 12 b 0 ((σ 12 b 0) ||| (1 <<< (nI i &&& 31))) := ⟨_, rfl⟩
  refine xr_put S hw tyX1 tyX1_ok nmX1 (j := 2) (k_br n hb4) (cE_br _ _ _ _ hb4) rfl inX1_takeVote_X1 (by decide) (hts (.fieldLink RX1 19 "UnionOffice$Branch" "voters" "I") (by decide +kernel)) rfl (tyX1_ok 2 (by decide)) rfl rfl (Nat.le_of_ble_eq_true rfl) dX1_takeVote_10 (cE cy ad n σ1) (by rw [hσ1]; exact up_voters _ _ _ _ hb4 _) (fun H locs hw => ?_)
  refine lv_iload_n hx hb dX1_takeVote_13 rfl (lv_at hl 2 rfl) ?_
  refine lv_if_eq (tgt := 30) hx hb dX1_takeVote_14 (by decide) (fun c1 => ?_) (fun c1 => ?_)
  · exact xe_v S.1 S.2.1 hr hlocks hw (by rw [hσ1]; exact (if_pos c1).symm) (Nat.le_of_ble_eq_true rfl) (Nat.le_of_ble_eq_true rfl) dX1_takeVote_30
  · refine lv_aload_n hx hb dX1_takeVote_17 rfl (lv_at hl 0 rfl) ?_
    refine lv_dup hx hb dX1_takeVote_18 rfl ?_
    refine xr_get S hw (j := 3) (k_br n hb4) (cE_br _ _ _ _ hb4) rfl inX1_takeVote_X1 (by decide) (hts (.fieldLink RX1 23 "UnionOffice$Branch" "yesVoters" "I") (by decide +kernel)) rfl dX1_takeVote_19 ?_
    refine lv_aload_n hx hb dX1_takeVote_22 rfl (lv_at hl 1 rfl) ?_
    refine xc_Mi hw (va_runVN (As := []) (rest := [.int (σ1 11 b 0), .ref (ad (7 + b))]) S (c_X2_bit l D cy ad n σ1 i hi _) ⟨va_cnB 0 S.2.2.2.2 gX1_takeVote_X2_bit_n35 rfl rfl rfl (hX.1.w (w := .methodLinkNest RX1 35 yX2_bit "UnionOffice") (by decide +kernel)) (hts (.initialized RX2) (by decide +kernel)) (by decide +kernel) ⟨Nat.le_of_ble_eq_true rfl, Nat.le_of_ble_eq_true rfl⟩, hts (.instanceMethod yX2_bit) (by decide +kernel), hts (.selects RX2 yX2_bit yX2_bit) (by decide +kernel)⟩ (xc_preV (cX_ok _ _) hX hw (k_m hi) (cE_m _ _ _ _ _) rfl rfl) rfl rfl hl.1 rfl (lv_room (Nat.le_of_ble_eq_true rfl)) dX1_takeVote_23 ⟨Nat.le_of_ble_eq_true rfl, Nat.le_of_ble_eq_true rfl⟩) (fun r9 u H locs hp hw => ?_)
    obtain ⟨hu9, rfl⟩ := hp
    rw [hu9] at hw
    clear hu9
    refine lv_ior hx hb dX1_takeVote_26 ?_
    obtain ⟨σ2, hσ2⟩ : ∃ y : S3, y = su σ1 11 b 0 ((σ1 11 b 0) ||| (1 <<< (nI i &&& 31))) := ⟨_, rfl⟩
    refine xr_put S hw tyX1 tyX1_ok nmX1 (j := 3) (k_br n hb4) (cE_br _ _ _ _ hb4) rfl inX1_takeVote_X1 (by decide) (hts (.fieldLink RX1 23 "UnionOffice$Branch" "yesVoters" "I") (by decide +kernel)) rfl (tyX1_ok 3 (by decide)) rfl rfl (Nat.le_of_ble_eq_true rfl) dX1_takeVote_27 (cE cy ad n σ2) (by rw [hσ2]; exact up_yes _ _ _ _ hb4 _) (fun H locs hw => ?_)
    exact xe_v S.1 S.2.1 hr hlocks hw (by rw [hσ2, hσ1]; exact (if_neg c1).symm) (Nat.le_of_ble_eq_true rfl) (Nat.le_of_ble_eq_true rfl) dX1_takeVote_30
abbrev rmX1_countVotes : Room := { frames := 1, cells := 0, slots := 0, locals := 20 }
theorem inX1_countVotes_X1 : (∀ w ∈ wsX10, w ∈ wsX1_countVotes) := by decide +kernel
set_option maxHeartbeats 1000000 in
set_option maxRecDepth 100000 in
/-- countVotes() -/
theorem c_X1_countVotes (l : Launch) (D : va_G) (cy : Nat → ClassId) (ad : Nat → Nat) (n : Nat) (σ : S3) (b : Nat) (hb4 : b < 4) : CM l yX1_countVotes wsX1_countVotes rmX1_countVotes D cy ad n [.ref (ad (7 + b))] σ (xPi fun r u => u = σ ∧ r = bcF (σ 12 b 0)) := by
  refine xs_M (cc := cX1_countVotes) (maxL := 1) (ret := (some .int)) (by decide +kernel) rfl (Nat.le_of_ble_eq_true rfl) ?_
  intro p e s m below meth c ls S hr hlocks hnm hw hX hl
  have S : CallFix p m c cX1_countVotes 1 s [.ref (ad (7 + b))].toArray wsX1_countVotes RX1 := S
  have hx := S.1
  have hb := S.2.1
  have hts := S.2.2.2.2
  have hl : lv_has ls 1 [(0, .ref (ad (7 + b)))] := hl
  refine lv_aload_n hx hb dX1_countVotes_0 rfl (lv_at hl 0 rfl) ?_
  refine xr_get S hw (j := 2) (k_br n hb4) (cE_br _ _ _ _ hb4) rfl inX1_countVotes_X1 (by decide) (hts (.fieldLink RX1 19 "UnionOffice$Branch" "voters" "I") (by decide +kernel)) rfl dX1_countVotes_1 ?_
  refine xc_Mi hw (va_runS (As := [.int (σ 12 b 0)]) (rest := []) S (c_J6_bitCount_0f7a4 l D cy ad n σ (σ 12 b 0) _) (va_cwS 1 S.2.2.2.2 gX1_countVotes_J6_bitCount_0f7a4 rfl rfl rfl (by decide +kernel) ⟨Nat.le_of_ble_eq_true rfl, Nat.le_of_ble_eq_true rfl⟩) (xc_preS (cX_ok _ _) hX hw _) rfl rfl hl.1 rfl (lv_room (Nat.le_of_ble_eq_true rfl)) dX1_countVotes_4 ⟨Nat.le_of_ble_eq_true rfl, Nat.le_of_ble_eq_true rfl⟩) (fun r9 u H locs hp hw => ?_)
  obtain ⟨hu9, rfl⟩ := hp
  rw [hu9] at hw
  clear hu9
  exact xe_i S.1 S.2.1 hr hlocks hw (⟨rfl, rfl⟩) (Nat.le_of_ble_eq_true rfl) (Nat.le_of_ble_eq_true rfl) dX1_countVotes_7
abbrev rmX1_endBallot : Room := { frames := 2, cells := 0, slots := 0, locals := 40 }
def wonP (σ : S3) (b : Nat) (x : Int32) : Prop := ¬ bcF (σ 11 b 0) ≤ bcF (σ 12 b 0) - bcF (σ 11 b 0) ∧ ¬ 2 * bcF (σ 12 b 0) < x
def wonI (σ : S3) (b : Nat) (x : Int32) : Int32 := if bcF (σ 11 b 0) ≤ bcF (σ 12 b 0) - bcF (σ 11 b 0) then 0 else if 2 * bcF (σ 12 b 0) < x then 0 else 1
theorem wonI_01 (σ : S3) (b : Nat) (x : Int32) : wonI σ b x = 0 ∨ wonI σ b x = 1 := by
  unfold wonI
  split
  · exact Or.inl rfl
  · split
    · exact Or.inl rfl
    · exact Or.inr rfl
def ebF (σ : S3) (b : Nat) (x : Int32) : S3 := su (su σ 10 b 0 0) 13 b 0 (wonI σ b x)
theorem inX1_endBallot_X1 : (∀ w ∈ wsX10, w ∈ wsX1_endBallot) := by decide +kernel
set_option maxHeartbeats 1000000 in
set_option maxRecDepth 100000 in
/-- endBallot(standing) -/
theorem c_X1_endBallot (l : Launch) (D : va_G) (cy : Nat → ClassId) (ad : Nat → Nat) (n : Nat) (σ : S3) (b : Nat) (hb4 : b < 4) (x0 : Int32) : CM l yX1_endBallot wsX1_endBallot rmX1_endBallot D cy ad n [.ref (ad (7 + b)), .int x0] σ (xPv fun u => u = ebF σ b x0) := by
  refine xs_M (cc := cX1_endBallot) (maxL := 4) (ret := none) (by decide +kernel) rfl (Nat.le_of_ble_eq_true rfl) ?_
  intro p e s m below meth c ls S hr hlocks hnm hw hX hl
  have S : CallFix p m c cX1_endBallot 4 s [.ref (ad (7 + b)), .int x0].toArray wsX1_endBallot RX1 := S
  have hx := S.1
  have hb := S.2.1
  have hts := S.2.2.2.2
  have hl : lv_has ls 4 [(0, .ref (ad (7 + b))), (1, .int x0)] := hl
  refine lv_aload_n hx hb dX1_endBallot_0 rfl (lv_at hl 0 rfl) ?_
  refine xc_Mi hw (va_runV (As := []) (rest := []) S (c_X1_countVotes l D cy ad n σ b hb4 _) (cwV 0 S.2.2.2.2 gX1_endBallot_X1_countVotes rfl rfl rfl (by decide +kernel) ⟨Nat.le_of_ble_eq_true rfl, Nat.le_of_ble_eq_true rfl⟩) (xc_preV (cX_ok _ _) hX hw (k_br n hb4) (cE_br _ _ _ _ hb4) rfl rfl) rfl rfl hl.1 rfl (lv_room (Nat.le_of_ble_eq_true rfl)) dX1_endBallot_1 ⟨Nat.le_of_ble_eq_true rfl, Nat.le_of_ble_eq_true rfl⟩) (fun r9 u H locs hp hw => ?_)
  obtain ⟨hu9, rfl⟩ := hp
  rw [hu9] at hw
  clear hu9
  refine lv_istore_n (lv' := [(2, .int (bcF (σ 12 b 0))), (0, .ref (ad (7 + b))), (1, .int x0)]) hx hb dX1_endBallot_4 rfl hl (by decide) rfl (fun ls hl => ?_)
  refine lv_aload_n hx hb dX1_endBallot_5 rfl (lv_at hl 1 rfl) ?_
  refine xr_get S hw (j := 3) (k_br n hb4) (cE_br _ _ _ _ hb4) rfl inX1_endBallot_X1 (by decide) (hts (.fieldLink RX1 23 "UnionOffice$Branch" "yesVoters" "I") (by decide +kernel)) rfl dX1_endBallot_6 ?_
  refine xc_Mi hw (va_runS (As := [.int (σ 11 b 0)]) (rest := []) S (c_J6_bitCount_0f7a4 l D cy ad n σ (σ 11 b 0) _) (va_cwS 1 S.2.2.2.2 gX1_endBallot_J6_bitCount_0f7a4 rfl rfl rfl (by decide +kernel) ⟨Nat.le_of_ble_eq_true rfl, Nat.le_of_ble_eq_true rfl⟩) (xc_preS (cX_ok _ _) hX hw _) rfl rfl hl.1 rfl (lv_room (Nat.le_of_ble_eq_true rfl)) dX1_endBallot_9 ⟨Nat.le_of_ble_eq_true rfl, Nat.le_of_ble_eq_true rfl⟩) (fun r9 u H locs hp hw => ?_)
  obtain ⟨hu9, rfl⟩ := hp
  rw [hu9] at hw
  clear hu9
  refine lv_istore_n (lv' := [(3, .int (bcF (σ 11 b 0))), (2, .int (bcF (σ 12 b 0))), (0, .ref (ad (7 + b))), (1, .int x0)]) hx hb dX1_endBallot_12 rfl hl (by decide) rfl (fun ls hl => ?_)
  refine lv_aload_n hx hb dX1_endBallot_13 rfl (lv_at hl 2 rfl) ?_
  refine lv_iconst (v := 0) hx hb dX1_endBallot_14 (by decide) ?_
  obtain ⟨σ1, hσ1⟩ : ∃ y : S3, y = su σ 10 b 0 0 := ⟨_, rfl⟩
  refine xr_put S hw tyX1 tyX1_ok nmX1 (j := 1) (k_br n hb4) (cE_br _ _ _ _ hb4) rfl inX1_endBallot_X1 (by decide) (hts (.fieldLink RX1 15 "UnionOffice$Branch" "hasBallot" "Z") (by decide +kernel)) rfl (tyX1_ok 1 (by decide)) (nar_z (Or.inl rfl)) (fit_z (Or.inl rfl)) (Nat.le_of_ble_eq_true rfl) dX1_endBallot_15 (cE cy ad n σ1) (by rw [hσ1]; exact up_ballot _ _ _ _ hb4 _) (fun H locs hw => ?_)
  refine lv_aload_n hx hb dX1_endBallot_18 rfl (lv_at hl 2 rfl) ?_
  refine lv_iload_n hx hb dX1_endBallot_19 rfl (lv_at hl 0 rfl) ?_
  refine lv_iload_n hx hb dX1_endBallot_20 rfl (lv_at hl 1 rfl) ?_
  refine lv_iload_n hx hb dX1_endBallot_21 rfl (lv_at hl 0 rfl) ?_
  refine lv_isub hx hb dX1_endBallot_22 ?_
  refine lv_icmp_le (tgt := 37) hx hb dX1_endBallot_23 (by decide) (fun c1 => ?_) (fun c1 => ?_)
  · refine lv_iconst (v := 0) hx hb dX1_endBallot_37 (by decide) ?_
    obtain ⟨σ2, hσ2⟩ : ∃ y : S3, y = su σ1 13 b 0 0 := ⟨_, rfl⟩
    refine xr_put S hw tyX1 tyX1_ok nmX1 (j := 4) (k_br n hb4) (cE_br _ _ _ _ hb4) rfl inX1_endBallot_X1 (by decide) (hts (.fieldLink RX1 26 "UnionOffice$Branch" "mayStrike" "Z") (by decide +kernel)) rfl (tyX1_ok 4 (by decide)) (nar_z (Or.inl rfl)) (fit_z (Or.inl rfl)) (Nat.le_of_ble_eq_true rfl) dX1_endBallot_38 (cE cy ad n σ2) (by rw [hσ2]; exact up_may _ _ _ _ hb4 _) (fun H locs hw => ?_)
    exact xe_v S.1 S.2.1 hr hlocks hw (by
          rw [hσ2, hσ1]; unfold ebF; rw [show wonI σ b x0 = _ from if_pos c1]) (Nat.le_of_ble_eq_true rfl) (Nat.le_of_ble_eq_true rfl) dX1_endBallot_41
  · refine lv_iconst (v := 2) hx hb dX1_endBallot_26 (by decide) ?_
    refine lv_iload_n hx hb dX1_endBallot_27 rfl (lv_at hl 1 rfl) ?_
    refine lv_imul hx hb dX1_endBallot_28 ?_
    refine lv_iload_n hx hb dX1_endBallot_29 rfl (lv_at hl 3 rfl) ?_
    refine lv_icmp_lt (tgt := 37) hx hb dX1_endBallot_30 (by decide) (fun c2 => ?_) (fun c2 => ?_)
    · refine lv_iconst (v := 0) hx hb dX1_endBallot_37 (by decide) ?_
      obtain ⟨σ3, hσ3⟩ : ∃ y : S3, y = su σ1 13 b 0 0 := ⟨_, rfl⟩
      refine xr_put S hw tyX1 tyX1_ok nmX1 (j := 4) (k_br n hb4) (cE_br _ _ _ _ hb4) rfl inX1_endBallot_X1 (by decide) (hts (.fieldLink RX1 26 "UnionOffice$Branch" "mayStrike" "Z") (by decide +kernel)) rfl (tyX1_ok 4 (by decide)) (nar_z (Or.inl rfl)) (fit_z (Or.inl rfl)) (Nat.le_of_ble_eq_true rfl) dX1_endBallot_38 (cE cy ad n σ3) (by rw [hσ3]; exact up_may _ _ _ _ hb4 _) (fun H locs hw => ?_)
      exact xe_v S.1 S.2.1 hr hlocks hw (by
            rw [hσ3, hσ1]; unfold ebF; rw [show wonI σ b x0 = _ from (if_neg c1).trans (if_pos c2)]) (Nat.le_of_ble_eq_true rfl) (Nat.le_of_ble_eq_true rfl) dX1_endBallot_41
    · refine lv_iconst (v := 1) hx hb dX1_endBallot_33 (by decide) ?_
      refine lv_goto (tgt := 38) hx hb dX1_endBallot_34 (by decide) ?_
      obtain ⟨σ4, hσ4⟩ : ∃ y : S3, y = su σ1 13 b 0 1 := ⟨_, rfl⟩
      refine xr_put S hw tyX1 tyX1_ok nmX1 (j := 4) (k_br n hb4) (cE_br _ _ _ _ hb4) rfl inX1_endBallot_X1 (by decide) (hts (.fieldLink RX1 26 "UnionOffice$Branch" "mayStrike" "Z") (by decide +kernel)) rfl (tyX1_ok 4 (by decide)) (nar_z (Or.inr rfl)) (fit_z (Or.inr rfl)) (Nat.le_of_ble_eq_true rfl) dX1_endBallot_38 (cE cy ad n σ4) (by rw [hσ4]; exact up_may _ _ _ _ hb4 _) (fun H locs hw => ?_)
      exact xe_v S.1 S.2.1 hr hlocks hw (by
            rw [hσ4, hσ1]; unfold ebF; rw [show wonI σ b x0 = _ from (if_neg c1).trans (if_neg c2)]) (Nat.le_of_ble_eq_true rfl) (Nat.le_of_ble_eq_true rfl) dX1_endBallot_41
abbrev rmX1_canBeCalledOut : Room := { frames := 0, cells := 0, slots := 0, locals := 0 }
def coI (σ : S3) (b : Nat) : Int32 := if σ 13 b 0 = 0 then 0 else if ¬ σ 14 b 0 = 0 then 0 else if ¬ σ 10 b 0 = 0 then 0 else 1
theorem inX1_canBeCalledOut_X1 : (∀ w ∈ wsX10, w ∈ wsX1_canBeCalledOut) := by decide +kernel
set_option maxHeartbeats 1000000 in
set_option maxRecDepth 100000 in
/-- canBeCalledOut() -/
theorem c_X1_canBeCalledOut (l : Launch) (D : va_G) (cy : Nat → ClassId) (ad : Nat → Nat) (n : Nat) (σ : S3) (b : Nat) (hb4 : b < 4) : CM l yX1_canBeCalledOut wsX1_canBeCalledOut rmX1_canBeCalledOut D cy ad n [.ref (ad (7 + b))] σ (xPi fun r u => u = σ ∧ r = coI σ b) := by
  refine xs_M (cc := cX1_canBeCalledOut) (maxL := 1) (ret := (some .boolean)) (by decide +kernel) rfl (Nat.le_of_ble_eq_true rfl) ?_
  intro p e s m below meth c ls S hr hlocks hnm hw hX hl
  have S : CallFix p m c cX1_canBeCalledOut 1 s [.ref (ad (7 + b))].toArray wsX1_canBeCalledOut RX1 := S
  have hx := S.1
  have hb := S.2.1
  have hts := S.2.2.2.2
  have hl : lv_has ls 1 [(0, .ref (ad (7 + b)))] := hl
  refine lv_aload_n hx hb dX1_canBeCalledOut_0 rfl (lv_at hl 0 rfl) ?_
  refine xr_get S hw (j := 4) (k_br n hb4) (cE_br _ _ _ _ hb4) rfl inX1_canBeCalledOut_X1 (by decide) (hts (.fieldLink RX1 26 "UnionOffice$Branch" "mayStrike" "Z") (by decide +kernel)) rfl dX1_canBeCalledOut_1 ?_
  refine lv_if_eq (tgt := 25) hx hb dX1_canBeCalledOut_4 (by decide) (fun c1 => ?_) (fun c1 => ?_)
  · refine lv_iconst (v := 0) hx hb dX1_canBeCalledOut_25 (by decide) ?_
    exact xe_z S.1 S.2.1 hr (Or.inl rfl) hlocks hw (⟨rfl, by simp [coI, c1]⟩) (Nat.le_of_ble_eq_true rfl) (Nat.le_of_ble_eq_true rfl) dX1_canBeCalledOut_26
  · refine lv_aload_n hx hb dX1_canBeCalledOut_7 rfl (lv_at hl 0 rfl) ?_
    refine xr_get S hw (j := 5) (k_br n hb4) (cE_br _ _ _ _ hb4) rfl inX1_canBeCalledOut_X1 (by decide) (hts (.fieldLink RX1 29 "UnionOffice$Branch" "isOnStrike" "Z") (by decide +kernel)) rfl dX1_canBeCalledOut_8 ?_
    refine lv_if_ne (tgt := 25) hx hb dX1_canBeCalledOut_11 (by decide) (fun c2 => ?_) (fun c2 => ?_)
    · refine lv_iconst (v := 0) hx hb dX1_canBeCalledOut_25 (by decide) ?_
      exact xe_z S.1 S.2.1 hr (Or.inl rfl) hlocks hw (⟨rfl, by simp [coI, c1, c2]⟩) (Nat.le_of_ble_eq_true rfl) (Nat.le_of_ble_eq_true rfl) dX1_canBeCalledOut_26
    · refine lv_aload_n hx hb dX1_canBeCalledOut_14 rfl (lv_at hl 0 rfl) ?_
      refine xr_get S hw (j := 1) (k_br n hb4) (cE_br _ _ _ _ hb4) rfl inX1_canBeCalledOut_X1 (by decide) (hts (.fieldLink RX1 15 "UnionOffice$Branch" "hasBallot" "Z") (by decide +kernel)) rfl dX1_canBeCalledOut_15 ?_
      refine lv_if_ne (tgt := 25) hx hb dX1_canBeCalledOut_18 (by decide) (fun c3 => ?_) (fun c3 => ?_)
      · refine lv_iconst (v := 0) hx hb dX1_canBeCalledOut_25 (by decide) ?_
        exact xe_z S.1 S.2.1 hr (Or.inl rfl) hlocks hw (⟨rfl, by simp [coI, c1, c2, c3]⟩) (Nat.le_of_ble_eq_true rfl) (Nat.le_of_ble_eq_true rfl) dX1_canBeCalledOut_26
      · refine lv_iconst (v := 1) hx hb dX1_canBeCalledOut_21 (by decide) ?_
        refine lv_goto (tgt := 26) hx hb dX1_canBeCalledOut_22 (by decide) ?_
        exact xe_z S.1 S.2.1 hr (Or.inr rfl) hlocks hw (⟨rfl, by simp [coI, c1, c2, c3]⟩) (Nat.le_of_ble_eq_true rfl) (Nat.le_of_ble_eq_true rfl) dX1_canBeCalledOut_26
end
section
/-! ===== UnionOffice: what the calls look up and test, the end of a day ===== -/
theorem vr_band {ad : Nat → Nat} {j : Nat} (h : j < 3) : va_rf (if j < 3 then some (ad (4 + j)) else none) = .ref (ad (4 + j)) := by rw [if_pos h]; rfl
theorem vr_br {ad : Nat → Nat} {j : Nat} (h : j < 4) : va_rf (if j < 4 then some (ad (7 + j)) else none) = .ref (ad (7 + j)) := by rw [if_pos h]; rfl
theorem vr_m {ad : Nat → Nat} {j n : Nat} (h : j < n) : va_rf (if j < n then some (ad (15 + 3 * j)) else none) = .ref (ad (15 + 3 * j)) := by rw [if_pos h]; rfl
theorem vr_mN {ad : Nat → Nat} {j n : Nat} (h : ¬ j < n) : va_rf (if j < n then some (ad (15 + 3 * j)) else none) = .null := by rw [if_neg h]; rfl
theorem in_of {x y : Int32} {k : Nat} (hk : k < 2 ^ 31) (hy : y = nI k) (h0 : ¬ x < 0) (h : x < y) : inI x k := by
  refine ⟨h0, ?_⟩
  obtain ⟨j, hj, rfl⟩ := nI_of h0
  subst hy
  rw [nI_clamp hj]
  exact (nI_ltI hj hk).mp h
theorem in_lt {x y : Int32} {k : Nat} (hk : k < 2 ^ 31) (hy : y = nI k) (h : inI x k) : x < y := by
  obtain ⟨h0, h1⟩ := h
  obtain ⟨j, hj, rfl⟩ := nI_of h0
  subst hy
  rw [nI_clamp hj] at h1
  exact (nI_ltI hj hk).mpr h1
theorem in_le {x : Int32} {j k : Nat} (h : inI x j) (hjk : j ≤ k) : inI x k := ⟨h.1, Nat.lt_of_lt_of_le h.2 hjk⟩
abbrev rgI (v a b : Int32) : Prop := ¬ v < a ∧ v ≤ b
abbrev endP (σ : S3) (x : Int32) : Prop := ¬ x < 0 ∧ ¬ 60 ≤ x ∧ ¬ σ 18 0 0 / 30 ≤ x
def heI (σ : S3) (x : Int32) : Int32 := if endP σ x then 1 else 0
theorem heI_1 {σ : S3} {x : Int32} : ¬ heI σ x = 0 ↔ endP σ x := by
  unfold heI
  by_cases h : endP σ x
  · rw [if_pos h]; exact ⟨fun _ => h, fun _ => by decide⟩
  · rw [if_neg h]; exact ⟨fun z => absurd rfl z, fun z => absurd z h⟩
theorem heI_0 {σ : S3} {x : Int32} : heI σ x = 0 ↔ ¬ endP σ x := by
  rw [← heI_1, Decidable.not_not]
theorem endP.in60 {σ : S3} {x : Int32} (h : endP σ x) : inI x 60 := in_of (by decide) rfl h.1 (Int32.not_le.mp h.2.1)
theorem endP.vp {σ : S3} {x : Int32} (h : endP σ x) : vp_in x 60 := vp_of_in h.in60
abbrev rmX3_bandAt : Room := { frames := 6, cells := 1, slots := 6, locals := 84 }
theorem inX3_bandAt_X3 : (∀ w ∈ wsX30, w ∈ wsX3_bandAt) := by decide +kernel
theorem inX3_bandAt_xIO : (∀ w ∈ (vx_atS RX3 190 xIO nm2).filter goodWord, w ∈ wsX3_bandAt) := by
  intro w h
  first | exact List.mem_cons_of_mem _ (List.mem_append_right _ h) | exact List.mem_cons_of_mem _ (List.mem_append_left _ (List.mem_append_right _ h)) | exact List.mem_cons_of_mem _ (List.mem_append_left _ (List.mem_append_left _ (List.mem_append_right _ h)))
theorem inX3_bandAt_xIO1 : Cond.classLink RX3 186 xIO ∈ wsX3_bandAt ∧ Cond.initialized xIO ∈ wsX3_bandAt := ⟨by decide +kernel, by decide +kernel⟩
set_option maxHeartbeats 1000000 in
set_option maxRecDepth 100000 in
/-- bandAt -/
theorem c_X3_bandAt (l : Launch) (hl9 : l.stackTraces = false) (D : va_G) (cy : Nat → ClassId) (ad : Nat → Nat) (n : Nat) (σ : S3) (x0 : Int32) : CT l yX3_bandAt wsX3_bandAt rmX3_bandAt D cy ad n [.ref (ad 0), .int x0] σ (xPr fun r u => u = σ ∧ inI x0 3 ∧ r = ad (4 + x0.toNatClampNeg)) (fun E9 => E9 = xIO ∧ ¬ inI x0 3) := by
  refine xs_T (cc := cX3_bandAt) (maxL := 2) (ret := (some (.object "UnionOffice$Band"))) (by decide +kernel) rfl (Nat.le_of_ble_eq_true rfl) ?_
  intro p e s m below meth c ls S hr hlocks htb hw hX hl
  have S : CallFix p m c cX3_bandAt 2 s [.ref (ad 0), .int x0].toArray wsX3_bandAt RX3 := S
  have hx := S.1
  have hb := S.2.1
  have hts := S.2.2.2.2
  have htr := hl9
  have hl : lv_has ls 2 [(0, .ref (ad 0)), (1, .int x0)] := hl
  refine lv_iload_n hx hb dX3_bandAt_0 rfl (lv_at hl 1 rfl) ?_
  refine lv_if_lt (tgt := 13) hx hb dX3_bandAt_1 (by decide) (fun c1 => ?_) (fun c1 => ?_)
  · exact xt_throw (text := "no such band") S htr hlocks htb hw hX hl.1 (by decide +kernel) inX3_bandAt_xIO1.1 inX3_bandAt_xIO1.2 inX3_bandAt_xIO tg_IO (by decide +kernel) dX3_bandAt_13 dX3_bandAt_16 dX3_bandAt_17 dX3_bandAt_19 dX3_bandAt_22 (Nat.le_of_ble_eq_true rfl) (Nat.le_of_ble_eq_true rfl) (Nat.le_of_ble_eq_true rfl) (Nat.le_of_ble_eq_true rfl) (⟨rfl, fun h => h.1 c1⟩)
  · refine lv_iload_n hx hb dX3_bandAt_4 rfl (lv_at hl 1 rfl) ?_
    refine lv_aload_n hx hb dX3_bandAt_5 rfl (lv_at hl 0 rfl) ?_
    refine xr_get S hw (j := 0) (k_0 n) (cE_0 _ _ _ _) rfl inX3_bandAt_X3 (by decide) (hts (.fieldLink RX3 14 "UnionOffice" "bands" "[LUnionOffice$Band;") (by decide +kernel)) rfl dX3_bandAt_6 ?_
    refine xr_alen S hw (t0 := 2) (k_1 n) (cE_1 _ _ _ _) rfl (v := 3) rfl dX3_bandAt_9 ?_
    refine lv_icmp_lt (tgt := 23) hx hb dX3_bandAt_10 (by decide) (fun c2 => ?_) (fun c2 => ?_)
    · have h9 : inI x0 3 := in_of (by decide) rfl c1 c2
      refine lv_aload_n hx hb dX3_bandAt_23 rfl (lv_at hl 0 rfl) ?_
      refine xr_get S hw (j := 0) (k_0 n) (cE_0 _ _ _ _) rfl inX3_bandAt_X3 (by decide) (hts (.fieldLink RX3 14 "UnionOffice" "bands" "[LUnionOffice$Band;") (by decide +kernel)) rfl dX3_bandAt_24 ?_
      refine lv_iload_n hx hb dX3_bandAt_27 rfl (lv_at hl 1 rfl) ?_
      refine xp_aald S hw (t0 := 2) (k_1 n) (cE_1 _ _ _ _) rfl (vp_of_in h9) (vr_band h9.2) dX3_bandAt_28 ?_
      exact vx_ret (xe_r S.1 S.2.1 hr hlocks hw (⟨rfl, h9, rfl⟩) (Nat.le_of_ble_eq_true rfl) (Nat.le_of_ble_eq_true rfl) dX3_bandAt_29)
    · exact xt_throw (text := "no such band") S htr hlocks htb hw hX hl.1 (by decide +kernel) inX3_bandAt_xIO1.1 inX3_bandAt_xIO1.2 inX3_bandAt_xIO tg_IO (by decide +kernel) dX3_bandAt_13 dX3_bandAt_16 dX3_bandAt_17 dX3_bandAt_19 dX3_bandAt_22 (Nat.le_of_ble_eq_true rfl) (Nat.le_of_ble_eq_true rfl) (Nat.le_of_ble_eq_true rfl) (Nat.le_of_ble_eq_true rfl) (⟨rfl, fun h => c2 (in_lt (by decide) rfl h)⟩)
abbrev rmX3_branchAt : Room := { frames := 6, cells := 1, slots := 6, locals := 84 }
theorem inX3_branchAt_X3 : (∀ w ∈ wsX30, w ∈ wsX3_branchAt) := by decide +kernel
theorem inX3_branchAt_xIO : (∀ w ∈ (vx_atS RX3 190 xIO nm2).filter goodWord, w ∈ wsX3_branchAt) := by
  intro w h
  first | exact List.mem_cons_of_mem _ (List.mem_append_right _ h) | exact List.mem_cons_of_mem _ (List.mem_append_left _ (List.mem_append_right _ h)) | exact List.mem_cons_of_mem _ (List.mem_append_left _ (List.mem_append_left _ (List.mem_append_right _ h)))
theorem inX3_branchAt_xIO1 : Cond.classLink RX3 186 xIO ∈ wsX3_branchAt ∧ Cond.initialized xIO ∈ wsX3_branchAt := ⟨by decide +kernel, by decide +kernel⟩
set_option maxHeartbeats 1000000 in
set_option maxRecDepth 100000 in
/-- branchAt -/
theorem c_X3_branchAt (l : Launch) (hl9 : l.stackTraces = false) (D : va_G) (cy : Nat → ClassId) (ad : Nat → Nat) (n : Nat) (σ : S3) (x0 : Int32) : CT l yX3_branchAt wsX3_branchAt rmX3_branchAt D cy ad n [.ref (ad 0), .int x0] σ (xPr fun r u => u = σ ∧ inI x0 4 ∧ r = ad (7 + x0.toNatClampNeg)) (fun E9 => E9 = xIO ∧ ¬ inI x0 4) := by
  refine xs_T (cc := cX3_branchAt) (maxL := 2) (ret := (some (.object "UnionOffice$Branch"))) (by decide +kernel) rfl (Nat.le_of_ble_eq_true rfl) ?_
  intro p e s m below meth c ls S hr hlocks htb hw hX hl
  have S : CallFix p m c cX3_branchAt 2 s [.ref (ad 0), .int x0].toArray wsX3_branchAt RX3 := S
  have hx := S.1
  have hb := S.2.1
  have hts := S.2.2.2.2
  have htr := hl9
  have hl : lv_has ls 2 [(0, .ref (ad 0)), (1, .int x0)] := hl
  refine lv_iload_n hx hb dX3_branchAt_0 rfl (lv_at hl 1 rfl) ?_
  refine lv_if_lt (tgt := 13) hx hb dX3_branchAt_1 (by decide) (fun c1 => ?_) (fun c1 => ?_)
  · exact xt_throw (text := "no such branch") S htr hlocks htb hw hX hl.1 (by decide +kernel) inX3_branchAt_xIO1.1 inX3_branchAt_xIO1.2 inX3_branchAt_xIO tg_IO (by decide +kernel) dX3_branchAt_13 dX3_branchAt_16 dX3_branchAt_17 dX3_branchAt_19 dX3_branchAt_22 (Nat.le_of_ble_eq_true rfl) (Nat.le_of_ble_eq_true rfl) (Nat.le_of_ble_eq_true rfl) (Nat.le_of_ble_eq_true rfl) (⟨rfl, fun h => h.1 c1⟩)
  · refine lv_iload_n hx hb dX3_branchAt_4 rfl (lv_at hl 1 rfl) ?_
    refine lv_aload_n hx hb dX3_branchAt_5 rfl (lv_at hl 0 rfl) ?_
    refine xr_get S hw (j := 1) (k_0 n) (cE_0 _ _ _ _) rfl inX3_branchAt_X3 (by decide) (hts (.fieldLink RX3 21 "UnionOffice" "branches" "[LUnionOffice$Branch;") (by decide +kernel)) rfl dX3_branchAt_6 ?_
    refine xr_alen S hw (t0 := 3) (k_2 n) (cE_2 _ _ _ _) rfl (v := 4) rfl dX3_branchAt_9 ?_
    refine lv_icmp_lt (tgt := 23) hx hb dX3_branchAt_10 (by decide) (fun c2 => ?_) (fun c2 => ?_)
    · have h9 : inI x0 4 := in_of (by decide) rfl c1 c2
      refine lv_aload_n hx hb dX3_branchAt_23 rfl (lv_at hl 0 rfl) ?_
      refine xr_get S hw (j := 1) (k_0 n) (cE_0 _ _ _ _) rfl inX3_branchAt_X3 (by decide) (hts (.fieldLink RX3 21 "UnionOffice" "branches" "[LUnionOffice$Branch;") (by decide +kernel)) rfl dX3_branchAt_24 ?_
      refine lv_iload_n hx hb dX3_branchAt_27 rfl (lv_at hl 1 rfl) ?_
      refine xp_aald S hw (t0 := 3) (k_2 n) (cE_2 _ _ _ _) rfl (vp_of_in h9) (vr_br h9.2) dX3_branchAt_28 ?_
      exact vx_ret (xe_r S.1 S.2.1 hr hlocks hw (⟨rfl, h9, rfl⟩) (Nat.le_of_ble_eq_true rfl) (Nat.le_of_ble_eq_true rfl) dX3_branchAt_29)
    · exact xt_throw (text := "no such branch") S htr hlocks htb hw hX hl.1 (by decide +kernel) inX3_branchAt_xIO1.1 inX3_branchAt_xIO1.2 inX3_branchAt_xIO tg_IO (by decide +kernel) dX3_branchAt_13 dX3_branchAt_16 dX3_branchAt_17 dX3_branchAt_19 dX3_branchAt_22 (Nat.le_of_ble_eq_true rfl) (Nat.le_of_ble_eq_true rfl) (Nat.le_of_ble_eq_true rfl) (Nat.le_of_ble_eq_true rfl) (⟨rfl, fun h => c2 (in_lt (by decide) rfl h)⟩)
abbrev rmX3_memberAt : Room := { frames := 6, cells := 1, slots := 6, locals := 84 }
theorem inX3_memberAt_X3 : (∀ w ∈ wsX30, w ∈ wsX3_memberAt) := by decide +kernel
theorem inX3_memberAt_xIO : (∀ w ∈ (vx_atS RX3 190 xIO nm2).filter goodWord, w ∈ wsX3_memberAt) := by
  intro w h
  first | exact List.mem_cons_of_mem _ (List.mem_append_right _ h) | exact List.mem_cons_of_mem _ (List.mem_append_left _ (List.mem_append_right _ h)) | exact List.mem_cons_of_mem _ (List.mem_append_left _ (List.mem_append_left _ (List.mem_append_right _ h)))
theorem inX3_memberAt_xIO1 : Cond.classLink RX3 186 xIO ∈ wsX3_memberAt ∧ Cond.initialized xIO ∈ wsX3_memberAt := ⟨by decide +kernel, by decide +kernel⟩
set_option maxHeartbeats 1000000 in
set_option maxRecDepth 100000 in
/-- memberAt -/
theorem c_X3_memberAt (l : Launch) (hl9 : l.stackTraces = false) (D : va_G) (cy : Nat → ClassId) (ad : Nat → Nat) (n : Nat) (σ : S3) (hn : n ≤ 16) (x0 : Int32) : CT l yX3_memberAt wsX3_memberAt rmX3_memberAt D cy ad n [.ref (ad 0), .int x0] σ (xPr fun r u => u = σ ∧ inI x0 n ∧ r = ad (15 + 3 * x0.toNatClampNeg)) (fun E9 => E9 = xIO ∧ ¬ inI x0 n) := by
  refine xs_T (cc := cX3_memberAt) (maxL := 2) (ret := (some (.object "UnionOffice$Member"))) (by decide +kernel) rfl (Nat.le_of_ble_eq_true rfl) ?_
  intro p e s m below meth c ls S hr hlocks htb hw hX hl
  have S : CallFix p m c cX3_memberAt 2 s [.ref (ad 0), .int x0].toArray wsX3_memberAt RX3 := S
  have hx := S.1
  have hb := S.2.1
  have hts := S.2.2.2.2
  have htr := hl9
  have hl : lv_has ls 2 [(0, .ref (ad 0)), (1, .int x0)] := hl
  refine lv_iload_n hx hb dX3_memberAt_0 rfl (lv_at hl 1 rfl) ?_
  refine lv_if_lt (tgt := 22) hx hb dX3_memberAt_1 (by decide) (fun c1 => ?_) (fun c1 => ?_)
  · exact xt_throw (text := "no such member") S htr hlocks htb hw hX hl.1 (by decide +kernel) inX3_memberAt_xIO1.1 inX3_memberAt_xIO1.2 inX3_memberAt_xIO tg_IO (by decide +kernel) dX3_memberAt_22 dX3_memberAt_25 dX3_memberAt_26 dX3_memberAt_28 dX3_memberAt_31 (Nat.le_of_ble_eq_true rfl) (Nat.le_of_ble_eq_true rfl) (Nat.le_of_ble_eq_true rfl) (Nat.le_of_ble_eq_true rfl) (⟨rfl, fun h => h.1 c1⟩)
  · refine lv_iload_n hx hb dX3_memberAt_4 rfl (lv_at hl 1 rfl) ?_
    refine lv_aload_n hx hb dX3_memberAt_5 rfl (lv_at hl 0 rfl) ?_
    refine xr_get S hw (j := 2) (k_0 n) (cE_0 _ _ _ _) rfl inX3_memberAt_X3 (by decide) (hts (.fieldLink RX3 27 "UnionOffice" "members" "[LUnionOffice$Member;") (by decide +kernel)) rfl dX3_memberAt_6 ?_
    refine xr_alen S hw (t0 := 4) (k_3 n) (cE_3 _ _ _ _) rfl (v := 16) rfl dX3_memberAt_9 ?_
    refine lv_icmp_ge (tgt := 22) hx hb dX3_memberAt_10 (by decide) (fun c2 => ?_) (fun c2 => ?_)
    · exact xt_throw (text := "no such member") S htr hlocks htb hw hX hl.1 (by decide +kernel) inX3_memberAt_xIO1.1 inX3_memberAt_xIO1.2 inX3_memberAt_xIO tg_IO (by decide +kernel) dX3_memberAt_22 dX3_memberAt_25 dX3_memberAt_26 dX3_memberAt_28 dX3_memberAt_31 (Nat.le_of_ble_eq_true rfl) (Nat.le_of_ble_eq_true rfl) (Nat.le_of_ble_eq_true rfl) (Nat.le_of_ble_eq_true rfl) (⟨rfl, fun h => (Int32.not_lt.mpr c2) (in_lt (by decide) rfl (in_le h hn))⟩)
    · have h9 : inI x0 16 := in_of (by decide) rfl c1 (Int32.not_le.mp c2)
      refine lv_aload_n hx hb dX3_memberAt_13 rfl (lv_at hl 0 rfl) ?_
      refine xr_get S hw (j := 2) (k_0 n) (cE_0 _ _ _ _) rfl inX3_memberAt_X3 (by decide) (hts (.fieldLink RX3 27 "UnionOffice" "members" "[LUnionOffice$Member;") (by decide +kernel)) rfl dX3_memberAt_14 ?_
      refine lv_iload_n hx hb dX3_memberAt_17 rfl (lv_at hl 1 rfl) ?_
      by_cases hjn : x0.toNatClampNeg < n
      · refine xp_aald S hw (t0 := 4) (k_3 n) (cE_3 _ _ _ _) rfl (vp_of_in h9) (vr_m hjn) dX3_memberAt_18 ?_
        refine lv_ifnonnull (tgt := 32) hx hb dX3_memberAt_19 (by decide) ?_
        refine lv_aload_n hx hb dX3_memberAt_32 rfl (lv_at hl 0 rfl) ?_
        refine xr_get S hw (j := 2) (k_0 n) (cE_0 _ _ _ _) rfl inX3_memberAt_X3 (by decide) (hts (.fieldLink RX3 27 "UnionOffice" "members" "[LUnionOffice$Member;") (by decide +kernel)) rfl dX3_memberAt_33 ?_
        refine lv_iload_n hx hb dX3_memberAt_36 rfl (lv_at hl 1 rfl) ?_
        refine xp_aald S hw (t0 := 4) (k_3 n) (cE_3 _ _ _ _) rfl (vp_of_in h9) (vr_m hjn) dX3_memberAt_37 ?_
        exact vx_ret (xe_r S.1 S.2.1 hr hlocks hw (⟨rfl, ⟨c1, hjn⟩, rfl⟩) (Nat.le_of_ble_eq_true rfl) (Nat.le_of_ble_eq_true rfl) dX3_memberAt_38)
      · refine xp_aald S hw (t0 := 4) (k_3 n) (cE_3 _ _ _ _) rfl (vp_of_in h9) (vr_mN hjn) dX3_memberAt_18 ?_
        refine lv_ifnonnullN hx hb dX3_memberAt_19 ?_
        exact xt_throw (text := "no such member") S htr hlocks htb hw hX hl.1 (by decide +kernel) inX3_memberAt_xIO1.1 inX3_memberAt_xIO1.2 inX3_memberAt_xIO tg_IO (by decide +kernel) dX3_memberAt_22 dX3_memberAt_25 dX3_memberAt_26 dX3_memberAt_28 dX3_memberAt_31 (Nat.le_of_ble_eq_true rfl) (Nat.le_of_ble_eq_true rfl) (Nat.le_of_ble_eq_true rfl) (Nat.le_of_ble_eq_true rfl) (⟨rfl, fun h => hjn h.2⟩)
abbrev rmX3_checkNotLeft : Room := { frames := 6, cells := 1, slots := 6, locals := 84 }
theorem inX3_checkNotLeft_X2 : (∀ w ∈ wsX20, w ∈ wsX3_checkNotLeft) := by decide +kernel
theorem inX3_checkNotLeft_xIS : (∀ w ∈ (vx_atS RX3 67 xIS nm2).filter goodWord, w ∈ wsX3_checkNotLeft) := by
  intro w h
  first | exact List.mem_cons_of_mem _ (List.mem_append_right _ h) | exact List.mem_cons_of_mem _ (List.mem_append_left _ (List.mem_append_right _ h)) | exact List.mem_cons_of_mem _ (List.mem_append_left _ (List.mem_append_left _ (List.mem_append_right _ h)))
theorem inX3_checkNotLeft_xIS1 : Cond.classLink RX3 63 xIS ∈ wsX3_checkNotLeft ∧ Cond.initialized xIS ∈ wsX3_checkNotLeft := ⟨by decide +kernel, by decide +kernel⟩
set_option maxHeartbeats 1000000 in
set_option maxRecDepth 100000 in
/-- checkNotLeft -/
theorem c_X3_checkNotLeft (l : Launch) (hl9 : l.stackTraces = false) (D : va_G) (cy : Nat → ClassId) (ad : Nat → Nat) (n : Nat) (σ : S3) (i : Nat) (hi : i < n) : CT l yX3_checkNotLeft wsX3_checkNotLeft rmX3_checkNotLeft D cy ad n [.ref (ad 0), .ref (ad (15 + 3 * i))] σ (xPv fun u => u = σ ∧ σ 3 i 0 = 0) (fun E9 => E9 = xIS ∧ ¬ σ 3 i 0 = 0) := by
  refine xs_T (cc := cX3_checkNotLeft) (maxL := 2) (ret := none) (by decide +kernel) rfl (Nat.le_of_ble_eq_true rfl) ?_
  intro p e s m below meth c ls S hr hlocks htb hw hX hl
  have S : CallFix p m c cX3_checkNotLeft 2 s [.ref (ad 0), .ref (ad (15 + 3 * i))].toArray wsX3_checkNotLeft RX3 := S
  have hx := S.1
  have hb := S.2.1
  have hts := S.2.2.2.2
  have htr := hl9
  have hl : lv_has ls 2 [(0, .ref (ad 0)), (1, .ref (ad (15 + 3 * i)))] := hl
  refine lv_aload_n hx hb dX3_checkNotLeft_0 rfl (lv_at hl 1 rfl) ?_
  refine xr_getN S hw (j := 6) (k_m hi) (cE_m _ _ _ _ _) rfl inX3_checkNotLeft_X2 (by decide) (hX.1.w (w := .fieldLinkNest RX3 93 "UnionOffice$Member" "hasLeft" "Z" "UnionOffice") (by decide +kernel)) rfl dX3_checkNotLeft_1 ?_
  refine lv_if_eq (tgt := 17) hx hb dX3_checkNotLeft_4 (by decide) (fun c1 => ?_) (fun c1 => ?_)
  · exact vx_ret (xe_v S.1 S.2.1 hr hlocks hw (⟨rfl, c1⟩) (Nat.le_of_ble_eq_true rfl) (Nat.le_of_ble_eq_true rfl) dX3_checkNotLeft_17)
  · exact xt_throw (text := "the member has left") S htr hlocks htb hw hX hl.1 (by decide +kernel) inX3_checkNotLeft_xIS1.1 inX3_checkNotLeft_xIS1.2 inX3_checkNotLeft_xIS tg_IS (by decide +kernel) dX3_checkNotLeft_7 dX3_checkNotLeft_10 dX3_checkNotLeft_11 dX3_checkNotLeft_13 dX3_checkNotLeft_16 (Nat.le_of_ble_eq_true rfl) (Nat.le_of_ble_eq_true rfl) (Nat.le_of_ble_eq_true rfl) (Nat.le_of_ble_eq_true rfl) (⟨rfl, c1⟩)
abbrev rmX3_checkRange : Room := { frames := 6, cells := 1, slots := 6, locals := 84 }
theorem inX3_checkRange_xIA : (∀ w ∈ (vx_atS RX3 163 xIA nm2).filter goodWord, w ∈ wsX3_checkRange) := by
  intro w h
  first | exact List.mem_cons_of_mem _ (List.mem_append_right _ h) | exact List.mem_cons_of_mem _ (List.mem_append_left _ (List.mem_append_right _ h)) | exact List.mem_cons_of_mem _ (List.mem_append_left _ (List.mem_append_left _ (List.mem_append_right _ h)))
theorem inX3_checkRange_xIA1 : Cond.classLink RX3 159 xIA ∈ wsX3_checkRange ∧ Cond.initialized xIA ∈ wsX3_checkRange := ⟨by decide +kernel, by decide +kernel⟩
set_option maxHeartbeats 1000000 in
set_option maxRecDepth 100000 in
/-- checkRange -/
theorem c_X3_checkRange (l : Launch) (hl9 : l.stackTraces = false) (D : va_G) (cy : Nat → ClassId) (ad : Nat → Nat) (n : Nat) (σ : S3) (x0 x1 x2 : Int32) : CT l yX3_checkRange wsX3_checkRange rmX3_checkRange D cy ad n [.ref (ad 0), .int x0, .int x1, .int x2] σ (xPv fun u => u = σ ∧ rgI x0 x1 x2) (fun E9 => E9 = xIA ∧ ¬ rgI x0 x1 x2) := by
  refine xs_T (cc := cX3_checkRange) (maxL := 4) (ret := none) (by decide +kernel) rfl (Nat.le_of_ble_eq_true rfl) ?_
  intro p e s m below meth c ls S hr hlocks htb hw hX hl
  have S : CallFix p m c cX3_checkRange 4 s [.ref (ad 0), .int x0, .int x1, .int x2].toArray wsX3_checkRange RX3 := S
  have hx := S.1
  have hb := S.2.1
  have hts := S.2.2.2.2
  have htr := hl9
  have hl : lv_has ls 4 [(0, .ref (ad 0)), (1, .int x0), (2, .int x1), (3, .int x2)] := hl
  refine lv_iload_n hx hb dX3_checkRange_0 rfl (lv_at hl 1 rfl) ?_
  refine lv_iload_n hx hb dX3_checkRange_1 rfl (lv_at hl 2 rfl) ?_
  refine lv_icmp_lt (tgt := 10) hx hb dX3_checkRange_2 (by decide) (fun c1 => ?_) (fun c1 => ?_)
  · exact xt_throw (text := "out of range") S htr hlocks htb hw hX hl.1 (by decide +kernel) inX3_checkRange_xIA1.1 inX3_checkRange_xIA1.2 inX3_checkRange_xIA tg_IA (by decide +kernel) dX3_checkRange_10 dX3_checkRange_13 dX3_checkRange_14 dX3_checkRange_16 dX3_checkRange_19 (Nat.le_of_ble_eq_true rfl) (Nat.le_of_ble_eq_true rfl) (Nat.le_of_ble_eq_true rfl) (Nat.le_of_ble_eq_true rfl) (⟨rfl, fun h => h.1 c1⟩)
  · refine lv_iload_n hx hb dX3_checkRange_5 rfl (lv_at hl 1 rfl) ?_
    refine lv_iload_n hx hb dX3_checkRange_6 rfl (lv_at hl 3 rfl) ?_
    refine lv_icmp_le (tgt := 20) hx hb dX3_checkRange_7 (by decide) (fun c2 => ?_) (fun c2 => ?_)
    · exact vx_ret (xe_v S.1 S.2.1 hr hlocks hw (⟨rfl, c1, c2⟩) (Nat.le_of_ble_eq_true rfl) (Nat.le_of_ble_eq_true rfl) dX3_checkRange_20)
    · exact xt_throw (text := "out of range") S htr hlocks htb hw hX hl.1 (by decide +kernel) inX3_checkRange_xIA1.1 inX3_checkRange_xIA1.2 inX3_checkRange_xIA tg_IA (by decide +kernel) dX3_checkRange_10 dX3_checkRange_13 dX3_checkRange_14 dX3_checkRange_16 dX3_checkRange_19 (Nat.le_of_ble_eq_true rfl) (Nat.le_of_ble_eq_true rfl) (Nat.le_of_ble_eq_true rfl) (Nat.le_of_ble_eq_true rfl) (⟨rfl, fun h => c2 h.2⟩)
abbrev rmX3_hasEnded : Room := { frames := 0, cells := 0, slots := 0, locals := 0 }
theorem inX3_hasEnded_X3 : (∀ w ∈ wsX30, w ∈ wsX3_hasEnded) := by decide +kernel
set_option maxHeartbeats 1000000 in
set_option maxRecDepth 100000 in
/-- hasEnded -/
theorem c_X3_hasEnded (l : Launch) (D : va_G) (cy : Nat → ClassId) (ad : Nat → Nat) (n : Nat) (σ : S3) (x0 : Int32) : CM l yX3_hasEnded wsX3_hasEnded rmX3_hasEnded D cy ad n [.ref (ad 0), .int x0] σ (xPi fun r u => u = σ ∧ r = heI σ x0) := by
  refine xs_M (cc := cX3_hasEnded) (maxL := 2) (ret := (some .boolean)) (by decide +kernel) rfl (Nat.le_of_ble_eq_true rfl) ?_
  intro p e s m below meth c ls S hr hlocks hnm hw hX hl
  have S : CallFix p m c cX3_hasEnded 2 s [.ref (ad 0), .int x0].toArray wsX3_hasEnded RX3 := S
  have hx := S.1
  have hb := S.2.1
  have hts := S.2.2.2.2
  have hl : lv_has ls 2 [(0, .ref (ad 0)), (1, .int x0)] := hl
  refine lv_iload_n hx hb dX3_hasEnded_0 rfl (lv_at hl 1 rfl) ?_
  refine lv_if_lt (tgt := 25) hx hb dX3_hasEnded_1 (by decide) (fun c1 => ?_) (fun c1 => ?_)
  · refine lv_iconst (v := 0) hx hb dX3_hasEnded_25 (by decide) ?_
    exact xe_z S.1 S.2.1 hr (Or.inl rfl) hlocks hw (⟨rfl, by simp [heI, endP, c1]⟩) (Nat.le_of_ble_eq_true rfl) (Nat.le_of_ble_eq_true rfl) dX3_hasEnded_26
  · refine lv_iload_n hx hb dX3_hasEnded_4 rfl (lv_at hl 1 rfl) ?_
    refine lv_bipush (v := 60) hx hb dX3_hasEnded_5 (by decide) ?_
    refine lv_icmp_ge (tgt := 25) hx hb dX3_hasEnded_7 (by decide) (fun c2 => ?_) (fun c2 => ?_)
    · refine lv_iconst (v := 0) hx hb dX3_hasEnded_25 (by decide) ?_
      exact xe_z S.1 S.2.1 hr (Or.inl rfl) hlocks hw (⟨rfl, by simp [heI, endP, c1, c2]⟩) (Nat.le_of_ble_eq_true rfl) (Nat.le_of_ble_eq_true rfl) dX3_hasEnded_26
    · refine lv_iload_n hx hb dX3_hasEnded_10 rfl (lv_at hl 1 rfl) ?_
      refine lv_aload_n hx hb dX3_hasEnded_11 rfl (lv_at hl 0 rfl) ?_
      refine xr_get S hw (j := 5) (k_0 n) (cE_0 _ _ _ _) rfl inX3_hasEnded_X3 (by decide) (hts (.fieldLink RX3 38 "UnionOffice" "today" "I") (by decide +kernel)) rfl dX3_hasEnded_12 ?_
      refine lv_bipush (v := 30) hx hb dX3_hasEnded_15 (by decide) ?_
      refine lv_idiv hx hb dX3_hasEnded_17 (by decide) ?_
      refine lv_icmp_ge (tgt := 25) hx hb dX3_hasEnded_18 (by decide) (fun c3 => ?_) (fun c3 => ?_)
      · refine lv_iconst (v := 0) hx hb dX3_hasEnded_25 (by decide) ?_
        exact xe_z S.1 S.2.1 hr (Or.inl rfl) hlocks hw (⟨rfl, by simp [heI, endP, c1, c2, c3]⟩) (Nat.le_of_ble_eq_true rfl) (Nat.le_of_ble_eq_true rfl) dX3_hasEnded_26
      · refine lv_iconst (v := 1) hx hb dX3_hasEnded_21 (by decide) ?_
        refine lv_goto (tgt := 26) hx hb dX3_hasEnded_22 (by decide) ?_
        exact xe_z S.1 S.2.1 hr (Or.inr rfl) hlocks hw (⟨rfl, by simp [heI, endP, c1, c2, c3]⟩) (Nat.le_of_ble_eq_true rfl) (Nat.le_of_ble_eq_true rfl) dX3_hasEnded_26
abbrev rmX3_checkEnded : Room := { frames := 6, cells := 1, slots := 6, locals := 84 }
theorem inX3_checkEnded_xIO : (∀ w ∈ (vx_atS RX3 190 xIO nm2).filter goodWord, w ∈ wsX3_checkEnded) := by
  intro w h
  first | exact List.mem_cons_of_mem _ (List.mem_append_right _ h) | exact List.mem_cons_of_mem _ (List.mem_append_left _ (List.mem_append_right _ h)) | exact List.mem_cons_of_mem _ (List.mem_append_left _ (List.mem_append_left _ (List.mem_append_right _ h)))
theorem inX3_checkEnded_xIO1 : Cond.classLink RX3 186 xIO ∈ wsX3_checkEnded ∧ Cond.initialized xIO ∈ wsX3_checkEnded := ⟨by decide +kernel, by decide +kernel⟩
set_option maxHeartbeats 1000000 in
set_option maxRecDepth 100000 in
/-- checkEnded -/
theorem c_X3_checkEnded (l : Launch) (hl9 : l.stackTraces = false) (D : va_G) (cy : Nat → ClassId) (ad : Nat → Nat) (n : Nat) (σ : S3) (x0 : Int32) : CT l yX3_checkEnded wsX3_checkEnded rmX3_checkEnded D cy ad n [.ref (ad 0), .int x0] σ (xPv fun u => u = σ ∧ endP σ x0) (fun E9 => E9 = xIO ∧ ¬ endP σ x0) := by
  refine xs_T (cc := cX3_checkEnded) (maxL := 2) (ret := none) (by decide +kernel) rfl (Nat.le_of_ble_eq_true rfl) ?_
  intro p e s m below meth c ls S hr hlocks htb hw hX hl
  have S : CallFix p m c cX3_checkEnded 2 s [.ref (ad 0), .int x0].toArray wsX3_checkEnded RX3 := S
  have hx := S.1
  have hb := S.2.1
  have hts := S.2.2.2.2
  have htr := hl9
  have hl : lv_has ls 2 [(0, .ref (ad 0)), (1, .int x0)] := hl
  refine lv_aload_n hx hb dX3_checkEnded_0 rfl (lv_at hl 0 rfl) ?_
  refine lv_iload_n hx hb dX3_checkEnded_1 rfl (lv_at hl 1 rfl) ?_
  refine xc_Mi hw (va_runV (As := [.int x0]) (rest := []) S (c_X3_hasEnded l D cy ad n σ x0 _) (cwV 1 S.2.2.2.2 gX3_checkEnded_X3_hasEnded rfl rfl rfl (by decide +kernel) ⟨Nat.le_of_ble_eq_true rfl, Nat.le_of_ble_eq_true rfl⟩) (xc_preV (cX_ok _ _) hX hw (k_0 n) (cE_0 _ _ _ _) rfl rfl) rfl rfl hl.1 rfl (lv_room (Nat.le_of_ble_eq_true rfl)) dX3_checkEnded_2 ⟨Nat.le_of_ble_eq_true rfl, Nat.le_of_ble_eq_true rfl⟩) (fun r9 u H locs hp hw => ?_)
  obtain ⟨hu9, rfl⟩ := hp
  rw [hu9] at hw
  clear hu9
  refine lv_if_ne (tgt := 18) hx hb dX3_checkEnded_5 (by decide) (fun c1 => ?_) (fun c1 => ?_)
  · exact vx_ret (xe_v S.1 S.2.1 hr hlocks hw (⟨rfl, heI_1.mp c1⟩) (Nat.le_of_ble_eq_true rfl) (Nat.le_of_ble_eq_true rfl) dX3_checkEnded_18)
  · exact xt_throw (text := "the month has not ended") S htr hlocks htb hw hX hl.1 (by decide +kernel) inX3_checkEnded_xIO1.1 inX3_checkEnded_xIO1.2 inX3_checkEnded_xIO tg_IO (by decide +kernel) dX3_checkEnded_8 dX3_checkEnded_11 dX3_checkEnded_12 dX3_checkEnded_14 dX3_checkEnded_17 (Nat.le_of_ble_eq_true rfl) (Nat.le_of_ble_eq_true rfl) (Nat.le_of_ble_eq_true rfl) (Nat.le_of_ble_eq_true rfl) (⟨rfl, heI_0.mp c1⟩)
abbrev rmX3_countStanding : Room := { frames := 1, cells := 0, slots := 0, locals := 22 }
def cntF (σ : S3) (n b : Nat) (d : Int32) : Nat → Int32
  | 0 => 0
  | j + 1 => if j < n ∧ br σ j = b ∧ Stands σ j d then cntF σ n b d j + 1 else cntF σ n b d j
theorem lt16 {m : Nat} (h : m < 2 ^ 31) : ¬ 16 ≤ nI m ↔ m < 16 := by
  have e : (16 : Int32) = nI 16 := rfl
  rw [e, nI_leI (by decide) h]
  omega
theorem lt4 {m : Nat} (h : m < 2 ^ 31) : ¬ 4 ≤ nI m ↔ m < 4 := by
  have e : (4 : Int32) = nI 4 := rfl
  rw [e, nI_leI (by decide) h]
  omega
theorem inX3_countStanding_X2 : (∀ w ∈ wsX20, w ∈ wsX3_countStanding) := by decide +kernel
theorem inX3_countStanding_X3 : (∀ w ∈ wsX30, w ∈ wsX3_countStanding) := by decide +kernel
set_option maxHeartbeats 1000000 in
set_option maxRecDepth 100000 in
theorem lp_X3_countStanding {p : Program} {l : Launch} {e : Env} {s : State} {m : MethodId} {args : Array Value} {below : List Frame} {meth : Method} {c : Code} {Q : State → Prop} (S : CallFix p m c cX3_countStanding 7 s args wsX3_countStanding RX3) {D : va_G} {cy : Nat → ClassId} {ad : Nat → Nat} {n : Nat} {σ : S3} {b : Nat} (hb4 : b < 4) (hX : cX ad (15 + 3 * n) s.heap.size s) : ∀ (k : Nat) (j : Nat) (acc : Int32) (H : Heap) (locs : List Loc) (ls : Array Slot), 16 - j < k → j ≤ 16 → acc = cntF σ n b (σ 18 0 0) j → CW D cy s ad n σ H locs → lv_has ls 7 [(0, .ref (ad 0)), (1, .ref (ad (7 + b))), (2, .int acc), (3, .ref (ad 3)), (4, .int 16), (5, .int (nI j))] → (∀ (r : Int32) (H : Heap) (locs : List Loc) (ls : Array Slot), r = cntF σ n b (σ 18 0 0) 16 → CW D cy s ad n σ H locs → lv_has ls 7 [(0, .ref (ad 0)), (2, .int r)] → W p l e rmX3_countStanding s m args below meth c H locs 0 0 Q (F0 m 62 ls [])) → W p l e rmX3_countStanding s m args below meth c H locs 0 0 Q (F0 m 14 ls []) := by
  have hx := S.1
  have hb := S.2.1
  have hts := S.2.2.2.2
  intro k
  induction k with
  | zero => intro j acc H locs ls hk; exact absurd hk (Nat.not_lt_zero _)
  | succ k ih =>
    intro j acc H locs ls hk hj hacc hw hl kk
    refine lv_iload hx hb dX3_countStanding_14 (lv_at hl 5 rfl) ?_
    refine lv_iload hx hb dX3_countStanding_16 (lv_at hl 4 rfl) ?_
    refine lv_icmp_ge (tgt := 62) hx hb dX3_countStanding_18 (by decide) (fun c1 => ?_) (fun c1 => ?_)
    · have hj6 : j = 16 := by
        rcases Nat.lt_or_ge j 16 with q | q
        · exact absurd c1 ((lt16 (by omega)).mpr q)
        · omega
      exact kk acc H locs ls (by rw [hacc, hj6]) hw (lv_sub hl [0, 2] rfl)
    · have hj6 : j < 16 := (lt16 (by omega)).mp c1
      refine lv_aload_n hx hb dX3_countStanding_21 rfl (lv_at hl 3 rfl) ?_
      refine lv_iload hx hb dX3_countStanding_22 (lv_at hl 5 rfl) ?_
      by_cases hjn : j < n
      · refine xn_aald S hw (t0 := 4) (k_3 n) (cE_3 _ _ _ _) rfl hj6 (by decide) (vr_m hjn) dX3_countStanding_24 ?_
        refine lv_astore (lv' := [(6, .ref (ad (15 + 3 * j))), (0, .ref (ad 0)), (1, .ref (ad (7 + b))), (2, .int acc), (3, .ref (ad 3)), (4, .int 16), (5, .int (nI j))]) hx hb dX3_countStanding_25 hl (by decide) rfl (fun ls hl => ?_)
        refine lv_aload hx hb dX3_countStanding_27 (lv_at hl 0 rfl) ?_
        refine lv_ifnull hx hb dX3_countStanding_29 ?_
        refine lv_aload hx hb dX3_countStanding_32 (lv_at hl 0 rfl) ?_
        refine xr_getN S hw (j := 3) (k_m hjn) (cE_m _ _ _ _ _) rfl inX3_countStanding_X2 (by decide) (hX.1.w (w := .fieldLinkNest RX3 81 "UnionOffice$Member" "branch" "LUnionOffice$Branch;" "UnionOffice") (by decide +kernel)) rfl dX3_countStanding_34 ?_
        refine lv_aload_n hx hb dX3_countStanding_37 rfl (lv_at hl 2 rfl) ?_
        refine xr_acmpne (k1 := (7 + (br σ j))) (k2 := (7 + b)) (tgt := 56) hx hb hw (k_br n (br_lt σ j)) (k_br n hb4) dX3_countStanding_38 (by decide) (fun c2 => ?_) (fun c2 => ?_)
        · have hb5 : ¬ br σ j = b := by omega
          refine lv_iinc (v := nI (j + 1)) (lv' := [(5, .int (nI (j + 1))), (6, .ref (ad (15 + 3 * j))), (0, .ref (ad 0)), (1, .ref (ad (7 + b))), (2, .int acc), (3, .ref (ad 3)), (4, .int 16)]) hx hb dX3_countStanding_56 hl (k := 6) rfl (nI_1 j) (by decide) rfl (fun ls hl => ?_)
          refine lv_goto (tgt := 14) hx hb dX3_countStanding_59 (by decide) ?_
          exact ih (j + 1) (acc) H locs ls (by omega) (by omega) (by rw [hacc]; exact (if_neg (fun q => hb5 q.2.1)).symm) hw (lv_sub hl [2, 3, 4, 5, 6, 0] rfl) kk
        · have hb5 : br σ j = b := by omega
          refine lv_aload hx hb dX3_countStanding_41 (lv_at hl 0 rfl) ?_
          refine lv_aload_n hx hb dX3_countStanding_43 rfl (lv_at hl 1 rfl) ?_
          refine xr_get S hw (j := 5) (k_0 n) (cE_0 _ _ _ _) rfl inX3_countStanding_X3 (by decide) (hts (.fieldLink RX3 38 "UnionOffice" "today" "I") (by decide +kernel)) rfl dX3_countStanding_44 ?_
          refine xc_Mi hw (va_runVN (As := [.int (σ 18 0 0)]) (rest := []) S (c_X2_standsOn l D cy ad n σ j hjn (σ 18 0 0) _) ⟨va_cnB 1 S.2.2.2.2 gX3_countStanding_X2_standsOn_n120 rfl rfl rfl (hX.1.w (w := .methodLinkNest RX3 120 yX2_standsOn "UnionOffice") (by decide +kernel)) (hts (.initialized RX2) (by decide +kernel)) (by decide +kernel) ⟨Nat.le_of_ble_eq_true rfl, Nat.le_of_ble_eq_true rfl⟩, hts (.instanceMethod yX2_standsOn) (by decide +kernel), hts (.selects RX2 yX2_standsOn yX2_standsOn) (by decide +kernel)⟩ (xc_preV (cX_ok _ _) hX hw (k_m hjn) (cE_m _ _ _ _ _) rfl rfl) rfl rfl hl.1 rfl (lv_room (Nat.le_of_ble_eq_true rfl)) dX3_countStanding_47 ⟨Nat.le_of_ble_eq_true rfl, Nat.le_of_ble_eq_true rfl⟩) (fun r9 u H locs hp hw => ?_)
          obtain ⟨hu9, rfl⟩ := hp
          rw [hu9] at hw
          clear hu9
          refine lv_if_eq (tgt := 56) hx hb dX3_countStanding_50 (by decide) (fun c3 => ?_) (fun c3 => ?_)
          · have hs5 := stI_0.mp c3
            refine lv_iinc (v := nI (j + 1)) (lv' := [(5, .int (nI (j + 1))), (6, .ref (ad (15 + 3 * j))), (0, .ref (ad 0)), (1, .ref (ad (7 + b))), (2, .int acc), (3, .ref (ad 3)), (4, .int 16)]) hx hb dX3_countStanding_56 hl (k := 6) rfl (nI_1 j) (by decide) rfl (fun ls hl => ?_)
            refine lv_goto (tgt := 14) hx hb dX3_countStanding_59 (by decide) ?_
            exact ih (j + 1) (acc) H locs ls (by omega) (by omega) (by rw [hacc]; exact (if_neg (fun q => hs5 q.2.2)).symm) hw (lv_sub hl [2, 3, 4, 5, 6, 0] rfl) kk
          · have hs5 := stI_1.mp c3
            refine lv_iinc (v := acc + 1) (lv' := [(2, .int (acc + 1)), (6, .ref (ad (15 + 3 * j))), (0, .ref (ad 0)), (1, .ref (ad (7 + b))), (3, .ref (ad 3)), (4, .int 16), (5, .int (nI j))]) hx hb dX3_countStanding_53 hl (k := 3) rfl rfl (by decide) rfl (fun ls hl => ?_)
            refine lv_iinc (v := nI (j + 1)) (lv' := [(5, .int (nI (j + 1))), (2, .int (acc + 1)), (6, .ref (ad (15 + 3 * j))), (0, .ref (ad 0)), (1, .ref (ad (7 + b))), (3, .ref (ad 3)), (4, .int 16)]) hx hb dX3_countStanding_56 hl (k := 6) rfl (nI_1 j) (by decide) rfl (fun ls hl => ?_)
            refine lv_goto (tgt := 14) hx hb dX3_countStanding_59 (by decide) ?_
            exact ih (j + 1) (acc + 1) H locs ls (by omega) (by omega) (by rw [hacc]; exact (if_pos ⟨hjn, hb5, hs5⟩).symm) hw (lv_sub hl [3, 4, 1, 5, 6, 0] rfl) kk
      · refine xn_aald S hw (t0 := 4) (k_3 n) (cE_3 _ _ _ _) rfl hj6 (by decide) (vr_mN hjn) dX3_countStanding_24 ?_
        refine lv_astoreN (lv' := [(6, .null), (0, .ref (ad 0)), (1, .ref (ad (7 + b))), (2, .int acc), (3, .ref (ad 3)), (4, .int 16), (5, .int (nI j))]) hx hb dX3_countStanding_25 hl (by decide) rfl (fun ls hl => ?_)
        refine lv_aloadN hx hb dX3_countStanding_27 (lv_at hl 0 rfl) ?_
        refine lv_ifnullN (tgt := 56) hx hb dX3_countStanding_29 (by decide) ?_
        refine lv_iinc (v := nI (j + 1)) (lv' := [(5, .int (nI (j + 1))), (6, .null), (0, .ref (ad 0)), (1, .ref (ad (7 + b))), (2, .int acc), (3, .ref (ad 3)), (4, .int 16)]) hx hb dX3_countStanding_56 hl (k := 6) rfl (nI_1 j) (by decide) rfl (fun ls hl => ?_)
        refine lv_goto (tgt := 14) hx hb dX3_countStanding_59 (by decide) ?_
        exact ih (j + 1) (acc) H locs ls (by omega) (by omega) (by rw [hacc]; exact (if_neg (fun q => hjn q.1)).symm) hw (lv_sub hl [2, 3, 4, 5, 6, 0] rfl) kk
set_option maxHeartbeats 1000000 in
set_option maxRecDepth 100000 in
/-- countStanding(branch) -/
theorem c_X3_countStanding (l : Launch) (D : va_G) (cy : Nat → ClassId) (ad : Nat → Nat) (n : Nat) (σ : S3) (b : Nat) (hb4 : b < 4) : CM l yX3_countStanding wsX3_countStanding rmX3_countStanding D cy ad n [.ref (ad 0), .ref (ad (7 + b))] σ (xPi fun r u => u = σ ∧ r = cntF σ n b (σ 18 0 0) 16) := by
  refine xs_M (cc := cX3_countStanding) (maxL := 7) (ret := (some .int)) (by decide +kernel) rfl (Nat.le_of_ble_eq_true rfl) ?_
  intro p e s m below meth c ls S hr hlocks hnm hw hX hl
  have S : CallFix p m c cX3_countStanding 7 s [.ref (ad 0), .ref (ad (7 + b))].toArray wsX3_countStanding RX3 := S
  have hx := S.1
  have hb := S.2.1
  have hts := S.2.2.2.2
  have hl : lv_has ls 7 [(0, .ref (ad 0)), (1, .ref (ad (7 + b)))] := hl
  refine lv_iconst (v := 0) hx hb dX3_countStanding_0 (by decide) ?_
  refine lv_istore_n (lv' := [(2, .int 0), (0, .ref (ad 0)), (1, .ref (ad (7 + b)))]) hx hb dX3_countStanding_1 rfl hl (by decide) rfl (fun ls hl => ?_)
  refine lv_aload_n hx hb dX3_countStanding_2 rfl (lv_at hl 1 rfl) ?_
  refine xr_get S hw (j := 2) (k_0 n) (cE_0 _ _ _ _) rfl inX3_countStanding_X3 (by decide) (hts (.fieldLink RX3 27 "UnionOffice" "members" "[LUnionOffice$Member;") (by decide +kernel)) rfl dX3_countStanding_3 ?_
  refine lv_astore_n (lv' := [(3, .ref (ad 3)), (2, .int 0), (0, .ref (ad 0)), (1, .ref (ad (7 + b)))]) hx hb dX3_countStanding_6 rfl hl (by decide) rfl (fun ls hl => ?_)
  refine lv_aload_n hx hb dX3_countStanding_7 rfl (lv_at hl 0 rfl) ?_
  refine xr_alen S hw (t0 := 4) (k_3 n) (cE_3 _ _ _ _) rfl (v := 16) rfl dX3_countStanding_8 ?_
  refine lv_istore (lv' := [(4, .int 16), (3, .ref (ad 3)), (2, .int 0), (0, .ref (ad 0)), (1, .ref (ad (7 + b)))]) hx hb dX3_countStanding_9 hl (by decide) rfl (fun ls hl => ?_)
  refine lv_iconst (v := 0) hx hb dX3_countStanding_11 (by decide) ?_
  refine lv_istore (lv' := [(5, .int 0), (4, .int 16), (3, .ref (ad 3)), (2, .int 0), (0, .ref (ad 0)), (1, .ref (ad (7 + b)))]) hx hb dX3_countStanding_12 hl (by decide) rfl (fun ls hl => ?_)
  refine lp_X3_countStanding S hb4 hX 17 0 0 _ _ ls (by omega) (by omega) rfl hw (lv_sub hl [4, 5, 3, 2, 1, 0] rfl) (fun r H locs ls hr9 hw hl => ?_)
  refine lv_iload_n hx hb dX3_countStanding_62 rfl (lv_at hl 1 rfl) ?_
  exact xe_i S.1 S.2.1 hr hlocks hw (⟨rfl, hr9⟩) (Nat.le_of_ble_eq_true rfl) (Nat.le_of_ble_eq_true rfl) dX3_countStanding_63
abbrev rmX3_sumLaidOn : Room := { frames := 0, cells := 0, slots := 0, locals := 0 }
def slF (σ : S3) (m : Nat) : Nat → Int32
  | 0 => 0
  | j + 1 => slF σ m j + σ 9 j m
theorem inX3_sumLaidOn_X1 : (∀ w ∈ wsX10, w ∈ wsX3_sumLaidOn) := by decide +kernel
set_option maxHeartbeats 1000000 in
set_option maxRecDepth 100000 in
theorem lp_X3_sumLaidOn {p : Program} {l : Launch} {e : Env} {R : Room} {s : State} {m : MethodId} {args : Array Value} {below : List Frame} {meth : Method} {c : Code} {cells slots : Nat} {Q : State → Prop} (S : CallFix p m c cX3_sumLaidOn 7 s args wsX3_sumLaidOn RX3) {D : va_G} {cy : Nat → ClassId} {ad : Nat → Nat} {n : Nat} {σ : S3} {mm : Nat} (hmm : mm < 60) (hX : cX ad (15 + 3 * n) s.heap.size s) : ∀ (k : Nat) (j : Nat) (acc : Int32) (H : Heap) (locs : List Loc) (ls : Array Slot), 4 - j < k → j ≤ 4 → acc = slF σ mm j → CW D cy s ad n σ H locs → lv_has ls 7 [(0, .ref (ad 0)), (1, .int (nI mm)), (2, .int acc), (3, .ref (ad 2)), (4, .int 4), (5, .int (nI j))] → (∀ (r : Int32) (H : Heap) (locs : List Loc) (ls : Array Slot), r = slF σ mm 4 → CW D cy s ad n σ H locs → lv_has ls 7 [(0, .ref (ad 0)), (2, .int r)] → W p l e R s m args below meth c H locs cells slots Q (F0 m 43 ls [])) → W p l e R s m args below meth c H locs cells slots Q (F0 m 14 ls []) := by
  have hx := S.1
  have hb := S.2.1
  have hts := S.2.2.2.2
  intro k
  induction k with
  | zero => intro j acc H locs ls hk; exact absurd hk (Nat.not_lt_zero _)
  | succ k ih =>
    intro j acc H locs ls hk hj hacc hw hl kk
    refine lv_iload hx hb dX3_sumLaidOn_14 (lv_at hl 5 rfl) ?_
    refine lv_iload hx hb dX3_sumLaidOn_16 (lv_at hl 4 rfl) ?_
    refine lv_icmp_ge (tgt := 43) hx hb dX3_sumLaidOn_18 (by decide) (fun c1 => ?_) (fun c1 => ?_)
    · have hj6 : j = 4 := by
        rcases Nat.lt_or_ge j 4 with q | q
        · exact absurd c1 ((lt4 (by omega)).mpr q)
        · omega
      exact kk acc H locs ls (by rw [hacc, hj6]) hw (lv_sub hl [0, 2] rfl)
    · have hj6 : j < 4 := (lt4 (by omega)).mp c1
      refine lv_aload_n hx hb dX3_sumLaidOn_21 rfl (lv_at hl 3 rfl) ?_
      refine lv_iload hx hb dX3_sumLaidOn_22 (lv_at hl 5 rfl) ?_
      refine xn_aald S hw (t0 := 3) (k_2 n) (cE_2 _ _ _ _) rfl hj6 (by decide) (vr_br hj6) dX3_sumLaidOn_24 ?_
      refine lv_astore (lv' := [(6, .ref (ad (7 + j))), (0, .ref (ad 0)), (1, .int (nI mm)), (2, .int acc), (3, .ref (ad 2)), (4, .int 4), (5, .int (nI j))]) hx hb dX3_sumLaidOn_25 hl (by decide) rfl (fun ls hl => ?_)
      refine lv_iload_n hx hb dX3_sumLaidOn_27 rfl (lv_at hl 3 rfl) ?_
      refine lv_aload hx hb dX3_sumLaidOn_28 (lv_at hl 0 rfl) ?_
      refine xr_getN S hw (j := 0) (k_br n hj6) (cE_br _ _ _ _ hj6) rfl inX3_sumLaidOn_X1 (by decide) (hX.1.w (w := .fieldLinkNest RX3 179 "UnionOffice$Branch" "laidOn" "[I" "UnionOffice") (by decide +kernel)) rfl dX3_sumLaidOn_30 ?_
      refine lv_iload_n hx hb dX3_sumLaidOn_33 rfl (lv_at hl 2 rfl) ?_
      refine xn_iald S hw (t0 := 0) (k_la n hj6) (cE_la _ _ _ _ hj6) rfl hmm (by decide) dX3_sumLaidOn_34 ?_
      refine lv_iadd hx hb dX3_sumLaidOn_35 ?_
      refine lv_istore_n (lv' := [(2, .int (acc + (σ 9 j mm))), (6, .ref (ad (7 + j))), (0, .ref (ad 0)), (1, .int (nI mm)), (3, .ref (ad 2)), (4, .int 4), (5, .int (nI j))]) hx hb dX3_sumLaidOn_36 rfl hl (by decide) rfl (fun ls hl => ?_)
      refine lv_iinc (v := nI (j + 1)) (lv' := [(5, .int (nI (j + 1))), (2, .int (acc + (σ 9 j mm))), (6, .ref (ad (7 + j))), (0, .ref (ad 0)), (1, .int (nI mm)), (3, .ref (ad 2)), (4, .int 4)]) hx hb dX3_sumLaidOn_37 hl (k := 6) rfl (nI_1 j) (by decide) rfl (fun ls hl => ?_)
      refine lv_goto (tgt := 14) hx hb dX3_sumLaidOn_40 (by decide) ?_
      exact ih (j + 1) (acc + (σ 9 j mm)) H locs ls (by omega) (by omega) (by rw [hacc]; rfl) hw (lv_sub hl [3, 4, 1, 5, 6, 0] rfl) kk
theorem inX3_sumLaidOn_X3 : (∀ w ∈ wsX30, w ∈ wsX3_sumLaidOn) := by decide +kernel
set_option maxHeartbeats 1000000 in
set_option maxRecDepth 100000 in
/-- sumLaidOn(month) -/
theorem c_X3_sumLaidOn (l : Launch) (D : va_G) (cy : Nat → ClassId) (ad : Nat → Nat) (n : Nat) (σ : S3) (mm : Nat) (hmm : mm < 60) : CM l yX3_sumLaidOn wsX3_sumLaidOn rmX3_sumLaidOn D cy ad n [.ref (ad 0), .int (nI mm)] σ (xPi fun r u => u = σ ∧ r = slF σ mm 4) := by
  refine xs_M (cc := cX3_sumLaidOn) (maxL := 7) (ret := (some .int)) (by decide +kernel) rfl (Nat.le_of_ble_eq_true rfl) ?_
  intro p e s m below meth c ls S hr hlocks hnm hw hX hl
  have S : CallFix p m c cX3_sumLaidOn 7 s [.ref (ad 0), .int (nI mm)].toArray wsX3_sumLaidOn RX3 := S
  have hx := S.1
  have hb := S.2.1
  have hts := S.2.2.2.2
  have hl : lv_has ls 7 [(0, .ref (ad 0)), (1, .int (nI mm))] := hl
  refine lv_iconst (v := 0) hx hb dX3_sumLaidOn_0 (by decide) ?_
  refine lv_istore_n (lv' := [(2, .int 0), (0, .ref (ad 0)), (1, .int (nI mm))]) hx hb dX3_sumLaidOn_1 rfl hl (by decide) rfl (fun ls hl => ?_)
  refine lv_aload_n hx hb dX3_sumLaidOn_2 rfl (lv_at hl 1 rfl) ?_
  refine xr_get S hw (j := 1) (k_0 n) (cE_0 _ _ _ _) rfl inX3_sumLaidOn_X3 (by decide) (hts (.fieldLink RX3 21 "UnionOffice" "branches" "[LUnionOffice$Branch;") (by decide +kernel)) rfl dX3_sumLaidOn_3 ?_
  refine lv_astore_n (lv' := [(3, .ref (ad 2)), (2, .int 0), (0, .ref (ad 0)), (1, .int (nI mm))]) hx hb dX3_sumLaidOn_6 rfl hl (by decide) rfl (fun ls hl => ?_)
  refine lv_aload_n hx hb dX3_sumLaidOn_7 rfl (lv_at hl 0 rfl) ?_
  refine xr_alen S hw (t0 := 3) (k_2 n) (cE_2 _ _ _ _) rfl (v := 4) rfl dX3_sumLaidOn_8 ?_
  refine lv_istore (lv' := [(4, .int 4), (3, .ref (ad 2)), (2, .int 0), (0, .ref (ad 0)), (1, .int (nI mm))]) hx hb dX3_sumLaidOn_9 hl (by decide) rfl (fun ls hl => ?_)
  refine lv_iconst (v := 0) hx hb dX3_sumLaidOn_11 (by decide) ?_
  refine lv_istore (lv' := [(5, .int 0), (4, .int 4), (3, .ref (ad 2)), (2, .int 0), (0, .ref (ad 0)), (1, .int (nI mm))]) hx hb dX3_sumLaidOn_12 hl (by decide) rfl (fun ls hl => ?_)
  refine lp_X3_sumLaidOn S hmm hX 5 0 0 _ _ ls (by omega) (by omega) rfl hw (lv_sub hl [4, 5, 3, 2, 1, 0] rfl) (fun r H locs ls hr9 hw hl => ?_)
  refine lv_iload_n hx hb dX3_sumLaidOn_43 rfl (lv_at hl 1 rfl) ?_
  exact xe_i S.1 S.2.1 hr hlocks hw (⟨rfl, hr9⟩) (Nat.le_of_ble_eq_true rfl) (Nat.le_of_ble_eq_true rfl) dX3_sumLaidOn_44
abbrev rmX3_payStrikers : Room := { frames := 1, cells := 0, slots := 0, locals := 22 }
abbrev strP (σ : S3) (n j : Nat) : Prop := j < n ∧ ¬ σ 14 (br σ j) 0 = 0 ∧ Stands σ j (σ 18 0 0) ∧ ¬ σ 19 0 0 < σ 17 0 0
def strS (σ : S3) (n j : Nat) : S3 := if strP σ n j then su (su σ 19 0 0 (σ 19 0 0 - σ 17 0 0)) 6 j 0 (σ 6 j 0 + σ 17 0 0) else σ
def strF (σ : S3) (n : Nat) : Nat → S3
  | 0 => σ
  | j + 1 => strS (strF σ n j) n j
theorem inX3_payStrikers_X1 : (∀ w ∈ wsX10, w ∈ wsX3_payStrikers) := by decide +kernel
theorem inX3_payStrikers_X2 : (∀ w ∈ wsX20, w ∈ wsX3_payStrikers) := by decide +kernel
theorem inX3_payStrikers_X3 : (∀ w ∈ wsX30, w ∈ wsX3_payStrikers) := by decide +kernel
set_option maxHeartbeats 1000000 in
set_option maxRecDepth 100000 in
theorem lp_X3_payStrikers {p : Program} {l : Launch} {e : Env} {s : State} {m : MethodId} {args : Array Value} {below : List Frame} {meth : Method} {c : Code} {Q : State → Prop} (S : CallFix p m c cX3_payStrikers 5 s args wsX3_payStrikers RX3) {D : va_G} {cy : Nat → ClassId} {ad : Nat → Nat} {n : Nat} {σ : S3} (hX : cX ad (15 + 3 * n) s.heap.size s) : ∀ (k : Nat) (j : Nat) (τ : S3) (H : Heap) (locs : List Loc) (ls : Array Slot), 16 - j < k → j ≤ 16 → τ = strF σ n j → CW D cy s ad n τ H locs → lv_has ls 5 [(0, .ref (ad 0)), (1, .ref (ad 3)), (2, .int 16), (3, .int (nI j))] → (∀ (H : Heap) (locs : List Loc) (ls : Array Slot), CW D cy s ad n (strF σ n 16) H locs → lv_has ls 5 [(0, .ref (ad 0))] → W p l e rmX3_payStrikers s m args below meth c H locs 0 0 Q (F0 m 92 ls [])) → W p l e rmX3_payStrikers s m args below meth c H locs 0 0 Q (F0 m 10 ls []) := by
  have hx := S.1
  have hb := S.2.1
  have hts := S.2.2.2.2
  intro k
  induction k with
  | zero => intro j τ H locs ls hk; exact absurd hk (Nat.not_lt_zero _)
  | succ k ih =>
    intro j τ H locs ls hk hj hτ hw hl kk
    refine lv_iload_n hx hb dX3_payStrikers_10 rfl (lv_at hl 3 rfl) ?_
    refine lv_iload_n hx hb dX3_payStrikers_11 rfl (lv_at hl 2 rfl) ?_
    refine lv_icmp_ge (tgt := 92) hx hb dX3_payStrikers_12 (by decide) (fun c1 => ?_) (fun c1 => ?_)
    · have hj6 : j = 16 := by
        rcases Nat.lt_or_ge j 16 with q | q
        · exact absurd c1 ((lt16 (by omega)).mpr q)
        · omega
      exact kk H locs ls (by rw [← hj6, ← hτ]; exact hw) (lv_sub hl [0] rfl)
    · have hj6 : j < 16 := (lt16 (by omega)).mp c1
      refine lv_aload_n hx hb dX3_payStrikers_15 rfl (lv_at hl 1 rfl) ?_
      refine lv_iload_n hx hb dX3_payStrikers_16 rfl (lv_at hl 3 rfl) ?_
      by_cases hjn : j < n
      · refine xn_aald S hw (t0 := 4) (k_3 n) (cE_3 _ _ _ _) rfl hj6 (by decide) (vr_m hjn) dX3_payStrikers_17 ?_
        refine lv_astore (lv' := [(4, .ref (ad (15 + 3 * j))), (0, .ref (ad 0)), (1, .ref (ad 3)), (2, .int 16), (3, .int (nI j))]) hx hb dX3_payStrikers_18 hl (by decide) rfl (fun ls hl => ?_)
        refine lv_aload hx hb dX3_payStrikers_20 (lv_at hl 0 rfl) ?_
        refine lv_ifnull hx hb dX3_payStrikers_22 ?_
        refine lv_aload hx hb dX3_payStrikers_25 (lv_at hl 0 rfl) ?_
        refine xr_getN S hw (j := 3) (k_m hjn) (cE_m _ _ _ _ _) rfl inX3_payStrikers_X2 (by decide) (hX.1.w (w := .fieldLinkNest RX3 81 "UnionOffice$Member" "branch" "LUnionOffice$Branch;" "UnionOffice") (by decide +kernel)) rfl dX3_payStrikers_27 ?_
        refine xr_getN S hw (j := 5) (k_br n (br_lt τ j)) (cE_br _ _ _ _ (br_lt τ j)) rfl inX3_payStrikers_X1 (by decide) (hX.1.w (w := .fieldLinkNest RX3 108 "UnionOffice$Branch" "isOnStrike" "Z" "UnionOffice") (by decide +kernel)) rfl dX3_payStrikers_30 ?_
        refine lv_if_eq (tgt := 86) hx hb dX3_payStrikers_33 (by decide) (fun c2 => ?_) (fun c2 => ?_)
        · refine lv_iinc (v := nI (j + 1)) (lv' := [(3, .int (nI (j + 1))), (4, .ref (ad (15 + 3 * j))), (0, .ref (ad 0)), (1, .ref (ad 3)), (2, .int 16)]) hx hb dX3_payStrikers_86 hl (k := 4) rfl (nI_1 j) (by decide) rfl (fun ls hl => ?_)
          refine lv_goto (tgt := 10) hx hb dX3_payStrikers_89 (by decide) ?_
          exact ih (j + 1) τ H locs ls (by omega) (by omega) (by show _ = strS (strF σ n j) n j; rw [← hτ]; exact (if_neg (fun q => q.2.1 c2)).symm) hw (lv_sub hl [2, 3, 4, 0] rfl) kk
        · refine lv_aload hx hb dX3_payStrikers_36 (lv_at hl 0 rfl) ?_
          refine lv_aload_n hx hb dX3_payStrikers_38 rfl (lv_at hl 1 rfl) ?_
          refine xr_get S hw (j := 5) (k_0 n) (cE_0 _ _ _ _) rfl inX3_payStrikers_X3 (by decide) (hts (.fieldLink RX3 38 "UnionOffice" "today" "I") (by decide +kernel)) rfl dX3_payStrikers_39 ?_
          refine xc_Mi hw (va_runVN (As := [.int (τ 18 0 0)]) (rest := []) S (c_X2_standsOn l D cy ad n τ j hjn (τ 18 0 0) _) ⟨va_cnB 1 S.2.2.2.2 gX3_payStrikers_X2_standsOn_n120 rfl rfl rfl (hX.1.w (w := .methodLinkNest RX3 120 yX2_standsOn "UnionOffice") (by decide +kernel)) (hts (.initialized RX2) (by decide +kernel)) (by decide +kernel) ⟨Nat.le_of_ble_eq_true rfl, Nat.le_of_ble_eq_true rfl⟩, hts (.instanceMethod yX2_standsOn) (by decide +kernel), hts (.selects RX2 yX2_standsOn yX2_standsOn) (by decide +kernel)⟩ (xc_preV (cX_ok _ _) hX hw (k_m hjn) (cE_m _ _ _ _ _) rfl rfl) rfl rfl hl.1 rfl (lv_room (Nat.le_of_ble_eq_true rfl)) dX3_payStrikers_42 ⟨Nat.le_of_ble_eq_true rfl, Nat.le_of_ble_eq_true rfl⟩) (fun r9 u H locs hp hw => ?_)
          obtain ⟨hu9, rfl⟩ := hp
          rw [hu9] at hw
          clear hu9
          refine lv_if_eq (tgt := 86) hx hb dX3_payStrikers_45 (by decide) (fun c3 => ?_) (fun c3 => ?_)
          · have hs5 := stI_0.mp c3
            refine lv_iinc (v := nI (j + 1)) (lv' := [(3, .int (nI (j + 1))), (4, .ref (ad (15 + 3 * j))), (0, .ref (ad 0)), (1, .ref (ad 3)), (2, .int 16)]) hx hb dX3_payStrikers_86 hl (k := 4) rfl (nI_1 j) (by decide) rfl (fun ls hl => ?_)
            refine lv_goto (tgt := 10) hx hb dX3_payStrikers_89 (by decide) ?_
            exact ih (j + 1) τ H locs ls (by omega) (by omega) (by show _ = strS (strF σ n j) n j; rw [← hτ]; exact (if_neg (fun q => hs5 q.2.2.1)).symm) hw (lv_sub hl [2, 3, 4, 0] rfl) kk
          · have hs5 := stI_1.mp c3
            refine lv_aload_n hx hb dX3_payStrikers_48 rfl (lv_at hl 1 rfl) ?_
            refine xr_get S hw (j := 6) (k_0 n) (cE_0 _ _ _ _) rfl inX3_payStrikers_X3 (by decide) (hts (.fieldLink RX3 41 "UnionOffice" "inFund" "I") (by decide +kernel)) rfl dX3_payStrikers_49 ?_
            refine lv_aload_n hx hb dX3_payStrikers_52 rfl (lv_at hl 1 rfl) ?_
            refine xr_get S hw (j := 4) (k_0 n) (cE_0 _ _ _ _) rfl inX3_payStrikers_X3 (by decide) (hts (.fieldLink RX3 35 "UnionOffice" "payOfStrikeDay" "I") (by decide +kernel)) rfl dX3_payStrikers_53 ?_
            refine lv_icmp_lt (tgt := 86) hx hb dX3_payStrikers_56 (by decide) (fun c4 => ?_) (fun c4 => ?_)
            · refine lv_iinc (v := nI (j + 1)) (lv' := [(3, .int (nI (j + 1))), (4, .ref (ad (15 + 3 * j))), (0, .ref (ad 0)), (1, .ref (ad 3)), (2, .int 16)]) hx hb dX3_payStrikers_86 hl (k := 4) rfl (nI_1 j) (by decide) rfl (fun ls hl => ?_)
              refine lv_goto (tgt := 10) hx hb dX3_payStrikers_89 (by decide) ?_
              exact ih (j + 1) τ H locs ls (by omega) (by omega) (by show _ = strS (strF σ n j) n j; rw [← hτ]; exact (if_neg (fun q => q.2.2.2 c4)).symm) hw (lv_sub hl [2, 3, 4, 0] rfl) kk
            · refine lv_aload_n hx hb dX3_payStrikers_59 rfl (lv_at hl 1 rfl) ?_
              refine lv_dup hx hb dX3_payStrikers_60 rfl ?_
              refine xr_get S hw (j := 6) (k_0 n) (cE_0 _ _ _ _) rfl inX3_payStrikers_X3 (by decide) (hts (.fieldLink RX3 41 "UnionOffice" "inFund" "I") (by decide +kernel)) rfl dX3_payStrikers_61 ?_
              refine lv_aload_n hx hb dX3_payStrikers_64 rfl (lv_at hl 1 rfl) ?_
              refine xr_get S hw (j := 4) (k_0 n) (cE_0 _ _ _ _) rfl inX3_payStrikers_X3 (by decide) (hts (.fieldLink RX3 35 "UnionOffice" "payOfStrikeDay" "I") (by decide +kernel)) rfl dX3_payStrikers_65 ?_
              refine lv_isub hx hb dX3_payStrikers_68 ?_
              obtain ⟨σ1, hσ1⟩ : ∃ y : S3, y = su τ 19 0 0 ((τ 19 0 0) - (τ 17 0 0)) := ⟨_, rfl⟩
              refine xr_put S hw tyX3 tyX3_ok nmX3 (j := 6) (k_0 n) (cE_0 _ _ _ _) rfl inX3_payStrikers_X3 (by decide) (hts (.fieldLink RX3 41 "UnionOffice" "inFund" "I") (by decide +kernel)) rfl (tyX3_ok 6 (by decide)) rfl rfl (Nat.le_of_ble_eq_true rfl) dX3_payStrikers_69 (cE cy ad n σ1) (by rw [hσ1]; exact up_fund _ _ _ _  _) (fun H locs hw => ?_)
              refine lv_aload hx hb dX3_payStrikers_72 (lv_at hl 0 rfl) ?_
              refine lv_dup hx hb dX3_payStrikers_74 rfl ?_
              refine xr_getN S hw (j := 8) (k_m hjn) (cE_m _ _ _ _ _) rfl inX3_payStrikers_X2 (by decide) (hX.1.w (w := .fieldLinkNest RX3 180 "UnionOffice$Member" "strikePayHad" "I" "UnionOffice") (by decide +kernel)) rfl dX3_payStrikers_75 ?_
              refine lv_aload_n hx hb dX3_payStrikers_78 rfl (lv_at hl 1 rfl) ?_
              refine xr_get S hw (j := 4) (k_0 n) (cE_0 _ _ _ _) rfl inX3_payStrikers_X3 (by decide) (hts (.fieldLink RX3 35 "UnionOffice" "payOfStrikeDay" "I") (by decide +kernel)) rfl dX3_payStrikers_79 ?_
              refine lv_iadd hx hb dX3_payStrikers_82 ?_
              obtain ⟨σ2, hσ2⟩ : ∃ y : S3, y = su σ1 6 j 0 ((σ1 6 j 0) + (σ1 17 0 0)) := ⟨_, rfl⟩
              refine xr_putN S hw tyX2 tyX2_ok nmX2 (j := 8) (k_m hjn) (cE_m _ _ _ _ _) rfl inX3_payStrikers_X2 (by decide) (hX.1.w (w := .fieldLinkNest RX3 180 "UnionOffice$Member" "strikePayHad" "I" "UnionOffice") (by decide +kernel)) rfl (tyX2_ok 8 (by decide)) rfl rfl (Nat.le_of_ble_eq_true rfl) dX3_payStrikers_83 (cE cy ad n σ2) (by rw [hσ2]; exact up_had _ _ _ _ j _) (fun H locs hw => ?_)
              refine lv_iinc (v := nI (j + 1)) (lv' := [(3, .int (nI (j + 1))), (4, .ref (ad (15 + 3 * j))), (0, .ref (ad 0)), (1, .ref (ad 3)), (2, .int 16)]) hx hb dX3_payStrikers_86 hl (k := 4) rfl (nI_1 j) (by decide) rfl (fun ls hl => ?_)
              refine lv_goto (tgt := 10) hx hb dX3_payStrikers_89 (by decide) ?_
              exact ih (j + 1) σ2 H locs ls (by omega) (by omega) (by show _ = strS (strF σ n j) n j; rw [← hτ]; show _ = if strP τ n j then _ else _; rw [if_pos ⟨hjn, c2, hs5, c4⟩, hσ2, hσ1]; simp [su]) hw (lv_sub hl [2, 3, 4, 0] rfl) kk
      · refine xn_aald S hw (t0 := 4) (k_3 n) (cE_3 _ _ _ _) rfl hj6 (by decide) (vr_mN hjn) dX3_payStrikers_17 ?_
        refine lv_astoreN (lv' := [(4, .null), (0, .ref (ad 0)), (1, .ref (ad 3)), (2, .int 16), (3, .int (nI j))]) hx hb dX3_payStrikers_18 hl (by decide) rfl (fun ls hl => ?_)
        refine lv_aloadN hx hb dX3_payStrikers_20 (lv_at hl 0 rfl) ?_
        refine lv_ifnullN (tgt := 86) hx hb dX3_payStrikers_22 (by decide) ?_
        refine lv_iinc (v := nI (j + 1)) (lv' := [(3, .int (nI (j + 1))), (4, .null), (0, .ref (ad 0)), (1, .ref (ad 3)), (2, .int 16)]) hx hb dX3_payStrikers_86 hl (k := 4) rfl (nI_1 j) (by decide) rfl (fun ls hl => ?_)
        refine lv_goto (tgt := 10) hx hb dX3_payStrikers_89 (by decide) ?_
        exact ih (j + 1) τ H locs ls (by omega) (by omega) (by show _ = strS (strF σ n j) n j; rw [← hτ]; exact (if_neg (fun q => hjn q.1)).symm) hw (lv_sub hl [2, 3, 4, 0] rfl) kk
set_option maxHeartbeats 1000000 in
set_option maxRecDepth 100000 in
/-- payStrikers() -/
theorem c_X3_payStrikers (l : Launch) (D : va_G) (cy : Nat → ClassId) (ad : Nat → Nat) (n : Nat) (σ : S3)  : CM l yX3_payStrikers wsX3_payStrikers rmX3_payStrikers D cy ad n [.ref (ad 0)] σ (xPv fun u => u = strF σ n 16) := by
  refine xs_M (cc := cX3_payStrikers) (maxL := 5) (ret := none) (by decide +kernel) rfl (Nat.le_of_ble_eq_true rfl) ?_
  intro p e s m below meth c ls S hr hlocks hnm hw hX hl
  have S : CallFix p m c cX3_payStrikers 5 s [.ref (ad 0)].toArray wsX3_payStrikers RX3 := S
  have hx := S.1
  have hb := S.2.1
  have hts := S.2.2.2.2
  have hl : lv_has ls 5 [(0, .ref (ad 0))] := hl
  refine lv_aload_n hx hb dX3_payStrikers_0 rfl (lv_at hl 0 rfl) ?_
  refine xr_get S hw (j := 2) (k_0 n) (cE_0 _ _ _ _) rfl inX3_payStrikers_X3 (by decide) (hts (.fieldLink RX3 27 "UnionOffice" "members" "[LUnionOffice$Member;") (by decide +kernel)) rfl dX3_payStrikers_1 ?_
  refine lv_astore_n (lv' := [(1, .ref (ad 3)), (0, .ref (ad 0))]) hx hb dX3_payStrikers_4 rfl hl (by decide) rfl (fun ls hl => ?_)
  refine lv_aload_n hx hb dX3_payStrikers_5 rfl (lv_at hl 0 rfl) ?_
  refine xr_alen S hw (t0 := 4) (k_3 n) (cE_3 _ _ _ _) rfl (v := 16) rfl dX3_payStrikers_6 ?_
  refine lv_istore_n (lv' := [(2, .int 16), (1, .ref (ad 3)), (0, .ref (ad 0))]) hx hb dX3_payStrikers_7 rfl hl (by decide) rfl (fun ls hl => ?_)
  refine lv_iconst (v := 0) hx hb dX3_payStrikers_8 (by decide) ?_
  refine lv_istore_n (lv' := [(3, .int 0), (2, .int 16), (1, .ref (ad 3)), (0, .ref (ad 0))]) hx hb dX3_payStrikers_9 rfl hl (by decide) rfl (fun ls hl => ?_)
  refine lp_X3_payStrikers S hX 17 0 σ _ _ ls (by omega) (by omega) rfl hw (lv_sub hl [3, 2, 1, 0] rfl) (fun H locs ls hw hl => ?_)
  exact xe_v S.1 S.2.1 hr hlocks hw (rfl) (Nat.le_of_ble_eq_true rfl) (Nat.le_of_ble_eq_true rfl) dX3_payStrikers_92
abbrev rmX3_chargeDues : Room := { frames := 3, cells := 0, slots := 0, locals := 64 }
abbrev cdP (σ : S3) (n j : Nat) : Prop := j < n ∧ σ 3 j 0 = 0 ∧ σ 4 j 0 = 0
def cdS (σ : S3) (n : Nat) (x : Int32) (j : Nat) : S3 := if cdP σ n j then su (chgF σ j x).1 19 0 0 (σ 19 0 0 + (chgF σ j x).2) else σ
def cdF (σ : S3) (n : Nat) (x : Int32) : Nat → S3
  | 0 => σ
  | j + 1 => cdS (cdF σ n x j) n x j
theorem inX3_chargeDues_X2 : (∀ w ∈ wsX20, w ∈ wsX3_chargeDues) := by decide +kernel
theorem inX3_chargeDues_X3 : (∀ w ∈ wsX30, w ∈ wsX3_chargeDues) := by decide +kernel
set_option maxHeartbeats 1000000 in
set_option maxRecDepth 100000 in
theorem lp_X3_chargeDues {p : Program} {l : Launch} {e : Env} {s : State} {m : MethodId} {args : Array Value} {below : List Frame} {meth : Method} {c : Code} {Q : State → Prop} (S : CallFix p m c cX3_chargeDues 6 s args wsX3_chargeDues RX3) {D : va_G} {cy : Nat → ClassId} {ad : Nat → Nat} {n : Nat} {σ : S3} {x0 : Int32} (hX : cX ad (15 + 3 * n) s.heap.size s) : ∀ (k : Nat) (j : Nat) (τ : S3) (H : Heap) (locs : List Loc) (ls : Array Slot), 16 - j < k → j ≤ 16 → τ = cdF σ n x0 j → CW D cy s ad n τ H locs → lv_has ls 6 [(0, .ref (ad 0)), (1, .int x0), (2, .ref (ad 3)), (3, .int 16), (4, .int (nI j))] → (∀ (H : Heap) (locs : List Loc) (ls : Array Slot), CW D cy s ad n (cdF σ n x0 16) H locs → lv_has ls 6 [(0, .ref (ad 0))] → W p l e rmX3_chargeDues s m args below meth c H locs 0 0 Q (F0 m 65 ls [])) → W p l e rmX3_chargeDues s m args below meth c H locs 0 0 Q (F0 m 11 ls []) := by
  have hx := S.1
  have hb := S.2.1
  have hts := S.2.2.2.2
  intro k
  induction k with
  | zero => intro j τ H locs ls hk; exact absurd hk (Nat.not_lt_zero _)
  | succ k ih =>
    intro j τ H locs ls hk hj hτ hw hl kk
    refine lv_iload hx hb dX3_chargeDues_11 (lv_at hl 4 rfl) ?_
    refine lv_iload_n hx hb dX3_chargeDues_13 rfl (lv_at hl 3 rfl) ?_
    refine lv_icmp_ge (tgt := 65) hx hb dX3_chargeDues_14 (by decide) (fun c1 => ?_) (fun c1 => ?_)
    · have hj6 : j = 16 := by
        rcases Nat.lt_or_ge j 16 with q | q
        · exact absurd c1 ((lt16 (by omega)).mpr q)
        · omega
      exact kk H locs ls (by rw [← hj6, ← hτ]; exact hw) (lv_sub hl [0] rfl)
    · have hj6 : j < 16 := (lt16 (by omega)).mp c1
      refine lv_aload_n hx hb dX3_chargeDues_17 rfl (lv_at hl 2 rfl) ?_
      refine lv_iload hx hb dX3_chargeDues_18 (lv_at hl 4 rfl) ?_
      by_cases hjn : j < n
      · refine xn_aald S hw (t0 := 4) (k_3 n) (cE_3 _ _ _ _) rfl hj6 (by decide) (vr_m hjn) dX3_chargeDues_20 ?_
        refine lv_astore (lv' := [(5, .ref (ad (15 + 3 * j))), (0, .ref (ad 0)), (1, .int x0), (2, .ref (ad 3)), (3, .int 16), (4, .int (nI j))]) hx hb dX3_chargeDues_21 hl (by decide) rfl (fun ls hl => ?_)
        refine lv_aload hx hb dX3_chargeDues_23 (lv_at hl 0 rfl) ?_
        refine lv_ifnull hx hb dX3_chargeDues_25 ?_
        refine lv_aload hx hb dX3_chargeDues_28 (lv_at hl 0 rfl) ?_
        refine xr_getN S hw (j := 6) (k_m hjn) (cE_m _ _ _ _ _) rfl inX3_chargeDues_X2 (by decide) (hX.1.w (w := .fieldLinkNest RX3 93 "UnionOffice$Member" "hasLeft" "Z" "UnionOffice") (by decide +kernel)) rfl dX3_chargeDues_30 ?_
        refine lv_if_ne (tgt := 59) hx hb dX3_chargeDues_33 (by decide) (fun c2 => ?_) (fun c2 => ?_)
        · refine lv_iinc (v := nI (j + 1)) (lv' := [(4, .int (nI (j + 1))), (5, .ref (ad (15 + 3 * j))), (0, .ref (ad 0)), (1, .int x0), (2, .ref (ad 3)), (3, .int 16)]) hx hb dX3_chargeDues_59 hl (k := 5) rfl (nI_1 j) (by decide) rfl (fun ls hl => ?_)
          refine lv_goto (tgt := 11) hx hb dX3_chargeDues_62 (by decide) ?_
          exact ih (j + 1) τ H locs ls (by omega) (by omega) (by show _ = cdS (cdF σ n x0 j) n x0 j; rw [← hτ]; exact (if_neg (fun q => c2 q.2.1)).symm) hw (lv_sub hl [2, 3, 4, 5, 0] rfl) kk
        · refine lv_aload hx hb dX3_chargeDues_36 (lv_at hl 0 rfl) ?_
          refine xr_getN S hw (j := 5) (k_m hjn) (cE_m _ _ _ _ _) rfl inX3_chargeDues_X2 (by decide) (hX.1.w (w := .fieldLinkNest RX3 89 "UnionOffice$Member" "isOnLeave" "Z" "UnionOffice") (by decide +kernel)) rfl dX3_chargeDues_38 ?_
          refine lv_if_ne (tgt := 59) hx hb dX3_chargeDues_41 (by decide) (fun c3 => ?_) (fun c3 => ?_)
          · refine lv_iinc (v := nI (j + 1)) (lv' := [(4, .int (nI (j + 1))), (5, .ref (ad (15 + 3 * j))), (0, .ref (ad 0)), (1, .int x0), (2, .ref (ad 3)), (3, .int 16)]) hx hb dX3_chargeDues_59 hl (k := 5) rfl (nI_1 j) (by decide) rfl (fun ls hl => ?_)
            refine lv_goto (tgt := 11) hx hb dX3_chargeDues_62 (by decide) ?_
            exact ih (j + 1) τ H locs ls (by omega) (by omega) (by show _ = cdS (cdF σ n x0 j) n x0 j; rw [← hτ]; exact (if_neg (fun q => c3 q.2.2)).symm) hw (lv_sub hl [2, 3, 4, 5, 0] rfl) kk
          · refine lv_aload_n hx hb dX3_chargeDues_44 rfl (lv_at hl 1 rfl) ?_
            refine lv_dup hx hb dX3_chargeDues_45 rfl ?_
            refine xr_get S hw (j := 6) (k_0 n) (cE_0 _ _ _ _) rfl inX3_chargeDues_X3 (by decide) (hts (.fieldLink RX3 41 "UnionOffice" "inFund" "I") (by decide +kernel)) rfl dX3_chargeDues_46 ?_
            refine lv_aload hx hb dX3_chargeDues_49 (lv_at hl 0 rfl) ?_
            refine lv_iload_n hx hb dX3_chargeDues_51 rfl (lv_at hl 2 rfl) ?_
            refine xc_Mi hw (va_runVN (As := [.int x0]) (rest := [.int (τ 19 0 0), .ref (ad 0)]) S (c_X2_charge l D cy ad n τ j hjn x0 _) ⟨va_cnB 1 S.2.2.2.2 gX3_chargeDues_X2_charge_n210 rfl rfl rfl (hX.1.w (w := .methodLinkNest RX3 210 yX2_charge "UnionOffice") (by decide +kernel)) (hts (.initialized RX2) (by decide +kernel)) (by decide +kernel) ⟨Nat.le_of_ble_eq_true rfl, Nat.le_of_ble_eq_true rfl⟩, hts (.instanceMethod yX2_charge) (by decide +kernel), hts (.selects RX2 yX2_charge yX2_charge) (by decide +kernel)⟩ (xc_preV (cX_ok _ _) hX hw (k_m hjn) (cE_m _ _ _ _ _) rfl rfl) rfl rfl hl.1 rfl (lv_room (Nat.le_of_ble_eq_true rfl)) dX3_chargeDues_52 ⟨Nat.le_of_ble_eq_true rfl, Nat.le_of_ble_eq_true rfl⟩) (fun r9 u H locs hp hw => ?_)
            obtain ⟨rfl, rfl⟩ := hp
            refine lv_iadd hx hb dX3_chargeDues_55 ?_
            obtain ⟨σ1, hσ1⟩ : ∃ y : S3, y = su ((chgF τ j x0).1) 19 0 0 ((τ 19 0 0) + ((chgF τ j x0).2)) := ⟨_, rfl⟩
            refine xr_put S hw tyX3 tyX3_ok nmX3 (j := 6) (k_0 n) (cE_0 _ _ _ _) rfl inX3_chargeDues_X3 (by decide) (hts (.fieldLink RX3 41 "UnionOffice" "inFund" "I") (by decide +kernel)) rfl (tyX3_ok 6 (by decide)) rfl rfl (Nat.le_of_ble_eq_true rfl) dX3_chargeDues_56 (cE cy ad n σ1) (by rw [hσ1]; exact up_fund _ _ _ _  _) (fun H locs hw => ?_)
            refine lv_iinc (v := nI (j + 1)) (lv' := [(4, .int (nI (j + 1))), (5, .ref (ad (15 + 3 * j))), (0, .ref (ad 0)), (1, .int x0), (2, .ref (ad 3)), (3, .int 16)]) hx hb dX3_chargeDues_59 hl (k := 5) rfl (nI_1 j) (by decide) rfl (fun ls hl => ?_)
            refine lv_goto (tgt := 11) hx hb dX3_chargeDues_62 (by decide) ?_
            exact ih (j + 1) σ1 H locs ls (by omega) (by omega) (by show _ = cdS (cdF σ n x0 j) n x0 j; rw [← hτ, hσ1]; exact (if_pos ⟨hjn, c2, c3⟩).symm) hw (lv_sub hl [2, 3, 4, 5, 0] rfl) kk
      · refine xn_aald S hw (t0 := 4) (k_3 n) (cE_3 _ _ _ _) rfl hj6 (by decide) (vr_mN hjn) dX3_chargeDues_20 ?_
        refine lv_astoreN (lv' := [(5, .null), (0, .ref (ad 0)), (1, .int x0), (2, .ref (ad 3)), (3, .int 16), (4, .int (nI j))]) hx hb dX3_chargeDues_21 hl (by decide) rfl (fun ls hl => ?_)
        refine lv_aloadN hx hb dX3_chargeDues_23 (lv_at hl 0 rfl) ?_
        refine lv_ifnullN (tgt := 59) hx hb dX3_chargeDues_25 (by decide) ?_
        refine lv_iinc (v := nI (j + 1)) (lv' := [(4, .int (nI (j + 1))), (5, .null), (0, .ref (ad 0)), (1, .int x0), (2, .ref (ad 3)), (3, .int 16)]) hx hb dX3_chargeDues_59 hl (k := 5) rfl (nI_1 j) (by decide) rfl (fun ls hl => ?_)
        refine lv_goto (tgt := 11) hx hb dX3_chargeDues_62 (by decide) ?_
        exact ih (j + 1) τ H locs ls (by omega) (by omega) (by show _ = cdS (cdF σ n x0 j) n x0 j; rw [← hτ]; exact (if_neg (fun q => hjn q.1)).symm) hw (lv_sub hl [2, 3, 4, 5, 0] rfl) kk
set_option maxHeartbeats 1000000 in
set_option maxRecDepth 100000 in
/-- chargeDues(month) -/
theorem c_X3_chargeDues (l : Launch) (D : va_G) (cy : Nat → ClassId) (ad : Nat → Nat) (n : Nat) (σ : S3) (x0 : Int32) : CM l yX3_chargeDues wsX3_chargeDues rmX3_chargeDues D cy ad n [.ref (ad 0), .int x0] σ (xPv fun u => u = cdF σ n x0 16) := by
  refine xs_M (cc := cX3_chargeDues) (maxL := 6) (ret := none) (by decide +kernel) rfl (Nat.le_of_ble_eq_true rfl) ?_
  intro p e s m below meth c ls S hr hlocks hnm hw hX hl
  have S : CallFix p m c cX3_chargeDues 6 s [.ref (ad 0), .int x0].toArray wsX3_chargeDues RX3 := S
  have hx := S.1
  have hb := S.2.1
  have hts := S.2.2.2.2
  have hl : lv_has ls 6 [(0, .ref (ad 0)), (1, .int x0)] := hl
  refine lv_aload_n hx hb dX3_chargeDues_0 rfl (lv_at hl 0 rfl) ?_
  refine xr_get S hw (j := 2) (k_0 n) (cE_0 _ _ _ _) rfl inX3_chargeDues_X3 (by decide) (hts (.fieldLink RX3 27 "UnionOffice" "members" "[LUnionOffice$Member;") (by decide +kernel)) rfl dX3_chargeDues_1 ?_
  refine lv_astore_n (lv' := [(2, .ref (ad 3)), (0, .ref (ad 0)), (1, .int x0)]) hx hb dX3_chargeDues_4 rfl hl (by decide) rfl (fun ls hl => ?_)
  refine lv_aload_n hx hb dX3_chargeDues_5 rfl (lv_at hl 0 rfl) ?_
  refine xr_alen S hw (t0 := 4) (k_3 n) (cE_3 _ _ _ _) rfl (v := 16) rfl dX3_chargeDues_6 ?_
  refine lv_istore_n (lv' := [(3, .int 16), (2, .ref (ad 3)), (0, .ref (ad 0)), (1, .int x0)]) hx hb dX3_chargeDues_7 rfl hl (by decide) rfl (fun ls hl => ?_)
  refine lv_iconst (v := 0) hx hb dX3_chargeDues_8 (by decide) ?_
  refine lv_istore (lv' := [(4, .int 0), (3, .int 16), (2, .ref (ad 3)), (0, .ref (ad 0)), (1, .int x0)]) hx hb dX3_chargeDues_9 hl (by decide) rfl (fun ls hl => ?_)
  refine lp_X3_chargeDues S hX 17 0 σ _ _ ls (by omega) (by omega) rfl hw (lv_sub hl [3, 4, 2, 1, 0] rfl) (fun H locs ls hw hl => ?_)
  exact xe_v S.1 S.2.1 hr hlocks hw (rfl) (Nat.le_of_ble_eq_true rfl) (Nat.le_of_ble_eq_true rfl) dX3_chargeDues_65
abbrev rmX3_countDelegates : Room := { frames := 2, cells := 0, slots := 0, locals := 48 }
def dlS (σ : S3) (n b : Nat) : S3 := su σ 16 b 0 ((cntF σ n b (σ 18 0 0) 16 + 3 - 1) / 3)
def dlF (σ : S3) (n : Nat) : Nat → S3
  | 0 => σ
  | j + 1 => dlS (dlF σ n j) n j
theorem inX3_countDelegates_X1 : (∀ w ∈ wsX10, w ∈ wsX3_countDelegates) := by decide +kernel
set_option maxHeartbeats 1000000 in
set_option maxRecDepth 100000 in
theorem lp_X3_countDelegates {p : Program} {l : Launch} {e : Env} {s : State} {m : MethodId} {args : Array Value} {below : List Frame} {meth : Method} {c : Code} {Q : State → Prop} (S : CallFix p m c cX3_countDelegates 6 s args wsX3_countDelegates RX3) {D : va_G} {cy : Nat → ClassId} {ad : Nat → Nat} {n : Nat} {σ : S3} (hX : cX ad (15 + 3 * n) s.heap.size s) : ∀ (k : Nat) (j : Nat) (τ : S3) (H : Heap) (locs : List Loc) (ls : Array Slot), 4 - j < k → j ≤ 4 → τ = dlF σ n j → CW D cy s ad n τ H locs → lv_has ls 6 [(0, .ref (ad 0)), (1, .ref (ad 2)), (2, .int 4), (3, .int (nI j))] → (∀ (H : Heap) (locs : List Loc) (ls : Array Slot), CW D cy s ad n (dlF σ n 4) H locs → lv_has ls 6 [(0, .ref (ad 0))] → W p l e rmX3_countDelegates s m args below meth c H locs 0 0 Q (F0 m 47 ls [])) → W p l e rmX3_countDelegates s m args below meth c H locs 0 0 Q (F0 m 10 ls []) := by
  have hx := S.1
  have hb := S.2.1
  have hts := S.2.2.2.2
  intro k
  induction k with
  | zero => intro j τ H locs ls hk; exact absurd hk (Nat.not_lt_zero _)
  | succ k ih =>
    intro j τ H locs ls hk hj hτ hw hl kk
    refine lv_iload_n hx hb dX3_countDelegates_10 rfl (lv_at hl 3 rfl) ?_
    refine lv_iload_n hx hb dX3_countDelegates_11 rfl (lv_at hl 2 rfl) ?_
    refine lv_icmp_ge (tgt := 47) hx hb dX3_countDelegates_12 (by decide) (fun c1 => ?_) (fun c1 => ?_)
    · have hj6 : j = 4 := by
        rcases Nat.lt_or_ge j 4 with q | q
        · exact absurd c1 ((lt4 (by omega)).mpr q)
        · omega
      exact kk H locs ls (by rw [← hj6, ← hτ]; exact hw) (lv_sub hl [0] rfl)
    · have hj6 : j < 4 := (lt4 (by omega)).mp c1
      refine lv_aload_n hx hb dX3_countDelegates_15 rfl (lv_at hl 1 rfl) ?_
      refine lv_iload_n hx hb dX3_countDelegates_16 rfl (lv_at hl 3 rfl) ?_
      refine xn_aald S hw (t0 := 3) (k_2 n) (cE_2 _ _ _ _) rfl hj6 (by decide) (vr_br hj6) dX3_countDelegates_17 ?_
      refine lv_astore (lv' := [(4, .ref (ad (7 + j))), (0, .ref (ad 0)), (1, .ref (ad 2)), (2, .int 4), (3, .int (nI j))]) hx hb dX3_countDelegates_18 hl (by decide) rfl (fun ls hl => ?_)
      refine lv_aload_n hx hb dX3_countDelegates_20 rfl (lv_at hl 1 rfl) ?_
      refine lv_aload hx hb dX3_countDelegates_21 (lv_at hl 0 rfl) ?_
      refine xc_Mi hw (va_runV (As := [.ref (ad (7 + j))]) (rest := []) S (c_X3_countStanding l D cy ad n τ j hj6 _) (cwV 1 S.2.2.2.2 gX3_countDelegates_X3_countStanding rfl rfl rfl (by decide +kernel) ⟨Nat.le_of_ble_eq_true rfl, Nat.le_of_ble_eq_true rfl⟩) (xc_preV (cX_ok _ _) hX hw (k_0 n) (cE_0 _ _ _ _) rfl rfl) rfl rfl hl.1 rfl (lv_room (Nat.le_of_ble_eq_true rfl)) dX3_countDelegates_23 ⟨Nat.le_of_ble_eq_true rfl, Nat.le_of_ble_eq_true rfl⟩) (fun r9 u H locs hp hw => ?_)
      obtain ⟨hu9, rfl⟩ := hp
      rw [hu9] at hw
      clear hu9
      refine lv_istore (lv' := [(5, .int (cntF τ n j (τ 18 0 0) 16)), (4, .ref (ad (7 + j))), (0, .ref (ad 0)), (1, .ref (ad 2)), (2, .int 4), (3, .int (nI j))]) hx hb dX3_countDelegates_26 hl (by decide) rfl (fun ls hl => ?_)
      refine lv_aload hx hb dX3_countDelegates_28 (lv_at hl 1 rfl) ?_
      refine lv_iload hx hb dX3_countDelegates_30 (lv_at hl 0 rfl) ?_
      refine lv_iconst (v := 3) hx hb dX3_countDelegates_32 (by decide) ?_
      refine lv_iadd hx hb dX3_countDelegates_33 ?_
      refine lv_iconst (v := 1) hx hb dX3_countDelegates_34 (by decide) ?_
      refine lv_isub hx hb dX3_countDelegates_35 ?_
      refine lv_iconst (v := 3) hx hb dX3_countDelegates_36 (by decide) ?_
      refine lv_idiv hx hb dX3_countDelegates_37 (by decide) ?_
      obtain ⟨σ1, hσ1⟩ : ∃ y : S3, y = su τ 16 j 0 ((((cntF τ n j (τ 18 0 0) 16) + 3) - 1) / 3) := ⟨_, rfl⟩
      refine xr_putN S hw tyX1 tyX1_ok nmX1 (j := 6) (k_br n hj6) (cE_br _ _ _ _ hj6) rfl inX3_countDelegates_X1 (by decide) (hX.1.w (w := .fieldLinkNest RX3 183 "UnionOffice$Branch" "delegatesOfYear" "I" "UnionOffice") (by decide +kernel)) rfl (tyX1_ok 6 (by decide)) rfl rfl (Nat.le_of_ble_eq_true rfl) dX3_countDelegates_38 (cE cy ad n σ1) (by rw [hσ1]; exact up_deleg _ _ _ _ hj6 _) (fun H locs hw => ?_)
      refine lv_iinc (v := nI (j + 1)) (lv' := [(3, .int (nI (j + 1))), (5, .int (cntF τ n j (τ 18 0 0) 16)), (4, .ref (ad (7 + j))), (0, .ref (ad 0)), (1, .ref (ad 2)), (2, .int 4)]) hx hb dX3_countDelegates_41 hl (k := 5) rfl (nI_1 j) (by decide) rfl (fun ls hl => ?_)
      refine lv_goto (tgt := 10) hx hb dX3_countDelegates_44 (by decide) ?_
      exact ih (j + 1) σ1 H locs ls (by omega) (by omega) (by show _ = dlS (dlF σ n j) n j; rw [← hτ, hσ1]; rfl) hw (lv_sub hl [3, 4, 5, 0] rfl) kk
theorem inX3_countDelegates_X3 : (∀ w ∈ wsX30, w ∈ wsX3_countDelegates) := by decide +kernel
set_option maxHeartbeats 1000000 in
set_option maxRecDepth 100000 in
/-- countDelegates() -/
theorem c_X3_countDelegates (l : Launch) (D : va_G) (cy : Nat → ClassId) (ad : Nat → Nat) (n : Nat) (σ : S3)  : CM l yX3_countDelegates wsX3_countDelegates rmX3_countDelegates D cy ad n [.ref (ad 0)] σ (xPv fun u => u = dlF σ n 4) := by
  refine xs_M (cc := cX3_countDelegates) (maxL := 6) (ret := none) (by decide +kernel) rfl (Nat.le_of_ble_eq_true rfl) ?_
  intro p e s m below meth c ls S hr hlocks hnm hw hX hl
  have S : CallFix p m c cX3_countDelegates 6 s [.ref (ad 0)].toArray wsX3_countDelegates RX3 := S
  have hx := S.1
  have hb := S.2.1
  have hts := S.2.2.2.2
  have hl : lv_has ls 6 [(0, .ref (ad 0))] := hl
  refine lv_aload_n hx hb dX3_countDelegates_0 rfl (lv_at hl 0 rfl) ?_
  refine xr_get S hw (j := 1) (k_0 n) (cE_0 _ _ _ _) rfl inX3_countDelegates_X3 (by decide) (hts (.fieldLink RX3 21 "UnionOffice" "branches" "[LUnionOffice$Branch;") (by decide +kernel)) rfl dX3_countDelegates_1 ?_
  refine lv_astore_n (lv' := [(1, .ref (ad 2)), (0, .ref (ad 0))]) hx hb dX3_countDelegates_4 rfl hl (by decide) rfl (fun ls hl => ?_)
  refine lv_aload_n hx hb dX3_countDelegates_5 rfl (lv_at hl 0 rfl) ?_
  refine xr_alen S hw (t0 := 3) (k_2 n) (cE_2 _ _ _ _) rfl (v := 4) rfl dX3_countDelegates_6 ?_
  refine lv_istore_n (lv' := [(2, .int 4), (1, .ref (ad 2)), (0, .ref (ad 0))]) hx hb dX3_countDelegates_7 rfl hl (by decide) rfl (fun ls hl => ?_)
  refine lv_iconst (v := 0) hx hb dX3_countDelegates_8 (by decide) ?_
  refine lv_istore_n (lv' := [(3, .int 0), (2, .int 4), (1, .ref (ad 2)), (0, .ref (ad 0))]) hx hb dX3_countDelegates_9 rfl hl (by decide) rfl (fun ls hl => ?_)
  refine lp_X3_countDelegates S hX 5 0 σ _ _ ls (by omega) (by omega) rfl hw (lv_sub hl [3, 2, 1, 0] rfl) (fun H locs ls hw hl => ?_)
  exact xe_v S.1 S.2.1 hr hlocks hw (rfl) (Nat.le_of_ble_eq_true rfl) (Nat.le_of_ble_eq_true rfl) dX3_countDelegates_47
abbrev rmX3_endDay : Room := { frames := 4, cells := 0, slots := 0, locals := 89 }
def ed1 (σ : S3) (n : Nat) : S3 := strF σ n 16
def ed2 (σ : S3) (n : Nat) : S3 := if (ed1 σ n) 18 0 0 - (ed1 σ n) 18 0 0 / 30 * 30 = 29 then cdF (ed1 σ n) n ((ed1 σ n) 18 0 0 / 30) 16 else ed1 σ n
def ed3 (σ : S3) (n : Nat) : S3 := su (ed2 σ n) 18 0 0 ((ed2 σ n) 18 0 0 + 1)
def edF (σ : S3) (n : Nat) : S3 := if (ed3 σ n) 18 0 0 - (ed3 σ n) 18 0 0 / 360 * 360 = 0 then dlF (ed3 σ n) n 4 else ed3 σ n
theorem inX3_endDay_X3 : (∀ w ∈ wsX30, w ∈ wsX3_endDay) := by decide +kernel
set_option maxHeartbeats 1000000 in
set_option maxRecDepth 100000 in
/-- endDay() -/
theorem c_X3_endDay (l : Launch) (D : va_G) (cy : Nat → ClassId) (ad : Nat → Nat) (n : Nat) (σ : S3)  : CM l yX3_endDay wsX3_endDay rmX3_endDay D cy ad n [.ref (ad 0)] σ (xPv fun u => u = edF σ n) := by
  refine xs_M (cc := cX3_endDay) (maxL := 1) (ret := none) (by decide +kernel) rfl (Nat.le_of_ble_eq_true rfl) ?_
  intro p e s m below meth c ls S hr hlocks hnm hw hX hl
  have S : CallFix p m c cX3_endDay 1 s [.ref (ad 0)].toArray wsX3_endDay RX3 := S
  have hx := S.1
  have hb := S.2.1
  have hts := S.2.2.2.2
  have hl : lv_has ls 1 [(0, .ref (ad 0))] := hl
  refine lv_aload_n hx hb dX3_endDay_0 rfl (lv_at hl 0 rfl) ?_
  refine xc_Mv hw (va_runV (As := []) (rest := []) S (c_X3_payStrikers l D cy ad n σ _) (cwV 0 S.2.2.2.2 gX3_endDay_X3_payStrikers rfl rfl rfl (by decide +kernel) ⟨Nat.le_of_ble_eq_true rfl, Nat.le_of_ble_eq_true rfl⟩) (xc_preV (cX_ok _ _) hX hw (k_0 n) (cE_0 _ _ _ _) rfl rfl) rfl rfl hl.1 rfl (lv_room (Nat.le_of_ble_eq_true rfl)) dX3_endDay_1 ⟨Nat.le_of_ble_eq_true rfl, Nat.le_of_ble_eq_true rfl⟩) (fun u H locs hp hw => ?_)
  obtain rfl := hp
  refine lv_aload_n hx hb dX3_endDay_4 rfl (lv_at hl 0 rfl) ?_
  refine xr_get S hw (j := 5) (k_0 n) (cE_0 _ _ _ _) rfl inX3_endDay_X3 (by decide) (hts (.fieldLink RX3 38 "UnionOffice" "today" "I") (by decide +kernel)) rfl dX3_endDay_5 ?_
  refine lv_bipush (v := 30) hx hb dX3_endDay_8 (by decide) ?_
  refine lv_irem hx hb dX3_endDay_10 (by decide) ?_
  refine lv_bipush (v := 29) hx hb dX3_endDay_11 (by decide) ?_
  refine lv_icmp_ne (tgt := 27) hx hb dX3_endDay_13 (by decide) (fun c1 => ?_) (fun c1 => ?_)
  · have e2 : ed2 σ n = strF σ n 16 := if_neg c1
    rw [← e2] at hw
    refine lv_aload_n hx hb dX3_endDay_27 rfl (lv_at hl 0 rfl) ?_
    refine lv_dup hx hb dX3_endDay_28 rfl ?_
    refine xr_get S hw (j := 5) (k_0 n) (cE_0 _ _ _ _) rfl inX3_endDay_X3 (by decide) (hts (.fieldLink RX3 38 "UnionOffice" "today" "I") (by decide +kernel)) rfl dX3_endDay_29 ?_
    refine lv_iconst (v := 1) hx hb dX3_endDay_32 (by decide) ?_
    refine lv_iadd hx hb dX3_endDay_33 ?_
    obtain ⟨σ1, hσ1⟩ : ∃ y : S3, y = su (ed2 σ n) 18 0 0 (((ed2 σ n) 18 0 0) + 1) := ⟨_, rfl⟩
    refine xr_put S hw tyX3 tyX3_ok nmX3 (j := 5) (k_0 n) (cE_0 _ _ _ _) rfl inX3_endDay_X3 (by decide) (hts (.fieldLink RX3 38 "UnionOffice" "today" "I") (by decide +kernel)) rfl (tyX3_ok 5 (by decide)) rfl rfl (Nat.le_of_ble_eq_true rfl) dX3_endDay_34 (cE cy ad n σ1) (by rw [hσ1]; exact up_today _ _ _ _  _) (fun H locs hw => ?_)
    refine lv_aload_n hx hb dX3_endDay_37 rfl (lv_at hl 0 rfl) ?_
    refine xr_get S hw (j := 5) (k_0 n) (cE_0 _ _ _ _) rfl inX3_endDay_X3 (by decide) (hts (.fieldLink RX3 38 "UnionOffice" "today" "I") (by decide +kernel)) rfl dX3_endDay_38 ?_
    refine lv_sipush (v := 360) hx hb dX3_endDay_41 (by decide) ?_
    refine lv_irem hx hb dX3_endDay_44 (by decide) ?_
    refine lv_if_ne (tgt := 52) hx hb dX3_endDay_45 (by decide) (fun c2 => ?_) (fun c2 => ?_)
    · exact xe_v S.1 S.2.1 hr hlocks hw (by
            have e3 : ed3 σ n = σ1 := hσ1.symm
            rw [← e3] at c2
            rw [← e3]; exact (if_neg c2).symm) (Nat.le_of_ble_eq_true rfl) (Nat.le_of_ble_eq_true rfl) dX3_endDay_52
    · refine lv_aload_n hx hb dX3_endDay_48 rfl (lv_at hl 0 rfl) ?_
      refine xc_Mv hw (va_runV (As := []) (rest := []) S (c_X3_countDelegates l D cy ad n σ1 _) (cwV 0 S.2.2.2.2 gX3_endDay_X3_countDelegates rfl rfl rfl (by decide +kernel) ⟨Nat.le_of_ble_eq_true rfl, Nat.le_of_ble_eq_true rfl⟩) (xc_preV (cX_ok _ _) hX hw (k_0 n) (cE_0 _ _ _ _) rfl rfl) rfl rfl hl.1 rfl (lv_room (Nat.le_of_ble_eq_true rfl)) dX3_endDay_49 ⟨Nat.le_of_ble_eq_true rfl, Nat.le_of_ble_eq_true rfl⟩) (fun u H locs hp hw => ?_)
      obtain rfl := hp
      exact xe_v S.1 S.2.1 hr hlocks hw (by
            have e3 : ed3 σ n = σ1 := hσ1.symm
            rw [← e3] at c2
            rw [← e3]; exact (if_pos c2).symm) (Nat.le_of_ble_eq_true rfl) (Nat.le_of_ble_eq_true rfl) dX3_endDay_52
  · refine lv_aload_n hx hb dX3_endDay_16 rfl (lv_at hl 0 rfl) ?_
    refine lv_aload_n hx hb dX3_endDay_17 rfl (lv_at hl 0 rfl) ?_
    refine xr_get S hw (j := 5) (k_0 n) (cE_0 _ _ _ _) rfl inX3_endDay_X3 (by decide) (hts (.fieldLink RX3 38 "UnionOffice" "today" "I") (by decide +kernel)) rfl dX3_endDay_18 ?_
    refine lv_bipush (v := 30) hx hb dX3_endDay_21 (by decide) ?_
    refine lv_idiv hx hb dX3_endDay_23 (by decide) ?_
    refine xc_Mv hw (va_runV (As := [.int (((strF σ n 16) 18 0 0) / 30)]) (rest := []) S (c_X3_chargeDues l D cy ad n (strF σ n 16) (((strF σ n 16) 18 0 0) / 30) _) (cwV 1 S.2.2.2.2 gX3_endDay_X3_chargeDues rfl rfl rfl (by decide +kernel) ⟨Nat.le_of_ble_eq_true rfl, Nat.le_of_ble_eq_true rfl⟩) (xc_preV (cX_ok _ _) hX hw (k_0 n) (cE_0 _ _ _ _) rfl rfl) rfl rfl hl.1 rfl (lv_room (Nat.le_of_ble_eq_true rfl)) dX3_endDay_24 ⟨Nat.le_of_ble_eq_true rfl, Nat.le_of_ble_eq_true rfl⟩) (fun u H locs hp hw => ?_)
    obtain rfl := hp
    have e2 : ed2 σ n = cdF (strF σ n 16) n (((strF σ n 16) 18 0 0) / 30) 16 := if_pos c1
    rw [← e2] at hw
    refine lv_aload_n hx hb dX3_endDay_27 rfl (lv_at hl 0 rfl) ?_
    refine lv_dup hx hb dX3_endDay_28 rfl ?_
    refine xr_get S hw (j := 5) (k_0 n) (cE_0 _ _ _ _) rfl inX3_endDay_X3 (by decide) (hts (.fieldLink RX3 38 "UnionOffice" "today" "I") (by decide +kernel)) rfl dX3_endDay_29 ?_
    refine lv_iconst (v := 1) hx hb dX3_endDay_32 (by decide) ?_
    refine lv_iadd hx hb dX3_endDay_33 ?_
    obtain ⟨σ2, hσ2⟩ : ∃ y : S3, y = su (ed2 σ n) 18 0 0 (((ed2 σ n) 18 0 0) + 1) := ⟨_, rfl⟩
    refine xr_put S hw tyX3 tyX3_ok nmX3 (j := 5) (k_0 n) (cE_0 _ _ _ _) rfl inX3_endDay_X3 (by decide) (hts (.fieldLink RX3 38 "UnionOffice" "today" "I") (by decide +kernel)) rfl (tyX3_ok 5 (by decide)) rfl rfl (Nat.le_of_ble_eq_true rfl) dX3_endDay_34 (cE cy ad n σ2) (by rw [hσ2]; exact up_today _ _ _ _  _) (fun H locs hw => ?_)
    refine lv_aload_n hx hb dX3_endDay_37 rfl (lv_at hl 0 rfl) ?_
    refine xr_get S hw (j := 5) (k_0 n) (cE_0 _ _ _ _) rfl inX3_endDay_X3 (by decide) (hts (.fieldLink RX3 38 "UnionOffice" "today" "I") (by decide +kernel)) rfl dX3_endDay_38 ?_
    refine lv_sipush (v := 360) hx hb dX3_endDay_41 (by decide) ?_
    refine lv_irem hx hb dX3_endDay_44 (by decide) ?_
    refine lv_if_ne (tgt := 52) hx hb dX3_endDay_45 (by decide) (fun c3 => ?_) (fun c3 => ?_)
    · exact xe_v S.1 S.2.1 hr hlocks hw (by
            have e3 : ed3 σ n = σ2 := hσ2.symm
            rw [← e3] at c3
            rw [← e3]; exact (if_neg c3).symm) (Nat.le_of_ble_eq_true rfl) (Nat.le_of_ble_eq_true rfl) dX3_endDay_52
    · refine lv_aload_n hx hb dX3_endDay_48 rfl (lv_at hl 0 rfl) ?_
      refine xc_Mv hw (va_runV (As := []) (rest := []) S (c_X3_countDelegates l D cy ad n σ2 _) (cwV 0 S.2.2.2.2 gX3_endDay_X3_countDelegates rfl rfl rfl (by decide +kernel) ⟨Nat.le_of_ble_eq_true rfl, Nat.le_of_ble_eq_true rfl⟩) (xc_preV (cX_ok _ _) hX hw (k_0 n) (cE_0 _ _ _ _) rfl rfl) rfl rfl hl.1 rfl (lv_room (Nat.le_of_ble_eq_true rfl)) dX3_endDay_49 ⟨Nat.le_of_ble_eq_true rfl, Nat.le_of_ble_eq_true rfl⟩) (fun u H locs hp hw => ?_)
      obtain rfl := hp
      exact xe_v S.1 S.2.1 hr hlocks hw (by
            have e3 : ed3 σ n = σ2 := hσ2.symm
            rw [← e3] at c3
            rw [← e3]; exact (if_pos c3).symm) (Nat.le_of_ble_eq_true rfl) (Nat.le_of_ble_eq_true rfl) dX3_endDay_52
end
section
/-! ===== UnionOffice: the public methods ===== -/
abbrev e1 (E1 : String) (P : Prop) : String → Prop := fun E9 => E9 = E1 ∧ ¬ P
abbrev e2 (E1 E2 : String) (P P2 : Prop) : String → Prop := fun E9 => (E9 = E1 ∧ ¬ P) ∨ (E9 = E2 ∧ P ∧ ¬ P2)
theorem stI_01 (σ : S3) (i : Nat) (d : Int32) : stI σ i d = 0 ∨ stI σ i d = 1 := by
  unfold stI
  split
  · exact Or.inr rfl
  · exact Or.inl rfl
theorem fo_lt (σ : S3) : fo σ < 2 ^ 31 := by
  have h := Int32.toInt_lt (σ 20 0 0)
  unfold fo Int32.toNatClampNeg
  omega
def payF (σ : S3) (i : Nat) (a : Int32) : S3 := su (takeF σ i a).1 19 0 0 (σ 19 0 0 + (takeF σ i a).2)
def edN (σ : S3) (n : Nat) : Nat → S3
  | 0 => σ
  | k + 1 => edF (edN σ n k) n
def flF (σ : S3) (f : Nat) : Nat → Int32
  | 0 => 0
  | k + 1 => flF σ f k + slF σ (f + k) 4
abbrev opP (σ : S3) (b : Nat) : Prop := σ 10 b 0 = 0 ∧ σ 14 b 0 = 0
abbrev voP (σ : S3) (i : Nat) : Prop := ¬ σ 10 (br σ i) 0 = 0 ∧ Stands σ i (σ 18 0 0) ∧ hvI σ (br σ i) i = 0
abbrev skP (σ : S3) (b : Nat) (y : Int32) : Prop := (y = 0 ∧ ¬ σ 14 b 0 = 0) ∨ (¬ y = 0 ∧ ¬ coI σ b = 0)
theorem hv_0 {σ : S3} {b i : Nat} (h : ¬ hvI σ b i = 0) : ¬ (hvI σ b i = 0) := h
abbrev rmX3_setDues : Room := { frames := 7, cells := 2, slots := 12, locals := 107 }
theorem inX3_setDues_X0 : (∀ w ∈ wsX00, w ∈ wsX3_setDues) := by decide +kernel
set_option maxHeartbeats 1000000 in
set_option maxRecDepth 100000 in
/-- setDues -/
theorem c_X3_setDues (l : Launch) (hl9 : l.stackTraces = false) (D : va_G) (cy : Nat → ClassId) (ad : Nat → Nat) (n : Nat) (σ : S3) (x0 x1 : Int32) : CT l yX3_setDues wsX3_setDues rmX3_setDues D cy ad n [.ref (ad 0), .int x0, .int x1] σ (xPi fun r u => inI x0 3 ∧ rgI x1 0 100000 ∧ r = σ 0 x0.toNatClampNeg 0 ∧ u = su σ 0 x0.toNatClampNeg 0 x1) (e2 xIO xIA (inI x0 3) (rgI x1 0 100000)) := by
  refine xs_T (cc := cX3_setDues) (maxL := 5) (ret := (some .int)) (by decide +kernel) rfl (Nat.le_of_ble_eq_true rfl) ?_
  intro p e s m below meth c ls S hr hlocks htb hw hX hl
  have S : CallFix p m c cX3_setDues 5 s [.ref (ad 0), .int x0, .int x1].toArray wsX3_setDues RX3 := S
  have hx := S.1
  have hb := S.2.1
  have hts := S.2.2.2.2
  have htr := hl9
  have hl : lv_has ls 5 [(0, .ref (ad 0)), (1, .int x0), (2, .int x1)] := hl
  refine lv_aload_n hx hb dX3_setDues_0 rfl (lv_at hl 0 rfl) ?_
  refine lv_iload_n hx hb dX3_setDues_1 rfl (lv_at hl 1 rfl) ?_
  refine xc_T htb hlocks hw (vx_runV (As := [.int x0]) (rest := []) S (c_X3_bandAt l htr D cy ad n σ x0 _) (cwV 1 S.2.2.2.2 gX3_setDues_X3_bandAt rfl rfl rfl (by decide +kernel) ⟨Nat.le_of_ble_eq_true rfl, Nat.le_of_ble_eq_true rfl⟩) (xc_preV (cX_ok _ _) hX hw (k_0 n) (cE_0 _ _ _ _) rfl rfl) rfl rfl hl.1 rfl (lv_room (Nat.le_of_ble_eq_true rfl)) dX3_setDues_2 ⟨Nat.le_of_ble_eq_true rfl, Nat.le_of_ble_eq_true rfl⟩) (fun _ he => Or.inl he) (Nat.le_of_ble_eq_true rfl) (Nat.le_of_ble_eq_true rfl) (fun v9 u H locs hp hw => ?_)
  obtain ⟨_, rfl, hu9, hin1, rfl⟩ := hp
  rw [hu9] at hw
  clear hu9
  refine lv_astore_n (lv' := [(3, .ref (ad (4 + x0.toNatClampNeg))), (0, .ref (ad 0)), (1, .int x0), (2, .int x1)]) hx hb dX3_setDues_5 rfl hl (by decide) rfl (fun ls hl => ?_)
  refine lv_aload_n hx hb dX3_setDues_6 rfl (lv_at hl 1 rfl) ?_
  refine lv_iload_n hx hb dX3_setDues_7 rfl (lv_at hl 3 rfl) ?_
  refine lv_iconst (v := 0) hx hb dX3_setDues_8 (by decide) ?_
  refine lv_ldc hx hb S.2.2.2.1 (hts (.constant RX3 51 (100000)) (by decide +kernel)) dX3_setDues_9 ?_
  refine xc_T htb hlocks hw (vx_runV (As := [.int x1, .int 0, .int 100000]) (rest := []) S (c_X3_checkRange l htr D cy ad n σ x1 0 100000 _) (cwV 3 S.2.2.2.2 gX3_setDues_X3_checkRange rfl rfl rfl (by decide +kernel) ⟨Nat.le_of_ble_eq_true rfl, Nat.le_of_ble_eq_true rfl⟩) (xc_preV (cX_ok _ _) hX hw (k_0 n) (cE_0 _ _ _ _) rfl rfl) rfl rfl hl.1 rfl (lv_room (Nat.le_of_ble_eq_true rfl)) dX3_setDues_11 ⟨Nat.le_of_ble_eq_true rfl, Nat.le_of_ble_eq_true rfl⟩) (fun _ he => Or.inr ⟨he.1, hin1, he.2⟩) (Nat.le_of_ble_eq_true rfl) (Nat.le_of_ble_eq_true rfl) (fun v9 u H locs hp hw => ?_)
  obtain ⟨rfl, hu9, hrg1⟩ := hp
  rw [hu9] at hw
  clear hu9
  refine lv_aload_n hx hb dX3_setDues_14 rfl (lv_at hl 0 rfl) ?_
  refine xr_getN S hw (j := 0) (k_band n hin1.2) (cE_band _ _ _ _ hin1.2) rfl inX3_setDues_X0 (by decide) (hX.1.w (w := .fieldLinkNest RX3 56 "UnionOffice$Band" "monthlyDues" "I" "UnionOffice") (by decide +kernel)) rfl dX3_setDues_15 ?_
  refine lv_istore (lv' := [(4, .int (σ 0 x0.toNatClampNeg 0)), (3, .ref (ad (4 + x0.toNatClampNeg))), (0, .ref (ad 0)), (1, .int x0), (2, .int x1)]) hx hb dX3_setDues_18 hl (by decide) rfl (fun ls hl => ?_)
  refine lv_aload_n hx hb dX3_setDues_20 rfl (lv_at hl 1 rfl) ?_
  refine lv_iload_n hx hb dX3_setDues_21 rfl (lv_at hl 4 rfl) ?_
  obtain ⟨σ1, hσ1⟩ : ∃ y : S3, y = su σ 0 x0.toNatClampNeg 0 x1 := ⟨_, rfl⟩
  refine xr_putN S hw tyX0 tyX0_ok nmX0 (j := 0) (k_band n hin1.2) (cE_band _ _ _ _ hin1.2) rfl inX3_setDues_X0 (by decide) (hX.1.w (w := .fieldLinkNest RX3 56 "UnionOffice$Band" "monthlyDues" "I" "UnionOffice") (by decide +kernel)) rfl (tyX0_ok 0 (by decide)) rfl rfl (Nat.le_of_ble_eq_true rfl) dX3_setDues_22 (cE cy ad n σ1) (by rw [hσ1]; exact up_dues _ _ _ _ hin1.2 _) (fun H locs hw => ?_)
  refine lv_iload hx hb dX3_setDues_25 (lv_at hl 0 rfl) ?_
  exact vx_ret (xe_i S.1 S.2.1 hr hlocks hw (⟨hin1, hrg1, rfl, hσ1⟩) (Nat.le_of_ble_eq_true rfl) (Nat.le_of_ble_eq_true rfl) dX3_setDues_27)
abbrev rmX3_setStrikePay : Room := { frames := 7, cells := 1, slots := 6, locals := 107 }
theorem inX3_setStrikePay_X3 : (∀ w ∈ wsX30, w ∈ wsX3_setStrikePay) := by decide +kernel
set_option maxHeartbeats 1000000 in
set_option maxRecDepth 100000 in
/-- setStrikePay -/
theorem c_X3_setStrikePay (l : Launch) (hl9 : l.stackTraces = false) (D : va_G) (cy : Nat → ClassId) (ad : Nat → Nat) (n : Nat) (σ : S3) (x0 : Int32) : CT l yX3_setStrikePay wsX3_setStrikePay rmX3_setStrikePay D cy ad n [.ref (ad 0), .int x0] σ (xPi fun r u => rgI x0 0 100000 ∧ r = σ 17 0 0 ∧ u = su σ 17 0 0 x0) (e1 xIA (rgI x0 0 100000)) := by
  refine xs_T (cc := cX3_setStrikePay) (maxL := 3) (ret := (some .int)) (by decide +kernel) rfl (Nat.le_of_ble_eq_true rfl) ?_
  intro p e s m below meth c ls S hr hlocks htb hw hX hl
  have S : CallFix p m c cX3_setStrikePay 3 s [.ref (ad 0), .int x0].toArray wsX3_setStrikePay RX3 := S
  have hx := S.1
  have hb := S.2.1
  have hts := S.2.2.2.2
  have htr := hl9
  have hl : lv_has ls 3 [(0, .ref (ad 0)), (1, .int x0)] := hl
  refine lv_aload_n hx hb dX3_setStrikePay_0 rfl (lv_at hl 0 rfl) ?_
  refine lv_iload_n hx hb dX3_setStrikePay_1 rfl (lv_at hl 1 rfl) ?_
  refine lv_iconst (v := 0) hx hb dX3_setStrikePay_2 (by decide) ?_
  refine lv_ldc hx hb S.2.2.2.1 (hts (.constant RX3 51 (100000)) (by decide +kernel)) dX3_setStrikePay_3 ?_
  refine xc_T htb hlocks hw (vx_runV (As := [.int x0, .int 0, .int 100000]) (rest := []) S (c_X3_checkRange l htr D cy ad n σ x0 0 100000 _) (cwV 3 S.2.2.2.2 gX3_setStrikePay_X3_checkRange rfl rfl rfl (by decide +kernel) ⟨Nat.le_of_ble_eq_true rfl, Nat.le_of_ble_eq_true rfl⟩) (xc_preV (cX_ok _ _) hX hw (k_0 n) (cE_0 _ _ _ _) rfl rfl) rfl rfl hl.1 rfl (lv_room (Nat.le_of_ble_eq_true rfl)) dX3_setStrikePay_5 ⟨Nat.le_of_ble_eq_true rfl, Nat.le_of_ble_eq_true rfl⟩) (fun _ he => he) (Nat.le_of_ble_eq_true rfl) (Nat.le_of_ble_eq_true rfl) (fun v9 u H locs hp hw => ?_)
  obtain ⟨rfl, hu9, hrg1⟩ := hp
  rw [hu9] at hw
  clear hu9
  refine lv_aload_n hx hb dX3_setStrikePay_8 rfl (lv_at hl 0 rfl) ?_
  refine xr_get S hw (j := 4) (k_0 n) (cE_0 _ _ _ _) rfl inX3_setStrikePay_X3 (by decide) (hts (.fieldLink RX3 35 "UnionOffice" "payOfStrikeDay" "I") (by decide +kernel)) rfl dX3_setStrikePay_9 ?_
  refine lv_istore_n (lv' := [(2, .int (σ 17 0 0)), (0, .ref (ad 0)), (1, .int x0)]) hx hb dX3_setStrikePay_12 rfl hl (by decide) rfl (fun ls hl => ?_)
  refine lv_aload_n hx hb dX3_setStrikePay_13 rfl (lv_at hl 1 rfl) ?_
  refine lv_iload_n hx hb dX3_setStrikePay_14 rfl (lv_at hl 2 rfl) ?_
  obtain ⟨σ1, hσ1⟩ : ∃ y : S3, y = su σ 17 0 0 x0 := ⟨_, rfl⟩
  refine xr_put S hw tyX3 tyX3_ok nmX3 (j := 4) (k_0 n) (cE_0 _ _ _ _) rfl inX3_setStrikePay_X3 (by decide) (hts (.fieldLink RX3 35 "UnionOffice" "payOfStrikeDay" "I") (by decide +kernel)) rfl (tyX3_ok 4 (by decide)) rfl rfl (Nat.le_of_ble_eq_true rfl) dX3_setStrikePay_15 (cE cy ad n σ1) (by rw [hσ1]; exact up_pay _ _ _ _  _) (fun H locs hw => ?_)
  refine lv_iload_n hx hb dX3_setStrikePay_18 rfl (lv_at hl 0 rfl) ?_
  exact vx_ret (xe_i S.1 S.2.1 hr hlocks hw (⟨hrg1, rfl, hσ1⟩) (Nat.le_of_ble_eq_true rfl) (Nat.le_of_ble_eq_true rfl) dX3_setStrikePay_19)
abbrev rmX3_move : Room := { frames := 7, cells := 4, slots := 24, locals := 105 }
theorem inX3_move_X2 : (∀ w ∈ wsX20, w ∈ wsX3_move) := by decide +kernel
set_option maxHeartbeats 1000000 in
set_option maxRecDepth 100000 in
/-- move -/
theorem c_X3_move (l : Launch) (hl9 : l.stackTraces = false) (D : va_G) (cy : Nat → ClassId) (ad : Nat → Nat) (n : Nat) (σ : S3) (hn : n ≤ 16) (x0 x1 x2 : Int32) : CT l yX3_move wsX3_move rmX3_move D cy ad n [.ref (ad 0), .int x0, .int x1, .int x2] σ (xPv fun u => (inI x0 n ∧ inI x1 4 ∧ inI x2 3) ∧ σ 3 x0.toNatClampNeg 0 = 0 ∧ u = su (su σ 1 x0.toNatClampNeg 0 (nI x1.toNatClampNeg)) 2 x0.toNatClampNeg 0 (nI x2.toNatClampNeg)) (e2 xIO xIS (inI x0 n ∧ inI x1 4 ∧ inI x2 3) (σ 3 x0.toNatClampNeg 0 = 0)) := by
  refine xs_T (cc := cX3_move) (maxL := 7) (ret := none) (by decide +kernel) rfl (Nat.le_of_ble_eq_true rfl) ?_
  intro p e s m below meth c ls S hr hlocks htb hw hX hl
  have S : CallFix p m c cX3_move 7 s [.ref (ad 0), .int x0, .int x1, .int x2].toArray wsX3_move RX3 := S
  have hx := S.1
  have hb := S.2.1
  have hts := S.2.2.2.2
  have htr := hl9
  have hl : lv_has ls 7 [(0, .ref (ad 0)), (1, .int x0), (2, .int x1), (3, .int x2)] := hl
  refine lv_aload_n hx hb dX3_move_0 rfl (lv_at hl 0 rfl) ?_
  refine lv_iload_n hx hb dX3_move_1 rfl (lv_at hl 1 rfl) ?_
  refine xc_T htb hlocks hw (vx_runV (As := [.int x0]) (rest := []) S (c_X3_memberAt l htr D cy ad n σ hn x0 _) (cwV 1 S.2.2.2.2 gX3_move_X3_memberAt rfl rfl rfl (by decide +kernel) ⟨Nat.le_of_ble_eq_true rfl, Nat.le_of_ble_eq_true rfl⟩) (xc_preV (cX_ok _ _) hX hw (k_0 n) (cE_0 _ _ _ _) rfl rfl) rfl rfl hl.1 rfl (lv_room (Nat.le_of_ble_eq_true rfl)) dX3_move_2 ⟨Nat.le_of_ble_eq_true rfl, Nat.le_of_ble_eq_true rfl⟩) (fun _ he => Or.inl ⟨he.1, fun h => he.2 h.1⟩) (Nat.le_of_ble_eq_true rfl) (Nat.le_of_ble_eq_true rfl) (fun v9 u H locs hp hw => ?_)
  obtain ⟨_, rfl, hu9, hin1, rfl⟩ := hp
  rw [hu9] at hw
  clear hu9
  refine lv_astore (lv' := [(4, .ref (ad (15 + 3 * x0.toNatClampNeg))), (0, .ref (ad 0)), (1, .int x0), (2, .int x1), (3, .int x2)]) hx hb dX3_move_5 hl (by decide) rfl (fun ls hl => ?_)
  refine lv_aload_n hx hb dX3_move_7 rfl (lv_at hl 1 rfl) ?_
  refine lv_iload_n hx hb dX3_move_8 rfl (lv_at hl 3 rfl) ?_
  refine xc_T htb hlocks hw (vx_runV (As := [.int x1]) (rest := []) S (c_X3_branchAt l htr D cy ad n σ x1 _) (cwV 1 S.2.2.2.2 gX3_move_X3_branchAt rfl rfl rfl (by decide +kernel) ⟨Nat.le_of_ble_eq_true rfl, Nat.le_of_ble_eq_true rfl⟩) (xc_preV (cX_ok _ _) hX hw (k_0 n) (cE_0 _ _ _ _) rfl rfl) rfl rfl hl.1 rfl (lv_room (Nat.le_of_ble_eq_true rfl)) dX3_move_9 ⟨Nat.le_of_ble_eq_true rfl, Nat.le_of_ble_eq_true rfl⟩) (fun _ he => Or.inl ⟨he.1, fun h => he.2 h.2.1⟩) (Nat.le_of_ble_eq_true rfl) (Nat.le_of_ble_eq_true rfl) (fun v9 u H locs hp hw => ?_)
  obtain ⟨_, rfl, hu9, hin2, rfl⟩ := hp
  rw [hu9] at hw
  clear hu9
  refine lv_astore (lv' := [(5, .ref (ad (7 + x1.toNatClampNeg))), (4, .ref (ad (15 + 3 * x0.toNatClampNeg))), (0, .ref (ad 0)), (1, .int x0), (2, .int x1), (3, .int x2)]) hx hb dX3_move_12 hl (by decide) rfl (fun ls hl => ?_)
  refine lv_aload_n hx hb dX3_move_14 rfl (lv_at hl 2 rfl) ?_
  refine lv_iload_n hx hb dX3_move_15 rfl (lv_at hl 5 rfl) ?_
  refine xc_T htb hlocks hw (vx_runV (As := [.int x2]) (rest := []) S (c_X3_bandAt l htr D cy ad n σ x2 _) (cwV 1 S.2.2.2.2 gX3_move_X3_bandAt rfl rfl rfl (by decide +kernel) ⟨Nat.le_of_ble_eq_true rfl, Nat.le_of_ble_eq_true rfl⟩) (xc_preV (cX_ok _ _) hX hw (k_0 n) (cE_0 _ _ _ _) rfl rfl) rfl rfl hl.1 rfl (lv_room (Nat.le_of_ble_eq_true rfl)) dX3_move_16 ⟨Nat.le_of_ble_eq_true rfl, Nat.le_of_ble_eq_true rfl⟩) (fun _ he => Or.inl ⟨he.1, fun h => he.2 h.2.2⟩) (Nat.le_of_ble_eq_true rfl) (Nat.le_of_ble_eq_true rfl) (fun v9 u H locs hp hw => ?_)
  obtain ⟨_, rfl, hu9, hin3, rfl⟩ := hp
  rw [hu9] at hw
  clear hu9
  refine lv_astore (lv' := [(6, .ref (ad (4 + x2.toNatClampNeg))), (5, .ref (ad (7 + x1.toNatClampNeg))), (4, .ref (ad (15 + 3 * x0.toNatClampNeg))), (0, .ref (ad 0)), (1, .int x0), (2, .int x1), (3, .int x2)]) hx hb dX3_move_19 hl (by decide) rfl (fun ls hl => ?_)
  refine lv_aload_n hx hb dX3_move_21 rfl (lv_at hl 3 rfl) ?_
  refine lv_aload hx hb dX3_move_22 (lv_at hl 2 rfl) ?_
  refine xc_T htb hlocks hw (vx_runV (As := [.ref (ad (15 + 3 * x0.toNatClampNeg))]) (rest := []) S (c_X3_checkNotLeft l htr D cy ad n σ x0.toNatClampNeg hin1.2 _) (cwV 1 S.2.2.2.2 gX3_move_X3_checkNotLeft rfl rfl rfl (by decide +kernel) ⟨Nat.le_of_ble_eq_true rfl, Nat.le_of_ble_eq_true rfl⟩) (xc_preV (cX_ok _ _) hX hw (k_0 n) (cE_0 _ _ _ _) rfl rfl) rfl rfl hl.1 rfl (lv_room (Nat.le_of_ble_eq_true rfl)) dX3_move_24 ⟨Nat.le_of_ble_eq_true rfl, Nat.le_of_ble_eq_true rfl⟩) (fun _ he => Or.inr ⟨he.1, ⟨hin1, hin2, hin3⟩, he.2⟩) (Nat.le_of_ble_eq_true rfl) (Nat.le_of_ble_eq_true rfl) (fun v9 u H locs hp hw => ?_)
  obtain ⟨rfl, hu9, hnl1⟩ := hp
  rw [hu9] at hw
  clear hu9
  refine lv_aload hx hb dX3_move_27 (lv_at hl 2 rfl) ?_
  refine lv_aload hx hb dX3_move_29 (lv_at hl 1 rfl) ?_
  obtain ⟨σ1, hσ1⟩ : ∃ y : S3, y = su σ 1 x0.toNatClampNeg 0 (nI x1.toNatClampNeg) := ⟨_, rfl⟩
  refine xr_putN S hw tyX2 tyX2_ok nmX2 (j := 3) (k_m hin1.2) (cE_m _ _ _ _ _) rfl inX3_move_X2 (by decide) (hX.1.w (w := .fieldLinkNest RX3 81 "UnionOffice$Member" "branch" "LUnionOffice$Branch;" "UnionOffice") (by decide +kernel)) rfl (tyX2_ok 3 (by decide)) rfl rfl (Nat.le_of_ble_eq_true rfl) dX3_move_31 (cE cy ad n σ1) (by rw [hσ1]; exact up_mbr _ _ _ _ x0.toNatClampNeg hin2.2) (fun H locs hw => ?_)
  refine lv_aload hx hb dX3_move_34 (lv_at hl 2 rfl) ?_
  refine lv_aload hx hb dX3_move_36 (lv_at hl 0 rfl) ?_
  obtain ⟨σ2, hσ2⟩ : ∃ y : S3, y = su σ1 2 x0.toNatClampNeg 0 (nI x2.toNatClampNeg) := ⟨_, rfl⟩
  refine xr_putN S hw tyX2 tyX2_ok nmX2 (j := 4) (k_m hin1.2) (cE_m _ _ _ _ _) rfl inX3_move_X2 (by decide) (hX.1.w (w := .fieldLinkNest RX3 85 "UnionOffice$Member" "band" "LUnionOffice$Band;" "UnionOffice") (by decide +kernel)) rfl (tyX2_ok 4 (by decide)) rfl rfl (Nat.le_of_ble_eq_true rfl) dX3_move_38 (cE cy ad n σ2) (by rw [hσ2]; exact up_mbd _ _ _ _ x0.toNatClampNeg hin3.2) (fun H locs hw => ?_)
  exact vx_ret (xe_v S.1 S.2.1 hr hlocks hw (⟨⟨hin1, hin2, hin3⟩, hnl1, by rw [hσ2, hσ1]⟩) (Nat.le_of_ble_eq_true rfl) (Nat.le_of_ble_eq_true rfl) dX3_move_41)
abbrev rmX3_leave : Room := { frames := 7, cells := 2, slots := 12, locals := 105 }
theorem inX3_leave_X2 : (∀ w ∈ wsX20, w ∈ wsX3_leave) := by decide +kernel
set_option maxHeartbeats 1000000 in
set_option maxRecDepth 100000 in
/-- leave -/
theorem c_X3_leave (l : Launch) (hl9 : l.stackTraces = false) (D : va_G) (cy : Nat → ClassId) (ad : Nat → Nat) (n : Nat) (σ : S3) (hn : n ≤ 16) (h4 : ∀ i, i < n → σ 4 i 0 = 0 ∨ σ 4 i 0 = 1) (x0 x1 : Int32) (hz1 : x1 = 0 ∨ x1 = 1) : CT l yX3_leave wsX3_leave rmX3_leave D cy ad n [.ref (ad 0), .int x0, .int x1] σ (xPi fun r u => inI x0 n ∧ σ 3 x0.toNatClampNeg 0 = 0 ∧ r = σ 4 x0.toNatClampNeg 0 ∧ u = su σ 4 x0.toNatClampNeg 0 x1) (e2 xIO xIS (inI x0 n) (σ 3 x0.toNatClampNeg 0 = 0)) := by
  refine xs_T (cc := cX3_leave) (maxL := 5) (ret := (some .boolean)) (by decide +kernel) rfl (Nat.le_of_ble_eq_true rfl) ?_
  intro p e s m below meth c ls S hr hlocks htb hw hX hl
  have S : CallFix p m c cX3_leave 5 s [.ref (ad 0), .int x0, .int x1].toArray wsX3_leave RX3 := S
  have hx := S.1
  have hb := S.2.1
  have hts := S.2.2.2.2
  have htr := hl9
  have hl : lv_has ls 5 [(0, .ref (ad 0)), (1, .int x0), (2, .int x1)] := hl
  refine lv_aload_n hx hb dX3_leave_0 rfl (lv_at hl 0 rfl) ?_
  refine lv_iload_n hx hb dX3_leave_1 rfl (lv_at hl 1 rfl) ?_
  refine xc_T htb hlocks hw (vx_runV (As := [.int x0]) (rest := []) S (c_X3_memberAt l htr D cy ad n σ hn x0 _) (cwV 1 S.2.2.2.2 gX3_leave_X3_memberAt rfl rfl rfl (by decide +kernel) ⟨Nat.le_of_ble_eq_true rfl, Nat.le_of_ble_eq_true rfl⟩) (xc_preV (cX_ok _ _) hX hw (k_0 n) (cE_0 _ _ _ _) rfl rfl) rfl rfl hl.1 rfl (lv_room (Nat.le_of_ble_eq_true rfl)) dX3_leave_2 ⟨Nat.le_of_ble_eq_true rfl, Nat.le_of_ble_eq_true rfl⟩) (fun _ he => Or.inl he) (Nat.le_of_ble_eq_true rfl) (Nat.le_of_ble_eq_true rfl) (fun v9 u H locs hp hw => ?_)
  obtain ⟨_, rfl, hu9, hin1, rfl⟩ := hp
  rw [hu9] at hw
  clear hu9
  refine lv_astore_n (lv' := [(3, .ref (ad (15 + 3 * x0.toNatClampNeg))), (0, .ref (ad 0)), (1, .int x0), (2, .int x1)]) hx hb dX3_leave_5 rfl hl (by decide) rfl (fun ls hl => ?_)
  refine lv_aload_n hx hb dX3_leave_6 rfl (lv_at hl 1 rfl) ?_
  refine lv_aload_n hx hb dX3_leave_7 rfl (lv_at hl 0 rfl) ?_
  refine xc_T htb hlocks hw (vx_runV (As := [.ref (ad (15 + 3 * x0.toNatClampNeg))]) (rest := []) S (c_X3_checkNotLeft l htr D cy ad n σ x0.toNatClampNeg hin1.2 _) (cwV 1 S.2.2.2.2 gX3_leave_X3_checkNotLeft rfl rfl rfl (by decide +kernel) ⟨Nat.le_of_ble_eq_true rfl, Nat.le_of_ble_eq_true rfl⟩) (xc_preV (cX_ok _ _) hX hw (k_0 n) (cE_0 _ _ _ _) rfl rfl) rfl rfl hl.1 rfl (lv_room (Nat.le_of_ble_eq_true rfl)) dX3_leave_8 ⟨Nat.le_of_ble_eq_true rfl, Nat.le_of_ble_eq_true rfl⟩) (fun _ he => Or.inr ⟨he.1, hin1, he.2⟩) (Nat.le_of_ble_eq_true rfl) (Nat.le_of_ble_eq_true rfl) (fun v9 u H locs hp hw => ?_)
  obtain ⟨rfl, hu9, hnl1⟩ := hp
  rw [hu9] at hw
  clear hu9
  refine lv_aload_n hx hb dX3_leave_11 rfl (lv_at hl 0 rfl) ?_
  refine xr_getN S hw (j := 5) (k_m hin1.2) (cE_m _ _ _ _ _) rfl inX3_leave_X2 (by decide) (hX.1.w (w := .fieldLinkNest RX3 89 "UnionOffice$Member" "isOnLeave" "Z" "UnionOffice") (by decide +kernel)) rfl dX3_leave_12 ?_
  refine lv_istore (lv' := [(4, .int (σ 4 x0.toNatClampNeg 0)), (3, .ref (ad (15 + 3 * x0.toNatClampNeg))), (0, .ref (ad 0)), (1, .int x0), (2, .int x1)]) hx hb dX3_leave_15 hl (by decide) rfl (fun ls hl => ?_)
  refine lv_aload_n hx hb dX3_leave_17 rfl (lv_at hl 1 rfl) ?_
  refine lv_iload_n hx hb dX3_leave_18 rfl (lv_at hl 4 rfl) ?_
  obtain ⟨σ1, hσ1⟩ : ∃ y : S3, y = su σ 4 x0.toNatClampNeg 0 x1 := ⟨_, rfl⟩
  refine xr_putN S hw tyX2 tyX2_ok nmX2 (j := 5) (k_m hin1.2) (cE_m _ _ _ _ _) rfl inX3_leave_X2 (by decide) (hX.1.w (w := .fieldLinkNest RX3 89 "UnionOffice$Member" "isOnLeave" "Z" "UnionOffice") (by decide +kernel)) rfl (tyX2_ok 5 (by decide)) (nar_z hz1) (fit_z hz1) (Nat.le_of_ble_eq_true rfl) dX3_leave_19 (cE cy ad n σ1) (by rw [hσ1]; exact up_away _ _ _ _ x0.toNatClampNeg _) (fun H locs hw => ?_)
  refine lv_iload hx hb dX3_leave_22 (lv_at hl 0 rfl) ?_
  exact vx_ret (xe_z S.1 S.2.1 hr (h4 _ hin1.2) hlocks hw (⟨hin1, hnl1, rfl, hσ1⟩) (Nat.le_of_ble_eq_true rfl) (Nat.le_of_ble_eq_true rfl) dX3_leave_24)
abbrev rmX3_quit : Room := { frames := 7, cells := 2, slots := 12, locals := 105 }
theorem inX3_quit_X2 : (∀ w ∈ wsX20, w ∈ wsX3_quit) := by decide +kernel
set_option maxHeartbeats 1000000 in
set_option maxRecDepth 100000 in
/-- quit -/
theorem c_X3_quit (l : Launch) (hl9 : l.stackTraces = false) (D : va_G) (cy : Nat → ClassId) (ad : Nat → Nat) (n : Nat) (σ : S3) (hn : n ≤ 16) (x0 : Int32) : CT l yX3_quit wsX3_quit rmX3_quit D cy ad n [.ref (ad 0), .int x0] σ (xPi fun r u => inI x0 n ∧ σ 3 x0.toNatClampNeg 0 = 0 ∧ r = sOwed (su σ 3 x0.toNatClampNeg 0 1) x0.toNatClampNeg ∧ u = su σ 3 x0.toNatClampNeg 0 1) (e2 xIO xIS (inI x0 n) (σ 3 x0.toNatClampNeg 0 = 0)) := by
  refine xs_T (cc := cX3_quit) (maxL := 3) (ret := (some .int)) (by decide +kernel) rfl (Nat.le_of_ble_eq_true rfl) ?_
  intro p e s m below meth c ls S hr hlocks htb hw hX hl
  have S : CallFix p m c cX3_quit 3 s [.ref (ad 0), .int x0].toArray wsX3_quit RX3 := S
  have hx := S.1
  have hb := S.2.1
  have hts := S.2.2.2.2
  have htr := hl9
  have hl : lv_has ls 3 [(0, .ref (ad 0)), (1, .int x0)] := hl
  refine lv_aload_n hx hb dX3_quit_0 rfl (lv_at hl 0 rfl) ?_
  refine lv_iload_n hx hb dX3_quit_1 rfl (lv_at hl 1 rfl) ?_
  refine xc_T htb hlocks hw (vx_runV (As := [.int x0]) (rest := []) S (c_X3_memberAt l htr D cy ad n σ hn x0 _) (cwV 1 S.2.2.2.2 gX3_quit_X3_memberAt rfl rfl rfl (by decide +kernel) ⟨Nat.le_of_ble_eq_true rfl, Nat.le_of_ble_eq_true rfl⟩) (xc_preV (cX_ok _ _) hX hw (k_0 n) (cE_0 _ _ _ _) rfl rfl) rfl rfl hl.1 rfl (lv_room (Nat.le_of_ble_eq_true rfl)) dX3_quit_2 ⟨Nat.le_of_ble_eq_true rfl, Nat.le_of_ble_eq_true rfl⟩) (fun _ he => Or.inl he) (Nat.le_of_ble_eq_true rfl) (Nat.le_of_ble_eq_true rfl) (fun v9 u H locs hp hw => ?_)
  obtain ⟨_, rfl, hu9, hin1, rfl⟩ := hp
  rw [hu9] at hw
  clear hu9
  refine lv_astore_n (lv' := [(2, .ref (ad (15 + 3 * x0.toNatClampNeg))), (0, .ref (ad 0)), (1, .int x0)]) hx hb dX3_quit_5 rfl hl (by decide) rfl (fun ls hl => ?_)
  refine lv_aload_n hx hb dX3_quit_6 rfl (lv_at hl 1 rfl) ?_
  refine lv_aload_n hx hb dX3_quit_7 rfl (lv_at hl 0 rfl) ?_
  refine xc_T htb hlocks hw (vx_runV (As := [.ref (ad (15 + 3 * x0.toNatClampNeg))]) (rest := []) S (c_X3_checkNotLeft l htr D cy ad n σ x0.toNatClampNeg hin1.2 _) (cwV 1 S.2.2.2.2 gX3_quit_X3_checkNotLeft rfl rfl rfl (by decide +kernel) ⟨Nat.le_of_ble_eq_true rfl, Nat.le_of_ble_eq_true rfl⟩) (xc_preV (cX_ok _ _) hX hw (k_0 n) (cE_0 _ _ _ _) rfl rfl) rfl rfl hl.1 rfl (lv_room (Nat.le_of_ble_eq_true rfl)) dX3_quit_8 ⟨Nat.le_of_ble_eq_true rfl, Nat.le_of_ble_eq_true rfl⟩) (fun _ he => Or.inr ⟨he.1, hin1, he.2⟩) (Nat.le_of_ble_eq_true rfl) (Nat.le_of_ble_eq_true rfl) (fun v9 u H locs hp hw => ?_)
  obtain ⟨rfl, hu9, hnl1⟩ := hp
  rw [hu9] at hw
  clear hu9
  refine lv_aload_n hx hb dX3_quit_11 rfl (lv_at hl 0 rfl) ?_
  refine lv_iconst (v := 1) hx hb dX3_quit_12 (by decide) ?_
  obtain ⟨σ1, hσ1⟩ : ∃ y : S3, y = su σ 3 x0.toNatClampNeg 0 1 := ⟨_, rfl⟩
  refine xr_putN S hw tyX2 tyX2_ok nmX2 (j := 6) (k_m hin1.2) (cE_m _ _ _ _ _) rfl inX3_quit_X2 (by decide) (hX.1.w (w := .fieldLinkNest RX3 93 "UnionOffice$Member" "hasLeft" "Z" "UnionOffice") (by decide +kernel)) rfl (tyX2_ok 6 (by decide)) (nar_z (Or.inr rfl)) (fit_z (Or.inr rfl)) (Nat.le_of_ble_eq_true rfl) dX3_quit_13 (cE cy ad n σ1) (by rw [hσ1]; exact up_left _ _ _ _ x0.toNatClampNeg _) (fun H locs hw => ?_)
  refine lv_aload_n hx hb dX3_quit_16 rfl (lv_at hl 0 rfl) ?_
  refine xc_Mi hw (va_runVN (As := []) (rest := []) S (c_X2_sumOwed l D cy ad n σ1 x0.toNatClampNeg hin1.2 _) ⟨va_cnB 0 S.2.2.2.2 gX3_quit_X2_sumOwed_n96 rfl rfl rfl (hX.1.w (w := .methodLinkNest RX3 96 yX2_sumOwed "UnionOffice") (by decide +kernel)) (hts (.initialized RX2) (by decide +kernel)) (by decide +kernel) ⟨Nat.le_of_ble_eq_true rfl, Nat.le_of_ble_eq_true rfl⟩, hts (.instanceMethod yX2_sumOwed) (by decide +kernel), hts (.selects RX2 yX2_sumOwed yX2_sumOwed) (by decide +kernel)⟩ (xc_preV (cX_ok _ _) hX hw (k_m hin1.2) (cE_m _ _ _ _ _) rfl rfl) rfl rfl hl.1 rfl (lv_room (Nat.le_of_ble_eq_true rfl)) dX3_quit_17 ⟨Nat.le_of_ble_eq_true rfl, Nat.le_of_ble_eq_true rfl⟩) (fun r9 u H locs hp hw => ?_)
  obtain ⟨hu9, rfl⟩ := hp
  rw [hu9] at hw
  clear hu9
  exact vx_ret (xe_i S.1 S.2.1 hr hlocks hw (⟨hin1, hnl1, by rw [hσ1], hσ1⟩) (Nat.le_of_ble_eq_true rfl) (Nat.le_of_ble_eq_true rfl) dX3_quit_20)
abbrev rmX3_pay : Room := { frames := 7, cells := 2, slots := 12, locals := 107 }
theorem inX3_pay_X3 : (∀ w ∈ wsX30, w ∈ wsX3_pay) := by decide +kernel
set_option maxHeartbeats 1000000 in
set_option maxRecDepth 100000 in
/-- pay -/
theorem c_X3_pay (l : Launch) (hl9 : l.stackTraces = false) (D : va_G) (cy : Nat → ClassId) (ad : Nat → Nat) (n : Nat) (σ : S3) (hn : n ≤ 16) (x0 x1 : Int32) : CT l yX3_pay wsX3_pay rmX3_pay D cy ad n [.ref (ad 0), .int x0, .int x1] σ (xPi fun r u => inI x0 n ∧ rgI x1 1 1000000 ∧ r = sOwed (payF σ x0.toNatClampNeg x1) x0.toNatClampNeg ∧ u = payF σ x0.toNatClampNeg x1) (e2 xIO xIA (inI x0 n) (rgI x1 1 1000000)) := by
  refine xs_T (cc := cX3_pay) (maxL := 4) (ret := (some .int)) (by decide +kernel) rfl (Nat.le_of_ble_eq_true rfl) ?_
  intro p e s m below meth c ls S hr hlocks htb hw hX hl
  have S : CallFix p m c cX3_pay 4 s [.ref (ad 0), .int x0, .int x1].toArray wsX3_pay RX3 := S
  have hx := S.1
  have hb := S.2.1
  have hts := S.2.2.2.2
  have htr := hl9
  have hl : lv_has ls 4 [(0, .ref (ad 0)), (1, .int x0), (2, .int x1)] := hl
  refine lv_aload_n hx hb dX3_pay_0 rfl (lv_at hl 0 rfl) ?_
  refine lv_iload_n hx hb dX3_pay_1 rfl (lv_at hl 1 rfl) ?_
  refine xc_T htb hlocks hw (vx_runV (As := [.int x0]) (rest := []) S (c_X3_memberAt l htr D cy ad n σ hn x0 _) (cwV 1 S.2.2.2.2 gX3_pay_X3_memberAt rfl rfl rfl (by decide +kernel) ⟨Nat.le_of_ble_eq_true rfl, Nat.le_of_ble_eq_true rfl⟩) (xc_preV (cX_ok _ _) hX hw (k_0 n) (cE_0 _ _ _ _) rfl rfl) rfl rfl hl.1 rfl (lv_room (Nat.le_of_ble_eq_true rfl)) dX3_pay_2 ⟨Nat.le_of_ble_eq_true rfl, Nat.le_of_ble_eq_true rfl⟩) (fun _ he => Or.inl he) (Nat.le_of_ble_eq_true rfl) (Nat.le_of_ble_eq_true rfl) (fun v9 u H locs hp hw => ?_)
  obtain ⟨_, rfl, hu9, hin1, rfl⟩ := hp
  rw [hu9] at hw
  clear hu9
  refine lv_astore_n (lv' := [(3, .ref (ad (15 + 3 * x0.toNatClampNeg))), (0, .ref (ad 0)), (1, .int x0), (2, .int x1)]) hx hb dX3_pay_5 rfl hl (by decide) rfl (fun ls hl => ?_)
  refine lv_aload_n hx hb dX3_pay_6 rfl (lv_at hl 1 rfl) ?_
  refine lv_iload_n hx hb dX3_pay_7 rfl (lv_at hl 3 rfl) ?_
  refine lv_iconst (v := 1) hx hb dX3_pay_8 (by decide) ?_
  refine lv_ldc hx hb S.2.2.2.1 (hts (.constant RX3 100 (1000000)) (by decide +kernel)) dX3_pay_9 ?_
  refine xc_T htb hlocks hw (vx_runV (As := [.int x1, .int 1, .int 1000000]) (rest := []) S (c_X3_checkRange l htr D cy ad n σ x1 1 1000000 _) (cwV 3 S.2.2.2.2 gX3_pay_X3_checkRange rfl rfl rfl (by decide +kernel) ⟨Nat.le_of_ble_eq_true rfl, Nat.le_of_ble_eq_true rfl⟩) (xc_preV (cX_ok _ _) hX hw (k_0 n) (cE_0 _ _ _ _) rfl rfl) rfl rfl hl.1 rfl (lv_room (Nat.le_of_ble_eq_true rfl)) dX3_pay_11 ⟨Nat.le_of_ble_eq_true rfl, Nat.le_of_ble_eq_true rfl⟩) (fun _ he => Or.inr ⟨he.1, hin1, he.2⟩) (Nat.le_of_ble_eq_true rfl) (Nat.le_of_ble_eq_true rfl) (fun v9 u H locs hp hw => ?_)
  obtain ⟨rfl, hu9, hrg1⟩ := hp
  rw [hu9] at hw
  clear hu9
  refine lv_aload_n hx hb dX3_pay_14 rfl (lv_at hl 1 rfl) ?_
  refine lv_dup hx hb dX3_pay_15 rfl ?_
  refine xr_get S hw (j := 6) (k_0 n) (cE_0 _ _ _ _) rfl inX3_pay_X3 (by decide) (hts (.fieldLink RX3 41 "UnionOffice" "inFund" "I") (by decide +kernel)) rfl dX3_pay_16 ?_
  refine lv_aload_n hx hb dX3_pay_19 rfl (lv_at hl 0 rfl) ?_
  refine lv_iload_n hx hb dX3_pay_20 rfl (lv_at hl 3 rfl) ?_
  refine xc_Mi hw (va_runVN (As := [.int x1]) (rest := [.int (σ 19 0 0), .ref (ad 0)]) S (c_X2_takeIn l D cy ad n σ x0.toNatClampNeg hin1.2 x1 _) ⟨va_cnB 1 S.2.2.2.2 gX3_pay_X2_takeIn_n101 rfl rfl rfl (hX.1.w (w := .methodLinkNest RX3 101 yX2_takeIn "UnionOffice") (by decide +kernel)) (hts (.initialized RX2) (by decide +kernel)) (by decide +kernel) ⟨Nat.le_of_ble_eq_true rfl, Nat.le_of_ble_eq_true rfl⟩, hts (.instanceMethod yX2_takeIn) (by decide +kernel), hts (.selects RX2 yX2_takeIn yX2_takeIn) (by decide +kernel)⟩ (xc_preV (cX_ok _ _) hX hw (k_m hin1.2) (cE_m _ _ _ _ _) rfl rfl) rfl rfl hl.1 rfl (lv_room (Nat.le_of_ble_eq_true rfl)) dX3_pay_21 ⟨Nat.le_of_ble_eq_true rfl, Nat.le_of_ble_eq_true rfl⟩) (fun r9 u H locs hp hw => ?_)
  obtain ⟨rfl, rfl⟩ := hp
  refine lv_iadd hx hb dX3_pay_24 ?_
  obtain ⟨σ1, hσ1⟩ : ∃ y : S3, y = su ((takeF σ x0.toNatClampNeg x1).1) 19 0 0 ((σ 19 0 0) + ((takeF σ x0.toNatClampNeg x1).2)) := ⟨_, rfl⟩
  refine xr_put S hw tyX3 tyX3_ok nmX3 (j := 6) (k_0 n) (cE_0 _ _ _ _) rfl inX3_pay_X3 (by decide) (hts (.fieldLink RX3 41 "UnionOffice" "inFund" "I") (by decide +kernel)) rfl (tyX3_ok 6 (by decide)) rfl rfl (Nat.le_of_ble_eq_true rfl) dX3_pay_25 (cE cy ad n σ1) (by rw [hσ1]; exact up_fund _ _ _ _  _) (fun H locs hw => ?_)
  refine lv_aload_n hx hb dX3_pay_28 rfl (lv_at hl 0 rfl) ?_
  refine xc_Mi hw (va_runVN (As := []) (rest := []) S (c_X2_sumOwed l D cy ad n σ1 x0.toNatClampNeg hin1.2 _) ⟨va_cnB 0 S.2.2.2.2 gX3_pay_X2_sumOwed_n96 rfl rfl rfl (hX.1.w (w := .methodLinkNest RX3 96 yX2_sumOwed "UnionOffice") (by decide +kernel)) (hts (.initialized RX2) (by decide +kernel)) (by decide +kernel) ⟨Nat.le_of_ble_eq_true rfl, Nat.le_of_ble_eq_true rfl⟩, hts (.instanceMethod yX2_sumOwed) (by decide +kernel), hts (.selects RX2 yX2_sumOwed yX2_sumOwed) (by decide +kernel)⟩ (xc_preV (cX_ok _ _) hX hw (k_m hin1.2) (cE_m _ _ _ _ _) rfl rfl) rfl rfl hl.1 rfl (lv_room (Nat.le_of_ble_eq_true rfl)) dX3_pay_29 ⟨Nat.le_of_ble_eq_true rfl, Nat.le_of_ble_eq_true rfl⟩) (fun r9 u H locs hp hw => ?_)
  obtain ⟨hu9, rfl⟩ := hp
  rw [hu9] at hw
  clear hu9
  exact vx_ret (xe_i S.1 S.2.1 hr hlocks hw (⟨hin1, hrg1, by rw [hσ1]; rfl, hσ1⟩) (Nat.le_of_ble_eq_true rfl) (Nat.le_of_ble_eq_true rfl) dX3_pay_32)
abbrev rmX3_open : Room := { frames := 7, cells := 2, slots := 12, locals := 105 }
theorem inX3_open_X1 : (∀ w ∈ wsX10, w ∈ wsX3_open) := by decide +kernel
theorem inX3_open_xIS : (∀ w ∈ (vx_atS RX3 67 xIS nm2).filter goodWord, w ∈ wsX3_open) := by
  intro w h
  first | exact List.mem_cons_of_mem _ (List.mem_append_right _ h) | exact List.mem_cons_of_mem _ (List.mem_append_left _ (List.mem_append_right _ h)) | exact List.mem_cons_of_mem _ (List.mem_append_left _ (List.mem_append_left _ (List.mem_append_right _ h)))
theorem inX3_open_xIS1 : Cond.classLink RX3 63 xIS ∈ wsX3_open ∧ Cond.initialized xIS ∈ wsX3_open := ⟨by decide +kernel, by decide +kernel⟩
set_option maxHeartbeats 1000000 in
set_option maxRecDepth 100000 in
/-- open -/
theorem c_X3_open (l : Launch) (hl9 : l.stackTraces = false) (D : va_G) (cy : Nat → ClassId) (ad : Nat → Nat) (n : Nat) (σ : S3) (x0 : Int32) : CT l yX3_open wsX3_open rmX3_open D cy ad n [.ref (ad 0), .int x0] σ (xPi fun r u => inI x0 4 ∧ opP σ x0.toNatClampNeg ∧ r = cntF (bgF σ x0.toNatClampNeg) n x0.toNatClampNeg ((bgF σ x0.toNatClampNeg) 18 0 0) 16 ∧ u = bgF σ x0.toNatClampNeg) (e2 xIO xIS (inI x0 4) (opP σ x0.toNatClampNeg)) := by
  refine xs_T (cc := cX3_open) (maxL := 3) (ret := (some .int)) (by decide +kernel) rfl (Nat.le_of_ble_eq_true rfl) ?_
  intro p e s m below meth c ls S hr hlocks htb hw hX hl
  have S : CallFix p m c cX3_open 3 s [.ref (ad 0), .int x0].toArray wsX3_open RX3 := S
  have hx := S.1
  have hb := S.2.1
  have hts := S.2.2.2.2
  have htr := hl9
  have hl : lv_has ls 3 [(0, .ref (ad 0)), (1, .int x0)] := hl
  refine lv_aload_n hx hb dX3_open_0 rfl (lv_at hl 0 rfl) ?_
  refine lv_iload_n hx hb dX3_open_1 rfl (lv_at hl 1 rfl) ?_
  refine xc_T htb hlocks hw (vx_runV (As := [.int x0]) (rest := []) S (c_X3_branchAt l htr D cy ad n σ x0 _) (cwV 1 S.2.2.2.2 gX3_open_X3_branchAt rfl rfl rfl (by decide +kernel) ⟨Nat.le_of_ble_eq_true rfl, Nat.le_of_ble_eq_true rfl⟩) (xc_preV (cX_ok _ _) hX hw (k_0 n) (cE_0 _ _ _ _) rfl rfl) rfl rfl hl.1 rfl (lv_room (Nat.le_of_ble_eq_true rfl)) dX3_open_2 ⟨Nat.le_of_ble_eq_true rfl, Nat.le_of_ble_eq_true rfl⟩) (fun _ he => Or.inl he) (Nat.le_of_ble_eq_true rfl) (Nat.le_of_ble_eq_true rfl) (fun v9 u H locs hp hw => ?_)
  obtain ⟨_, rfl, hu9, hin1, rfl⟩ := hp
  rw [hu9] at hw
  clear hu9
  refine lv_astore_n (lv' := [(2, .ref (ad (7 + x0.toNatClampNeg))), (0, .ref (ad 0)), (1, .int x0)]) hx hb dX3_open_5 rfl hl (by decide) rfl (fun ls hl => ?_)
  refine lv_aload_n hx hb dX3_open_6 rfl (lv_at hl 0 rfl) ?_
  refine xr_getN S hw (j := 1) (k_br n hin1.2) (cE_br _ _ _ _ hin1.2) rfl inX3_open_X1 (by decide) (hX.1.w (w := .fieldLinkNest RX3 105 "UnionOffice$Branch" "hasBallot" "Z" "UnionOffice") (by decide +kernel)) rfl dX3_open_7 ?_
  refine lv_if_ne (tgt := 20) hx hb dX3_open_10 (by decide) (fun c1 => ?_) (fun c1 => ?_)
  · exact xt_throw (text := "the branch has a ballot or is on strike") S htr hlocks htb hw hX hl.1 (by decide +kernel) inX3_open_xIS1.1 inX3_open_xIS1.2 inX3_open_xIS tg_IS (by decide +kernel) dX3_open_20 dX3_open_23 dX3_open_24 dX3_open_26 dX3_open_29 (Nat.le_of_ble_eq_true rfl) (Nat.le_of_ble_eq_true rfl) (Nat.le_of_ble_eq_true rfl) (Nat.le_of_ble_eq_true rfl) (Or.inr ⟨rfl, hin1, fun h => c1 h.1⟩)
  · refine lv_aload_n hx hb dX3_open_13 rfl (lv_at hl 0 rfl) ?_
    refine xr_getN S hw (j := 5) (k_br n hin1.2) (cE_br _ _ _ _ hin1.2) rfl inX3_open_X1 (by decide) (hX.1.w (w := .fieldLinkNest RX3 108 "UnionOffice$Branch" "isOnStrike" "Z" "UnionOffice") (by decide +kernel)) rfl dX3_open_14 ?_
    refine lv_if_eq (tgt := 30) hx hb dX3_open_17 (by decide) (fun c2 => ?_) (fun c2 => ?_)
    · refine lv_aload_n hx hb dX3_open_30 rfl (lv_at hl 0 rfl) ?_
      refine xc_Mv hw (va_runVN (As := []) (rest := []) S (c_X1_beginBallot l D cy ad n σ x0.toNatClampNeg hin1.2 _) ⟨va_cnB 0 S.2.2.2.2 gX3_open_X1_beginBallot_n113 rfl rfl rfl (hX.1.w (w := .methodLinkNest RX3 113 yX1_beginBallot "UnionOffice") (by decide +kernel)) (hts (.initialized RX1) (by decide +kernel)) (by decide +kernel) ⟨Nat.le_of_ble_eq_true rfl, Nat.le_of_ble_eq_true rfl⟩, hts (.instanceMethod yX1_beginBallot) (by decide +kernel), hts (.selects RX1 yX1_beginBallot yX1_beginBallot) (by decide +kernel)⟩ (xc_preV (cX_ok _ _) hX hw (k_br n hin1.2) (cE_br _ _ _ _ hin1.2) rfl rfl) rfl rfl hl.1 rfl (lv_room (Nat.le_of_ble_eq_true rfl)) dX3_open_31 ⟨Nat.le_of_ble_eq_true rfl, Nat.le_of_ble_eq_true rfl⟩) (fun u H locs hp hw => ?_)
      obtain rfl := hp
      refine lv_aload_n hx hb dX3_open_34 rfl (lv_at hl 1 rfl) ?_
      refine lv_aload_n hx hb dX3_open_35 rfl (lv_at hl 0 rfl) ?_
      refine xc_Mi hw (va_runV (As := [.ref (ad (7 + x0.toNatClampNeg))]) (rest := []) S (c_X3_countStanding l D cy ad n (bgF σ x0.toNatClampNeg) x0.toNatClampNeg hin1.2 _) (cwV 1 S.2.2.2.2 gX3_open_X3_countStanding rfl rfl rfl (by decide +kernel) ⟨Nat.le_of_ble_eq_true rfl, Nat.le_of_ble_eq_true rfl⟩) (xc_preV (cX_ok _ _) hX hw (k_0 n) (cE_0 _ _ _ _) rfl rfl) rfl rfl hl.1 rfl (lv_room (Nat.le_of_ble_eq_true rfl)) dX3_open_36 ⟨Nat.le_of_ble_eq_true rfl, Nat.le_of_ble_eq_true rfl⟩) (fun r9 u H locs hp hw => ?_)
      obtain ⟨hu9, rfl⟩ := hp
      rw [hu9] at hw
      clear hu9
      exact vx_ret (xe_i S.1 S.2.1 hr hlocks hw (⟨hin1, ⟨c1, c2⟩, rfl, rfl⟩) (Nat.le_of_ble_eq_true rfl) (Nat.le_of_ble_eq_true rfl) dX3_open_39)
    · exact xt_throw (text := "the branch has a ballot or is on strike") S htr hlocks htb hw hX hl.1 (by decide +kernel) inX3_open_xIS1.1 inX3_open_xIS1.2 inX3_open_xIS tg_IS (by decide +kernel) dX3_open_20 dX3_open_23 dX3_open_24 dX3_open_26 dX3_open_29 (Nat.le_of_ble_eq_true rfl) (Nat.le_of_ble_eq_true rfl) (Nat.le_of_ble_eq_true rfl) (Nat.le_of_ble_eq_true rfl) (Or.inr ⟨rfl, hin1, fun h => c2 h.2⟩)
abbrev rmX3_vote : Room := { frames := 7, cells := 2, slots := 12, locals := 105 }
theorem inX3_vote_X1 : (∀ w ∈ wsX10, w ∈ wsX3_vote) := by decide +kernel
theorem inX3_vote_X2 : (∀ w ∈ wsX20, w ∈ wsX3_vote) := by decide +kernel
theorem inX3_vote_X3 : (∀ w ∈ wsX30, w ∈ wsX3_vote) := by decide +kernel
theorem inX3_vote_xIS : (∀ w ∈ (vx_atS RX3 67 xIS nm2).filter goodWord, w ∈ wsX3_vote) := by
  intro w h
  first | exact List.mem_cons_of_mem _ (List.mem_append_right _ h) | exact List.mem_cons_of_mem _ (List.mem_append_left _ (List.mem_append_right _ h)) | exact List.mem_cons_of_mem _ (List.mem_append_left _ (List.mem_append_left _ (List.mem_append_right _ h)))
theorem inX3_vote_xIS1 : Cond.classLink RX3 63 xIS ∈ wsX3_vote ∧ Cond.initialized xIS ∈ wsX3_vote := ⟨by decide +kernel, by decide +kernel⟩
set_option maxHeartbeats 1000000 in
set_option maxRecDepth 100000 in
/-- vote -/
theorem c_X3_vote (l : Launch) (hl9 : l.stackTraces = false) (D : va_G) (cy : Nat → ClassId) (ad : Nat → Nat) (n : Nat) (σ : S3) (hn : n ≤ 16) (x0 x1 : Int32) : CT l yX3_vote wsX3_vote rmX3_vote D cy ad n [.ref (ad 0), .int x0, .int x1] σ (xPi fun r u => inI x0 n ∧ voP σ x0.toNatClampNeg ∧ r = bcF ((tvF σ (br σ x0.toNatClampNeg) x0.toNatClampNeg x1) 12 (br σ x0.toNatClampNeg) 0) ∧ u = tvF σ (br σ x0.toNatClampNeg) x0.toNatClampNeg x1) (e2 xIO xIS (inI x0 n) (voP σ x0.toNatClampNeg)) := by
  refine xs_T (cc := cX3_vote) (maxL := 5) (ret := (some .int)) (by decide +kernel) rfl (Nat.le_of_ble_eq_true rfl) ?_
  intro p e s m below meth c ls S hr hlocks htb hw hX hl
  have S : CallFix p m c cX3_vote 5 s [.ref (ad 0), .int x0, .int x1].toArray wsX3_vote RX3 := S
  have hx := S.1
  have hb := S.2.1
  have hts := S.2.2.2.2
  have htr := hl9
  have hl : lv_has ls 5 [(0, .ref (ad 0)), (1, .int x0), (2, .int x1)] := hl
  refine lv_aload_n hx hb dX3_vote_0 rfl (lv_at hl 0 rfl) ?_
  refine lv_iload_n hx hb dX3_vote_1 rfl (lv_at hl 1 rfl) ?_
  refine xc_T htb hlocks hw (vx_runV (As := [.int x0]) (rest := []) S (c_X3_memberAt l htr D cy ad n σ hn x0 _) (cwV 1 S.2.2.2.2 gX3_vote_X3_memberAt rfl rfl rfl (by decide +kernel) ⟨Nat.le_of_ble_eq_true rfl, Nat.le_of_ble_eq_true rfl⟩) (xc_preV (cX_ok _ _) hX hw (k_0 n) (cE_0 _ _ _ _) rfl rfl) rfl rfl hl.1 rfl (lv_room (Nat.le_of_ble_eq_true rfl)) dX3_vote_2 ⟨Nat.le_of_ble_eq_true rfl, Nat.le_of_ble_eq_true rfl⟩) (fun _ he => Or.inl he) (Nat.le_of_ble_eq_true rfl) (Nat.le_of_ble_eq_true rfl) (fun v9 u H locs hp hw => ?_)
  obtain ⟨_, rfl, hu9, hin1, rfl⟩ := hp
  rw [hu9] at hw
  clear hu9
  refine lv_astore_n (lv' := [(3, .ref (ad (15 + 3 * x0.toNatClampNeg))), (0, .ref (ad 0)), (1, .int x0), (2, .int x1)]) hx hb dX3_vote_5 rfl hl (by decide) rfl (fun ls hl => ?_)
  refine lv_aload_n hx hb dX3_vote_6 rfl (lv_at hl 0 rfl) ?_
  refine xr_getN S hw (j := 3) (k_m hin1.2) (cE_m _ _ _ _ _) rfl inX3_vote_X2 (by decide) (hX.1.w (w := .fieldLinkNest RX3 81 "UnionOffice$Member" "branch" "LUnionOffice$Branch;" "UnionOffice") (by decide +kernel)) rfl dX3_vote_7 ?_
  refine lv_astore (lv' := [(4, .ref (ad (7 + (br σ x0.toNatClampNeg)))), (3, .ref (ad (15 + 3 * x0.toNatClampNeg))), (0, .ref (ad 0)), (1, .int x0), (2, .int x1)]) hx hb dX3_vote_10 hl (by decide) rfl (fun ls hl => ?_)
  refine lv_aload hx hb dX3_vote_12 (lv_at hl 0 rfl) ?_
  refine xr_getN S hw (j := 1) (k_br n (br_lt σ x0.toNatClampNeg)) (cE_br _ _ _ _ (br_lt σ x0.toNatClampNeg)) rfl inX3_vote_X1 (by decide) (hX.1.w (w := .fieldLinkNest RX3 105 "UnionOffice$Branch" "hasBallot" "Z" "UnionOffice") (by decide +kernel)) rfl dX3_vote_14 ?_
  refine lv_if_eq (tgt := 40) hx hb dX3_vote_17 (by decide) (fun c1 => ?_) (fun c1 => ?_)
  · exact xt_throw (text := "the member can't vote") S htr hlocks htb hw hX hl.1 (by decide +kernel) inX3_vote_xIS1.1 inX3_vote_xIS1.2 inX3_vote_xIS tg_IS (by decide +kernel) dX3_vote_40 dX3_vote_43 dX3_vote_44 dX3_vote_46 dX3_vote_49 (Nat.le_of_ble_eq_true rfl) (Nat.le_of_ble_eq_true rfl) (Nat.le_of_ble_eq_true rfl) (Nat.le_of_ble_eq_true rfl) (Or.inr ⟨rfl, hin1, fun h => h.1 c1⟩)
  · refine lv_aload_n hx hb dX3_vote_20 rfl (lv_at hl 1 rfl) ?_
    refine lv_aload_n hx hb dX3_vote_21 rfl (lv_at hl 2 rfl) ?_
    refine xr_get S hw (j := 5) (k_0 n) (cE_0 _ _ _ _) rfl inX3_vote_X3 (by decide) (hts (.fieldLink RX3 38 "UnionOffice" "today" "I") (by decide +kernel)) rfl dX3_vote_22 ?_
    refine xc_Mi hw (va_runVN (As := [.int (σ 18 0 0)]) (rest := []) S (c_X2_standsOn l D cy ad n σ x0.toNatClampNeg hin1.2 (σ 18 0 0) _) ⟨va_cnB 1 S.2.2.2.2 gX3_vote_X2_standsOn_n120 rfl rfl rfl (hX.1.w (w := .methodLinkNest RX3 120 yX2_standsOn "UnionOffice") (by decide +kernel)) (hts (.initialized RX2) (by decide +kernel)) (by decide +kernel) ⟨Nat.le_of_ble_eq_true rfl, Nat.le_of_ble_eq_true rfl⟩, hts (.instanceMethod yX2_standsOn) (by decide +kernel), hts (.selects RX2 yX2_standsOn yX2_standsOn) (by decide +kernel)⟩ (xc_preV (cX_ok _ _) hX hw (k_m hin1.2) (cE_m _ _ _ _ _) rfl rfl) rfl rfl hl.1 rfl (lv_room (Nat.le_of_ble_eq_true rfl)) dX3_vote_25 ⟨Nat.le_of_ble_eq_true rfl, Nat.le_of_ble_eq_true rfl⟩) (fun r9 u H locs hp hw => ?_)
    obtain ⟨hu9, rfl⟩ := hp
    rw [hu9] at hw
    clear hu9
    refine lv_if_eq (tgt := 40) hx hb dX3_vote_28 (by decide) (fun c2 => ?_) (fun c2 => ?_)
    · exact xt_throw (text := "the member can't vote") S htr hlocks htb hw hX hl.1 (by decide +kernel) inX3_vote_xIS1.1 inX3_vote_xIS1.2 inX3_vote_xIS tg_IS (by decide +kernel) dX3_vote_40 dX3_vote_43 dX3_vote_44 dX3_vote_46 dX3_vote_49 (Nat.le_of_ble_eq_true rfl) (Nat.le_of_ble_eq_true rfl) (Nat.le_of_ble_eq_true rfl) (Nat.le_of_ble_eq_true rfl) (Or.inr ⟨rfl, hin1, fun h => (stI_0.mp c2) h.2.1⟩)
    · refine lv_aload hx hb dX3_vote_31 (lv_at hl 0 rfl) ?_
      refine lv_aload_n hx hb dX3_vote_33 rfl (lv_at hl 1 rfl) ?_
      refine xc_Mi hw (va_runVN (As := [.ref (ad (15 + 3 * x0.toNatClampNeg))]) (rest := []) S (c_X1_hasVoteOf l D cy ad n σ (br σ x0.toNatClampNeg) (br_lt σ x0.toNatClampNeg) x0.toNatClampNeg hin1.2 _) ⟨va_cnB 1 S.2.2.2.2 gX3_vote_X1_hasVoteOf_n124 rfl rfl rfl (hX.1.w (w := .methodLinkNest RX3 124 yX1_hasVoteOf "UnionOffice") (by decide +kernel)) (hts (.initialized RX1) (by decide +kernel)) (by decide +kernel) ⟨Nat.le_of_ble_eq_true rfl, Nat.le_of_ble_eq_true rfl⟩, hts (.instanceMethod yX1_hasVoteOf) (by decide +kernel), hts (.selects RX1 yX1_hasVoteOf yX1_hasVoteOf) (by decide +kernel)⟩ (xc_preV (cX_ok _ _) hX hw (k_br n (br_lt σ x0.toNatClampNeg)) (cE_br _ _ _ _ (br_lt σ x0.toNatClampNeg)) rfl rfl) rfl rfl hl.1 rfl (lv_room (Nat.le_of_ble_eq_true rfl)) dX3_vote_34 ⟨Nat.le_of_ble_eq_true rfl, Nat.le_of_ble_eq_true rfl⟩) (fun r9 u H locs hp hw => ?_)
      obtain ⟨hu9, rfl⟩ := hp
      rw [hu9] at hw
      clear hu9
      refine lv_if_eq (tgt := 50) hx hb dX3_vote_37 (by decide) (fun c3 => ?_) (fun c3 => ?_)
      · refine lv_aload hx hb dX3_vote_50 (lv_at hl 0 rfl) ?_
        refine lv_aload_n hx hb dX3_vote_52 rfl (lv_at hl 1 rfl) ?_
        refine lv_iload_n hx hb dX3_vote_53 rfl (lv_at hl 4 rfl) ?_
        refine xc_Mv hw (va_runVN (As := [.ref (ad (15 + 3 * x0.toNatClampNeg)), .int x1]) (rest := []) S (c_X1_takeVote l D cy ad n σ (br σ x0.toNatClampNeg) (br_lt σ x0.toNatClampNeg) x0.toNatClampNeg hin1.2 x1 _) ⟨va_cnB 2 S.2.2.2.2 gX3_vote_X1_takeVote_n130 rfl rfl rfl (hX.1.w (w := .methodLinkNest RX3 130 yX1_takeVote "UnionOffice") (by decide +kernel)) (hts (.initialized RX1) (by decide +kernel)) (by decide +kernel) ⟨Nat.le_of_ble_eq_true rfl, Nat.le_of_ble_eq_true rfl⟩, hts (.instanceMethod yX1_takeVote) (by decide +kernel), hts (.selects RX1 yX1_takeVote yX1_takeVote) (by decide +kernel)⟩ (xc_preV (cX_ok _ _) hX hw (k_br n (br_lt σ x0.toNatClampNeg)) (cE_br _ _ _ _ (br_lt σ x0.toNatClampNeg)) rfl rfl) rfl rfl hl.1 rfl (lv_room (Nat.le_of_ble_eq_true rfl)) dX3_vote_54 ⟨Nat.le_of_ble_eq_true rfl, Nat.le_of_ble_eq_true rfl⟩) (fun u H locs hp hw => ?_)
        obtain rfl := hp
        refine lv_aload hx hb dX3_vote_57 (lv_at hl 0 rfl) ?_
        refine xc_Mi hw (va_runVN (As := []) (rest := []) S (c_X1_countVotes l D cy ad n (tvF σ (br σ x0.toNatClampNeg) x0.toNatClampNeg x1) (br σ x0.toNatClampNeg) (br_lt σ x0.toNatClampNeg) _) ⟨va_cnB 0 S.2.2.2.2 gX3_vote_X1_countVotes_n134 rfl rfl rfl (hX.1.w (w := .methodLinkNest RX3 134 yX1_countVotes "UnionOffice") (by decide +kernel)) (hts (.initialized RX1) (by decide +kernel)) (by decide +kernel) ⟨Nat.le_of_ble_eq_true rfl, Nat.le_of_ble_eq_true rfl⟩, hts (.instanceMethod yX1_countVotes) (by decide +kernel), hts (.selects RX1 yX1_countVotes yX1_countVotes) (by decide +kernel)⟩ (xc_preV (cX_ok _ _) hX hw (k_br n (br_lt σ x0.toNatClampNeg)) (cE_br _ _ _ _ (br_lt σ x0.toNatClampNeg)) rfl rfl) rfl rfl hl.1 rfl (lv_room (Nat.le_of_ble_eq_true rfl)) dX3_vote_59 ⟨Nat.le_of_ble_eq_true rfl, Nat.le_of_ble_eq_true rfl⟩) (fun r9 u H locs hp hw => ?_)
        obtain ⟨hu9, rfl⟩ := hp
        rw [hu9] at hw
        clear hu9
        exact vx_ret (xe_i S.1 S.2.1 hr hlocks hw (⟨hin1, ⟨c1, stI_1.mp c2, c3⟩, rfl, rfl⟩) (Nat.le_of_ble_eq_true rfl) (Nat.le_of_ble_eq_true rfl) dX3_vote_62)
      · exact xt_throw (text := "the member can't vote") S htr hlocks htb hw hX hl.1 (by decide +kernel) inX3_vote_xIS1.1 inX3_vote_xIS1.2 inX3_vote_xIS tg_IS (by decide +kernel) dX3_vote_40 dX3_vote_43 dX3_vote_44 dX3_vote_46 dX3_vote_49 (Nat.le_of_ble_eq_true rfl) (Nat.le_of_ble_eq_true rfl) (Nat.le_of_ble_eq_true rfl) (Nat.le_of_ble_eq_true rfl) (Or.inr ⟨rfl, hin1, fun h => c3 h.2.2⟩)
abbrev rmX3_close : Room := { frames := 7, cells := 2, slots := 12, locals := 105 }
theorem inX3_close_X1 : (∀ w ∈ wsX10, w ∈ wsX3_close) := by decide +kernel
theorem inX3_close_xIS : (∀ w ∈ (vx_atS RX3 67 xIS nm2).filter goodWord, w ∈ wsX3_close) := by
  intro w h
  first | exact List.mem_cons_of_mem _ (List.mem_append_right _ h) | exact List.mem_cons_of_mem _ (List.mem_append_left _ (List.mem_append_right _ h)) | exact List.mem_cons_of_mem _ (List.mem_append_left _ (List.mem_append_left _ (List.mem_append_right _ h)))
theorem inX3_close_xIS1 : Cond.classLink RX3 63 xIS ∈ wsX3_close ∧ Cond.initialized xIS ∈ wsX3_close := ⟨by decide +kernel, by decide +kernel⟩
set_option maxHeartbeats 1000000 in
set_option maxRecDepth 100000 in
/-- close -/
theorem c_X3_close (l : Launch) (hl9 : l.stackTraces = false) (D : va_G) (cy : Nat → ClassId) (ad : Nat → Nat) (n : Nat) (σ : S3) (x0 : Int32) : CT l yX3_close wsX3_close rmX3_close D cy ad n [.ref (ad 0), .int x0] σ (xPi fun r u => inI x0 4 ∧ ¬ σ 10 x0.toNatClampNeg 0 = 0 ∧ r = wonI σ x0.toNatClampNeg (cntF σ n x0.toNatClampNeg (σ 18 0 0) 16) ∧ u = ebF σ x0.toNatClampNeg (cntF σ n x0.toNatClampNeg (σ 18 0 0) 16)) (e2 xIO xIS (inI x0 4) (¬ σ 10 x0.toNatClampNeg 0 = 0)) := by
  refine xs_T (cc := cX3_close) (maxL := 3) (ret := (some .boolean)) (by decide +kernel) rfl (Nat.le_of_ble_eq_true rfl) ?_
  intro p e s m below meth c ls S hr hlocks htb hw hX hl
  have S : CallFix p m c cX3_close 3 s [.ref (ad 0), .int x0].toArray wsX3_close RX3 := S
  have hx := S.1
  have hb := S.2.1
  have hts := S.2.2.2.2
  have htr := hl9
  have hl : lv_has ls 3 [(0, .ref (ad 0)), (1, .int x0)] := hl
  refine lv_aload_n hx hb dX3_close_0 rfl (lv_at hl 0 rfl) ?_
  refine lv_iload_n hx hb dX3_close_1 rfl (lv_at hl 1 rfl) ?_
  refine xc_T htb hlocks hw (vx_runV (As := [.int x0]) (rest := []) S (c_X3_branchAt l htr D cy ad n σ x0 _) (cwV 1 S.2.2.2.2 gX3_close_X3_branchAt rfl rfl rfl (by decide +kernel) ⟨Nat.le_of_ble_eq_true rfl, Nat.le_of_ble_eq_true rfl⟩) (xc_preV (cX_ok _ _) hX hw (k_0 n) (cE_0 _ _ _ _) rfl rfl) rfl rfl hl.1 rfl (lv_room (Nat.le_of_ble_eq_true rfl)) dX3_close_2 ⟨Nat.le_of_ble_eq_true rfl, Nat.le_of_ble_eq_true rfl⟩) (fun _ he => Or.inl he) (Nat.le_of_ble_eq_true rfl) (Nat.le_of_ble_eq_true rfl) (fun v9 u H locs hp hw => ?_)
  obtain ⟨_, rfl, hu9, hin1, rfl⟩ := hp
  rw [hu9] at hw
  clear hu9
  refine lv_astore_n (lv' := [(2, .ref (ad (7 + x0.toNatClampNeg))), (0, .ref (ad 0)), (1, .int x0)]) hx hb dX3_close_5 rfl hl (by decide) rfl (fun ls hl => ?_)
  refine lv_aload_n hx hb dX3_close_6 rfl (lv_at hl 0 rfl) ?_
  refine xr_getN S hw (j := 1) (k_br n hin1.2) (cE_br _ _ _ _ hin1.2) rfl inX3_close_X1 (by decide) (hX.1.w (w := .fieldLinkNest RX3 105 "UnionOffice$Branch" "hasBallot" "Z" "UnionOffice") (by decide +kernel)) rfl dX3_close_7 ?_
  refine lv_if_ne (tgt := 23) hx hb dX3_close_10 (by decide) (fun c1 => ?_) (fun c1 => ?_)
  · refine lv_aload_n hx hb dX3_close_23 rfl (lv_at hl 0 rfl) ?_
    refine lv_aload_n hx hb dX3_close_24 rfl (lv_at hl 1 rfl) ?_
    refine lv_aload_n hx hb dX3_close_25 rfl (lv_at hl 0 rfl) ?_
    refine xc_Mi hw (va_runV (As := [.ref (ad (7 + x0.toNatClampNeg))]) (rest := [.ref (ad (7 + x0.toNatClampNeg))]) S (c_X3_countStanding l D cy ad n σ x0.toNatClampNeg hin1.2 _) (cwV 1 S.2.2.2.2 gX3_close_X3_countStanding rfl rfl rfl (by decide +kernel) ⟨Nat.le_of_ble_eq_true rfl, Nat.le_of_ble_eq_true rfl⟩) (xc_preV (cX_ok _ _) hX hw (k_0 n) (cE_0 _ _ _ _) rfl rfl) rfl rfl hl.1 rfl (lv_room (Nat.le_of_ble_eq_true rfl)) dX3_close_26 ⟨Nat.le_of_ble_eq_true rfl, Nat.le_of_ble_eq_true rfl⟩) (fun r9 u H locs hp hw => ?_)
    obtain ⟨hu9, rfl⟩ := hp
    rw [hu9] at hw
    clear hu9
    refine xc_Mv hw (va_runVN (As := [.int (cntF σ n x0.toNatClampNeg (σ 18 0 0) 16)]) (rest := []) S (c_X1_endBallot l D cy ad n σ x0.toNatClampNeg hin1.2 (cntF σ n x0.toNatClampNeg (σ 18 0 0) 16) _) ⟨va_cnB 1 S.2.2.2.2 gX3_close_X1_endBallot_n139 rfl rfl rfl (hX.1.w (w := .methodLinkNest RX3 139 yX1_endBallot "UnionOffice") (by decide +kernel)) (hts (.initialized RX1) (by decide +kernel)) (by decide +kernel) ⟨Nat.le_of_ble_eq_true rfl, Nat.le_of_ble_eq_true rfl⟩, hts (.instanceMethod yX1_endBallot) (by decide +kernel), hts (.selects RX1 yX1_endBallot yX1_endBallot) (by decide +kernel)⟩ (xc_preV (cX_ok _ _) hX hw (k_br n hin1.2) (cE_br _ _ _ _ hin1.2) rfl rfl) rfl rfl hl.1 rfl (lv_room (Nat.le_of_ble_eq_true rfl)) dX3_close_29 ⟨Nat.le_of_ble_eq_true rfl, Nat.le_of_ble_eq_true rfl⟩) (fun u H locs hp hw => ?_)
    obtain rfl := hp
    refine lv_aload_n hx hb dX3_close_32 rfl (lv_at hl 0 rfl) ?_
    refine xr_getN S hw (j := 4) (k_br n hin1.2) (cE_br _ _ _ _ hin1.2) rfl inX3_close_X1 (by decide) (hX.1.w (w := .fieldLinkNest RX3 142 "UnionOffice$Branch" "mayStrike" "Z" "UnionOffice") (by decide +kernel)) rfl dX3_close_33 ?_
    exact vx_ret (xe_z S.1 S.2.1 hr (by unfold ebF; rw [su_same]; exact wonI_01 _ _ _) hlocks hw (⟨hin1, c1, by unfold ebF; rw [su_same], rfl⟩) (Nat.le_of_ble_eq_true rfl) (Nat.le_of_ble_eq_true rfl) dX3_close_36)
  · exact xt_throw (text := "the branch has no ballot") S htr hlocks htb hw hX hl.1 (by decide +kernel) inX3_close_xIS1.1 inX3_close_xIS1.2 inX3_close_xIS tg_IS (by decide +kernel) dX3_close_13 dX3_close_16 dX3_close_17 dX3_close_19 dX3_close_22 (Nat.le_of_ble_eq_true rfl) (Nat.le_of_ble_eq_true rfl) (Nat.le_of_ble_eq_true rfl) (Nat.le_of_ble_eq_true rfl) (Or.inr ⟨rfl, hin1, fun h => h c1⟩)
abbrev rmX3_strike : Room := { frames := 7, cells := 2, slots := 12, locals := 105 }
theorem inX3_strike_X1 : (∀ w ∈ wsX10, w ∈ wsX3_strike) := by decide +kernel
theorem inX3_strike_xIS : (∀ w ∈ (vx_atS RX3 67 xIS nm2).filter goodWord, w ∈ wsX3_strike) := by
  intro w h
  first | exact List.mem_cons_of_mem _ (List.mem_append_right _ h) | exact List.mem_cons_of_mem _ (List.mem_append_left _ (List.mem_append_right _ h)) | exact List.mem_cons_of_mem _ (List.mem_append_left _ (List.mem_append_left _ (List.mem_append_right _ h)))
theorem inX3_strike_xIS1 : Cond.classLink RX3 63 xIS ∈ wsX3_strike ∧ Cond.initialized xIS ∈ wsX3_strike := ⟨by decide +kernel, by decide +kernel⟩
set_option maxHeartbeats 1000000 in
set_option maxRecDepth 100000 in
/-- strike -/
theorem c_X3_strike (l : Launch) (hl9 : l.stackTraces = false) (D : va_G) (cy : Nat → ClassId) (ad : Nat → Nat) (n : Nat) (σ : S3) (x0 x1 : Int32) (hz1 : x1 = 0 ∨ x1 = 1) : CT l yX3_strike wsX3_strike rmX3_strike D cy ad n [.ref (ad 0), .int x0, .int x1] σ (xPv fun u => inI x0 4 ∧ skP σ x0.toNatClampNeg x1 ∧ u = su (su σ 14 x0.toNatClampNeg 0 x1) 13 x0.toNatClampNeg 0 0) (e2 xIO xIS (inI x0 4) (skP σ x0.toNatClampNeg x1)) := by
  refine xs_T (cc := cX3_strike) (maxL := 4) (ret := none) (by decide +kernel) rfl (Nat.le_of_ble_eq_true rfl) ?_
  intro p e s m below meth c ls S hr hlocks htb hw hX hl
  have S : CallFix p m c cX3_strike 4 s [.ref (ad 0), .int x0, .int x1].toArray wsX3_strike RX3 := S
  have hx := S.1
  have hb := S.2.1
  have hts := S.2.2.2.2
  have htr := hl9
  have hl : lv_has ls 4 [(0, .ref (ad 0)), (1, .int x0), (2, .int x1)] := hl
  refine lv_aload_n hx hb dX3_strike_0 rfl (lv_at hl 0 rfl) ?_
  refine lv_iload_n hx hb dX3_strike_1 rfl (lv_at hl 1 rfl) ?_
  refine xc_T htb hlocks hw (vx_runV (As := [.int x0]) (rest := []) S (c_X3_branchAt l htr D cy ad n σ x0 _) (cwV 1 S.2.2.2.2 gX3_strike_X3_branchAt rfl rfl rfl (by decide +kernel) ⟨Nat.le_of_ble_eq_true rfl, Nat.le_of_ble_eq_true rfl⟩) (xc_preV (cX_ok _ _) hX hw (k_0 n) (cE_0 _ _ _ _) rfl rfl) rfl rfl hl.1 rfl (lv_room (Nat.le_of_ble_eq_true rfl)) dX3_strike_2 ⟨Nat.le_of_ble_eq_true rfl, Nat.le_of_ble_eq_true rfl⟩) (fun _ he => Or.inl he) (Nat.le_of_ble_eq_true rfl) (Nat.le_of_ble_eq_true rfl) (fun v9 u H locs hp hw => ?_)
  obtain ⟨_, rfl, hu9, hin1, rfl⟩ := hp
  rw [hu9] at hw
  clear hu9
  refine lv_astore_n (lv' := [(3, .ref (ad (7 + x0.toNatClampNeg))), (0, .ref (ad 0)), (1, .int x0), (2, .int x1)]) hx hb dX3_strike_5 rfl hl (by decide) rfl (fun ls hl => ?_)
  refine lv_iload_n hx hb dX3_strike_6 rfl (lv_at hl 3 rfl) ?_
  refine lv_if_eq (tgt := 20) hx hb dX3_strike_7 (by decide) (fun c1 => ?_) (fun c1 => ?_)
  · refine lv_aload_n hx hb dX3_strike_20 rfl (lv_at hl 0 rfl) ?_
    refine xr_getN S hw (j := 5) (k_br n hin1.2) (cE_br _ _ _ _ hin1.2) rfl inX3_strike_X1 (by decide) (hX.1.w (w := .fieldLinkNest RX3 108 "UnionOffice$Branch" "isOnStrike" "Z" "UnionOffice") (by decide +kernel)) rfl dX3_strike_21 ?_
    refine lv_if_ne (tgt := 37) hx hb dX3_strike_24 (by decide) (fun c2 => ?_) (fun c2 => ?_)
    · refine lv_aload_n hx hb dX3_strike_37 rfl (lv_at hl 0 rfl) ?_
      refine lv_iload_n hx hb dX3_strike_38 rfl (lv_at hl 3 rfl) ?_
      obtain ⟨σ1, hσ1⟩ : ∃ y : S3, y = su σ 14 x0.toNatClampNeg 0 x1 := ⟨_, rfl⟩
      refine xr_putN S hw tyX1 tyX1_ok nmX1 (j := 5) (k_br n hin1.2) (cE_br _ _ _ _ hin1.2) rfl inX3_strike_X1 (by decide) (hX.1.w (w := .fieldLinkNest RX3 108 "UnionOffice$Branch" "isOnStrike" "Z" "UnionOffice") (by decide +kernel)) rfl (tyX1_ok 5 (by decide)) (nar_z hz1) (fit_z hz1) (Nat.le_of_ble_eq_true rfl) dX3_strike_39 (cE cy ad n σ1) (by rw [hσ1]; exact up_out _ _ _ _ hin1.2 _) (fun H locs hw => ?_)
      refine lv_aload_n hx hb dX3_strike_42 rfl (lv_at hl 0 rfl) ?_
      refine lv_iconst (v := 0) hx hb dX3_strike_43 (by decide) ?_
      obtain ⟨σ2, hσ2⟩ : ∃ y : S3, y = su σ1 13 x0.toNatClampNeg 0 0 := ⟨_, rfl⟩
      refine xr_putN S hw tyX1 tyX1_ok nmX1 (j := 4) (k_br n hin1.2) (cE_br _ _ _ _ hin1.2) rfl inX3_strike_X1 (by decide) (hX.1.w (w := .fieldLinkNest RX3 142 "UnionOffice$Branch" "mayStrike" "Z" "UnionOffice") (by decide +kernel)) rfl (tyX1_ok 4 (by decide)) (nar_z (Or.inl rfl)) (fit_z (Or.inl rfl)) (Nat.le_of_ble_eq_true rfl) dX3_strike_44 (cE cy ad n σ2) (by rw [hσ2]; exact up_may _ _ _ _ hin1.2 _) (fun H locs hw => ?_)
      exact vx_ret (xe_v S.1 S.2.1 hr hlocks hw (⟨hin1, Or.inl ⟨c1, c2⟩, by rw [hσ2, hσ1]⟩) (Nat.le_of_ble_eq_true rfl) (Nat.le_of_ble_eq_true rfl) dX3_strike_47)
    · exact xt_throw (text := "the branch can't be called out, or is not on strike") S htr hlocks htb hw hX hl.1 (by decide +kernel) inX3_strike_xIS1.1 inX3_strike_xIS1.2 inX3_strike_xIS tg_IS (by decide +kernel) dX3_strike_27 dX3_strike_30 dX3_strike_31 dX3_strike_33 dX3_strike_36 (Nat.le_of_ble_eq_true rfl) (Nat.le_of_ble_eq_true rfl) (Nat.le_of_ble_eq_true rfl) (Nat.le_of_ble_eq_true rfl) (Or.inr ⟨rfl, hin1, fun h => h.elim (fun h => h.2 c2) (fun h => h.1 c1)⟩)
  · refine lv_aload_n hx hb dX3_strike_10 rfl (lv_at hl 0 rfl) ?_
    refine xc_Mi hw (va_runVN (As := []) (rest := []) S (c_X1_canBeCalledOut l D cy ad n σ x0.toNatClampNeg hin1.2 _) ⟨va_cnB 0 S.2.2.2.2 gX3_strike_X1_canBeCalledOut_n145 rfl rfl rfl (hX.1.w (w := .methodLinkNest RX3 145 yX1_canBeCalledOut "UnionOffice") (by decide +kernel)) (hts (.initialized RX1) (by decide +kernel)) (by decide +kernel) ⟨Nat.le_of_ble_eq_true rfl, Nat.le_of_ble_eq_true rfl⟩, hts (.instanceMethod yX1_canBeCalledOut) (by decide +kernel), hts (.selects RX1 yX1_canBeCalledOut yX1_canBeCalledOut) (by decide +kernel)⟩ (xc_preV (cX_ok _ _) hX hw (k_br n hin1.2) (cE_br _ _ _ _ hin1.2) rfl rfl) rfl rfl hl.1 rfl (lv_room (Nat.le_of_ble_eq_true rfl)) dX3_strike_11 ⟨Nat.le_of_ble_eq_true rfl, Nat.le_of_ble_eq_true rfl⟩) (fun r9 u H locs hp hw => ?_)
    obtain ⟨hu9, rfl⟩ := hp
    rw [hu9] at hw
    clear hu9
    refine lv_if_ne (tgt := 37) hx hb dX3_strike_14 (by decide) (fun c3 => ?_) (fun c3 => ?_)
    · refine lv_aload_n hx hb dX3_strike_37 rfl (lv_at hl 0 rfl) ?_
      refine lv_iload_n hx hb dX3_strike_38 rfl (lv_at hl 3 rfl) ?_
      obtain ⟨σ3, hσ3⟩ : ∃ y : S3, y = su σ 14 x0.toNatClampNeg 0 x1 := ⟨_, rfl⟩
      refine xr_putN S hw tyX1 tyX1_ok nmX1 (j := 5) (k_br n hin1.2) (cE_br _ _ _ _ hin1.2) rfl inX3_strike_X1 (by decide) (hX.1.w (w := .fieldLinkNest RX3 108 "UnionOffice$Branch" "isOnStrike" "Z" "UnionOffice") (by decide +kernel)) rfl (tyX1_ok 5 (by decide)) (nar_z hz1) (fit_z hz1) (Nat.le_of_ble_eq_true rfl) dX3_strike_39 (cE cy ad n σ3) (by rw [hσ3]; exact up_out _ _ _ _ hin1.2 _) (fun H locs hw => ?_)
      refine lv_aload_n hx hb dX3_strike_42 rfl (lv_at hl 0 rfl) ?_
      refine lv_iconst (v := 0) hx hb dX3_strike_43 (by decide) ?_
      obtain ⟨σ4, hσ4⟩ : ∃ y : S3, y = su σ3 13 x0.toNatClampNeg 0 0 := ⟨_, rfl⟩
      refine xr_putN S hw tyX1 tyX1_ok nmX1 (j := 4) (k_br n hin1.2) (cE_br _ _ _ _ hin1.2) rfl inX3_strike_X1 (by decide) (hX.1.w (w := .fieldLinkNest RX3 142 "UnionOffice$Branch" "mayStrike" "Z" "UnionOffice") (by decide +kernel)) rfl (tyX1_ok 4 (by decide)) (nar_z (Or.inl rfl)) (fit_z (Or.inl rfl)) (Nat.le_of_ble_eq_true rfl) dX3_strike_44 (cE cy ad n σ4) (by rw [hσ4]; exact up_may _ _ _ _ hin1.2 _) (fun H locs hw => ?_)
      exact vx_ret (xe_v S.1 S.2.1 hr hlocks hw (⟨hin1, Or.inr ⟨c1, c3⟩, by rw [hσ4, hσ3]⟩) (Nat.le_of_ble_eq_true rfl) (Nat.le_of_ble_eq_true rfl) dX3_strike_47)
    · refine lv_goto (tgt := 27) hx hb dX3_strike_17 (by decide) ?_
      exact xt_throw (text := "the branch can't be called out, or is not on strike") S htr hlocks htb hw hX hl.1 (by decide +kernel) inX3_strike_xIS1.1 inX3_strike_xIS1.2 inX3_strike_xIS tg_IS (by decide +kernel) dX3_strike_27 dX3_strike_30 dX3_strike_31 dX3_strike_33 dX3_strike_36 (Nat.le_of_ble_eq_true rfl) (Nat.le_of_ble_eq_true rfl) (Nat.le_of_ble_eq_true rfl) (Nat.le_of_ble_eq_true rfl) (Or.inr ⟨rfl, hin1, fun h => h.elim (fun h => c1 h.1) (fun h => h.2 c3)⟩)
abbrev rmX3_advance : Room := { frames := 7, cells := 2, slots := 12, locals := 109 }
set_option maxHeartbeats 1000000 in
set_option maxRecDepth 100000 in
theorem lp_X3_advance {p : Program} {l : Launch} {e : Env} {s : State} {m : MethodId} {args : Array Value} {below : List Frame} {meth : Method} {c : Code} {Q : State → Prop} (S : CallFix p m c cX3_advance 3 s args wsX3_advance RX3) {D : va_G} {cy : Nat → ClassId} {ad : Nat → Nat} {n : Nat} {σ : S3} {dd : Nat} (hdd : dd ≤ 100) (hX : cX ad (15 + 3 * n) s.heap.size s) : ∀ (k : Nat) (j : Nat) (τ : S3) (H : Heap) (locs : List Loc) (ls : Array Slot), dd - j < k → j ≤ dd → τ = edN σ n j → CW D cy s ad n τ H locs → lv_has ls 3 [(0, .ref (ad 0)), (1, .int (nI dd)), (2, .int (nI j))] → (∀ (H : Heap) (locs : List Loc) (ls : Array Slot), CW D cy s ad n (edN σ n dd) H locs → lv_has ls 3 [(0, .ref (ad 0))] → W p l e rmX3_advance s m args below meth c H locs (0 + rmX3_checkRange.cells) (0 + rmX3_checkRange.slots) Q (F0 m 47 ls [])) → W p l e rmX3_advance s m args below meth c H locs (0 + rmX3_checkRange.cells) (0 + rmX3_checkRange.slots) Q (F0 m 32 ls []) := by
  have hx := S.1
  have hb := S.2.1
  have hts := S.2.2.2.2
  intro k
  induction k with
  | zero => intro j τ H locs ls hk; exact absurd hk (Nat.not_lt_zero _)
  | succ k ih =>
    intro j τ H locs ls hk hj hτ hw hl kk
    refine lv_iload_n hx hb dX3_advance_32 rfl (lv_at hl 2 rfl) ?_
    refine lv_iload_n hx hb dX3_advance_33 rfl (lv_at hl 1 rfl) ?_
    refine lv_icmp_ge (tgt := 47) hx hb dX3_advance_34 (by decide) (fun c1 => ?_) (fun c1 => ?_)
    · have hj6 : j = dd := by
        have := (nI_leI (by omega) (by omega)).mp c1
        omega
      exact kk H locs ls (by rw [← hj6, ← hτ]; exact hw) (lv_sub hl [0] rfl)
    · have hj6 : j < dd := by
        rcases Nat.lt_or_ge j dd with q | q
        · exact q
        · exact absurd ((nI_leI (by omega) (by omega)).mpr q) c1
      refine lv_aload_n hx hb dX3_advance_37 rfl (lv_at hl 0 rfl) ?_
      refine xc_Mv hw (va_runV (As := []) (rest := []) S (c_X3_endDay l D cy ad n τ _) (cwV 0 S.2.2.2.2 gX3_advance_X3_endDay rfl rfl rfl (by decide +kernel) ⟨Nat.le_of_ble_eq_true rfl, Nat.le_of_ble_eq_true rfl⟩) (xc_preV (cX_ok _ _) hX hw (k_0 n) (cE_0 _ _ _ _) rfl rfl) rfl rfl hl.1 rfl (lv_room (Nat.le_of_ble_eq_true rfl)) dX3_advance_38 ⟨Nat.le_of_ble_eq_true rfl, Nat.le_of_ble_eq_true rfl⟩) (fun u H locs hp hw => ?_)
      obtain rfl := hp
      refine lv_iinc (v := nI (j + 1)) (lv' := [(2, .int (nI (j + 1))), (0, .ref (ad 0)), (1, .int (nI dd))]) hx hb dX3_advance_41 hl (k := 2) rfl (nI_1 j) (by decide) rfl (fun ls hl => ?_)
      refine lv_goto (tgt := 32) hx hb dX3_advance_44 (by decide) ?_
      exact ih (j + 1) (edF τ n) H locs ls (by omega) (by omega) (by rw [hτ]; rfl) hw (lv_sub hl [1, 2, 0] rfl) kk
theorem inX3_advance_X3 : (∀ w ∈ wsX30, w ∈ wsX3_advance) := by decide +kernel
theorem inX3_advance_xIS : (∀ w ∈ (vx_atS RX3 67 xIS nm2).filter goodWord, w ∈ wsX3_advance) := by
  intro w h
  first | exact List.mem_cons_of_mem _ (List.mem_append_right _ h) | exact List.mem_cons_of_mem _ (List.mem_append_left _ (List.mem_append_right _ h)) | exact List.mem_cons_of_mem _ (List.mem_append_left _ (List.mem_append_left _ (List.mem_append_right _ h)))
theorem inX3_advance_xIS1 : Cond.classLink RX3 63 xIS ∈ wsX3_advance ∧ Cond.initialized xIS ∈ wsX3_advance := ⟨by decide +kernel, by decide +kernel⟩
set_option maxHeartbeats 1000000 in
set_option maxRecDepth 100000 in
/-- advance -/
theorem c_X3_advance (l : Launch) (hl9 : l.stackTraces = false) (D : va_G) (cy : Nat → ClassId) (ad : Nat → Nat) (n : Nat) (σ : S3) (x0 : Int32) : CT l yX3_advance wsX3_advance rmX3_advance D cy ad n [.ref (ad 0), .int x0] σ (xPi fun r u => rgI x0 1 100 ∧ x0 ≤ 1800 - σ 18 0 0 ∧ r = (edN σ n x0.toNatClampNeg) 18 0 0 ∧ u = edN σ n x0.toNatClampNeg) (e2 xIA xIS (rgI x0 1 100) (x0 ≤ 1800 - σ 18 0 0)) := by
  refine xs_T (cc := cX3_advance) (maxL := 3) (ret := (some .int)) (by decide +kernel) rfl (Nat.le_of_ble_eq_true rfl) ?_
  intro p e s m below meth c ls S hr hlocks htb hw hX hl
  have S : CallFix p m c cX3_advance 3 s [.ref (ad 0), .int x0].toArray wsX3_advance RX3 := S
  have hx := S.1
  have hb := S.2.1
  have hts := S.2.2.2.2
  have htr := hl9
  have hl : lv_has ls 3 [(0, .ref (ad 0)), (1, .int x0)] := hl
  refine lv_aload_n hx hb dX3_advance_0 rfl (lv_at hl 0 rfl) ?_
  refine lv_iload_n hx hb dX3_advance_1 rfl (lv_at hl 1 rfl) ?_
  refine lv_iconst (v := 1) hx hb dX3_advance_2 (by decide) ?_
  refine lv_bipush (v := 100) hx hb dX3_advance_3 (by decide) ?_
  refine xc_T htb hlocks hw (vx_runV (As := [.int x0, .int 1, .int 100]) (rest := []) S (c_X3_checkRange l htr D cy ad n σ x0 1 100 _) (cwV 3 S.2.2.2.2 gX3_advance_X3_checkRange rfl rfl rfl (by decide +kernel) ⟨Nat.le_of_ble_eq_true rfl, Nat.le_of_ble_eq_true rfl⟩) (xc_preV (cX_ok _ _) hX hw (k_0 n) (cE_0 _ _ _ _) rfl rfl) rfl rfl hl.1 rfl (lv_room (Nat.le_of_ble_eq_true rfl)) dX3_advance_5 ⟨Nat.le_of_ble_eq_true rfl, Nat.le_of_ble_eq_true rfl⟩) (fun _ he => Or.inl he) (Nat.le_of_ble_eq_true rfl) (Nat.le_of_ble_eq_true rfl) (fun v9 u H locs hp hw => ?_)
  obtain ⟨rfl, hu9, hrg1⟩ := hp
  rw [hu9] at hw
  clear hu9
  refine lv_iload_n hx hb dX3_advance_8 rfl (lv_at hl 1 rfl) ?_
  refine lv_sipush (v := 1800) hx hb dX3_advance_9 (by decide) ?_
  refine lv_aload_n hx hb dX3_advance_12 rfl (lv_at hl 0 rfl) ?_
  refine xr_get S hw (j := 5) (k_0 n) (cE_0 _ _ _ _) rfl inX3_advance_X3 (by decide) (hts (.fieldLink RX3 38 "UnionOffice" "today" "I") (by decide +kernel)) rfl dX3_advance_13 ?_
  refine lv_isub hx hb dX3_advance_16 ?_
  refine lv_icmp_le (tgt := 30) hx hb dX3_advance_17 (by decide) (fun c1 => ?_) (fun c1 => ?_)
  · obtain ⟨dd, hdd, rfl⟩ := nI_of2 (n := 100) (M := 100) rfl (fun h => hrg1.1 (Int32.lt_trans h (by decide))) hrg1.2
    refine lv_iconst (v := 0) hx hb dX3_advance_30 (by decide) ?_
    refine lv_istore_n (lv' := [(2, .int 0), (0, .ref (ad 0)), (1, .int (nI dd))]) hx hb dX3_advance_31 rfl hl (by decide) rfl (fun ls hl => ?_)
    refine lp_X3_advance S hdd hX (dd + 1) 0 σ _ _ ls (by omega) (by omega) rfl hw (lv_sub hl [1, 2, 0] rfl) (fun H locs ls hw hl => ?_)
    refine lv_aload_n hx hb dX3_advance_47 rfl (lv_at hl 0 rfl) ?_
    refine xr_get S hw (j := 5) (k_0 n) (cE_0 _ _ _ _) rfl inX3_advance_X3 (by decide) (hts (.fieldLink RX3 38 "UnionOffice" "today" "I") (by decide +kernel)) rfl dX3_advance_48 ?_
    exact vx_ret (xe_i S.1 S.2.1 hr hlocks hw (⟨hrg1, c1, by rw [cl_nI (by omega)], by rw [cl_nI (by omega)]⟩) (Nat.le_of_ble_eq_true rfl) (Nat.le_of_ble_eq_true rfl) dX3_advance_51)
  · exact xt_throw (text := "the day would be above the last one") S htr hlocks htb hw hX hl.1 (by decide +kernel) inX3_advance_xIS1.1 inX3_advance_xIS1.2 inX3_advance_xIS tg_IS (by decide +kernel) dX3_advance_20 dX3_advance_23 dX3_advance_24 dX3_advance_26 dX3_advance_29 (Nat.le_of_ble_eq_true rfl) (Nat.le_of_ble_eq_true rfl) (Nat.le_of_ble_eq_true rfl) (Nat.le_of_ble_eq_true rfl) (Or.inr ⟨rfl, hrg1, c1⟩)
abbrev rmX3_fold : Room := { frames := 6, cells := 1, slots := 6, locals := 84 }
set_option maxHeartbeats 1000000 in
set_option maxRecDepth 100000 in
theorem lp_X3_fold {p : Program} {l : Launch} {e : Env} {s : State} {m : MethodId} {args : Array Value} {below : List Frame} {meth : Method} {c : Code} {Q : State → Prop} (S : CallFix p m c cX3_fold 4 s args wsX3_fold RX3) {D : va_G} {cy : Nat → ClassId} {ad : Nat → Nat} {n : Nat} {σ : S3} {mm : Nat} (hmm : mm < 60) (hX : cX ad (15 + 3 * n) s.heap.size s) : ∀ (k : Nat) (j : Nat) (acc : Int32) (H : Heap) (locs : List Loc) (ls : Array Slot), mm + 1 - j < k → j ≤ mm + 1 → fo σ ≤ j → acc = flF σ (fo σ) (j - fo σ) → CW D cy s ad n σ H locs → lv_has ls 4 [(0, .ref (ad 0)), (1, .int (nI mm)), (2, .int acc), (3, .int (nI j))] → (∀ (r : Int32) (H : Heap) (locs : List Loc) (ls : Array Slot), r = flF σ (fo σ) (mm + 1 - fo σ) → CW D cy s ad n σ H locs → lv_has ls 4 [(0, .ref (ad 0)), (1, .int (nI mm)), (2, .int r)] → W p l e rmX3_fold s m args below meth c H locs (0 + rmX3_hasEnded.cells) (0 + rmX3_hasEnded.slots) Q (F0 m 52 ls [])) → W p l e rmX3_fold s m args below meth c H locs (0 + rmX3_hasEnded.cells) (0 + rmX3_hasEnded.slots) Q (F0 m 33 ls []) := by
  have hx := S.1
  have hb := S.2.1
  have hts := S.2.2.2.2
  intro k
  induction k with
  | zero => intro j acc H locs ls hk; exact absurd hk (Nat.not_lt_zero _)
  | succ k ih =>
    intro j acc H locs ls hk hj hfo hacc hw hl kk
    refine lv_iload_n hx hb dX3_fold_33 rfl (lv_at hl 3 rfl) ?_
    refine lv_iload_n hx hb dX3_fold_34 rfl (lv_at hl 1 rfl) ?_
    refine lv_icmp_gt (tgt := 52) hx hb dX3_fold_35 (by decide) (fun c1 => ?_) (fun c1 => ?_)
    · have hj6 : j = mm + 1 := by
        have := (nI_ltI (a := mm) (b := j) (by omega) (by omega)).mp c1
        omega
      exact kk acc H locs ls (by rw [hacc, hj6]) hw (lv_sub hl [0, 1, 2] rfl)
    · have hj7 : j ≤ mm := by
        rcases Nat.lt_or_ge mm j with q | q
        · exact absurd ((nI_ltI (by omega) (by omega)).mpr q) c1
        · exact q
      have hj6 : j < 60 := by omega
      refine lv_iload_n hx hb dX3_fold_38 rfl (lv_at hl 2 rfl) ?_
      refine lv_aload_n hx hb dX3_fold_39 rfl (lv_at hl 0 rfl) ?_
      refine lv_iload_n hx hb dX3_fold_40 rfl (lv_at hl 3 rfl) ?_
      refine xc_Mi hw (va_runV (As := [.int (nI j)]) (rest := [.int acc]) S (c_X3_sumLaidOn l D cy ad n σ j hj6 _) (cwV 1 S.2.2.2.2 gX3_fold_X3_sumLaidOn rfl rfl rfl (by decide +kernel) ⟨Nat.le_of_ble_eq_true rfl, Nat.le_of_ble_eq_true rfl⟩) (xc_preV (cX_ok _ _) hX hw (k_0 n) (cE_0 _ _ _ _) rfl rfl) rfl rfl hl.1 rfl (lv_room (Nat.le_of_ble_eq_true rfl)) dX3_fold_41 ⟨Nat.le_of_ble_eq_true rfl, Nat.le_of_ble_eq_true rfl⟩) (fun r9 u H locs hp hw => ?_)
      obtain ⟨hu9, rfl⟩ := hp
      rw [hu9] at hw
      clear hu9
      refine lv_iadd hx hb dX3_fold_44 ?_
      refine lv_istore_n (lv' := [(2, .int (acc + (slF σ j 4))), (0, .ref (ad 0)), (1, .int (nI mm)), (3, .int (nI j))]) hx hb dX3_fold_45 rfl hl (by decide) rfl (fun ls hl => ?_)
      refine lv_iinc (v := nI (j + 1)) (lv' := [(3, .int (nI (j + 1))), (2, .int (acc + (slF σ j 4))), (0, .ref (ad 0)), (1, .int (nI mm))]) hx hb dX3_fold_46 hl (k := 3) rfl (nI_1 j) (by decide) rfl (fun ls hl => ?_)
      refine lv_goto (tgt := 33) hx hb dX3_fold_49 (by decide) ?_
      exact ih (j + 1) (acc + (slF σ j 4)) H locs ls (by omega) (by omega) (by omega) (by rw [hacc, show j + 1 - fo σ = (j - fo σ) + 1 by omega]; show _ = flF _ _ _ + slF σ (fo σ + (j - fo σ)) 4; rw [show fo σ + (j - fo σ) = j by omega]) hw (lv_sub hl [2, 3, 1, 0] rfl) kk
theorem inX3_fold_X3 : (∀ w ∈ wsX30, w ∈ wsX3_fold) := by decide +kernel
theorem inX3_fold_xIA : (∀ w ∈ (vx_atS RX3 163 xIA nm2).filter goodWord, w ∈ wsX3_fold) := by
  intro w h
  first | exact List.mem_cons_of_mem _ (List.mem_append_right _ h) | exact List.mem_cons_of_mem _ (List.mem_append_left _ (List.mem_append_right _ h)) | exact List.mem_cons_of_mem _ (List.mem_append_left _ (List.mem_append_left _ (List.mem_append_right _ h)))
theorem inX3_fold_xIA1 : Cond.classLink RX3 159 xIA ∈ wsX3_fold ∧ Cond.initialized xIA ∈ wsX3_fold := ⟨by decide +kernel, by decide +kernel⟩
set_option maxHeartbeats 1000000 in
set_option maxRecDepth 100000 in
/-- fold -/
theorem c_X3_fold (l : Launch) (hl9 : l.stackTraces = false) (D : va_G) (cy : Nat → ClassId) (ad : Nat → Nat) (n : Nat) (σ : S3) (x0 : Int32) : CT l yX3_fold wsX3_fold rmX3_fold D cy ad n [.ref (ad 0), .int x0] σ (xPi fun r u => (endP σ x0 ∧ ¬ x0 < nI (fo σ)) ∧ r = flF σ (fo σ) (x0.toNatClampNeg + 1 - fo σ) ∧ u = su σ 20 0 0 (nI (x0.toNatClampNeg + 1))) (e1 xIA (endP σ x0 ∧ ¬ x0 < nI (fo σ))) := by
  refine xs_T (cc := cX3_fold) (maxL := 4) (ret := (some .int)) (by decide +kernel) rfl (Nat.le_of_ble_eq_true rfl) ?_
  intro p e s m below meth c ls S hr hlocks htb hw hX hl
  have S : CallFix p m c cX3_fold 4 s [.ref (ad 0), .int x0].toArray wsX3_fold RX3 := S
  have hx := S.1
  have hb := S.2.1
  have hts := S.2.2.2.2
  have htr := hl9
  have hl : lv_has ls 4 [(0, .ref (ad 0)), (1, .int x0)] := hl
  refine lv_aload_n hx hb dX3_fold_0 rfl (lv_at hl 0 rfl) ?_
  refine lv_iload_n hx hb dX3_fold_1 rfl (lv_at hl 1 rfl) ?_
  refine xc_Mi hw (va_runV (As := [.int x0]) (rest := []) S (c_X3_hasEnded l D cy ad n σ x0 _) (cwV 1 S.2.2.2.2 gX3_fold_X3_hasEnded rfl rfl rfl (by decide +kernel) ⟨Nat.le_of_ble_eq_true rfl, Nat.le_of_ble_eq_true rfl⟩) (xc_preV (cX_ok _ _) hX hw (k_0 n) (cE_0 _ _ _ _) rfl rfl) rfl rfl hl.1 rfl (lv_room (Nat.le_of_ble_eq_true rfl)) dX3_fold_2 ⟨Nat.le_of_ble_eq_true rfl, Nat.le_of_ble_eq_true rfl⟩) (fun r9 u H locs hp hw => ?_)
  obtain ⟨hu9, rfl⟩ := hp
  rw [hu9] at hw
  clear hu9
  refine lv_if_eq (tgt := 16) hx hb dX3_fold_5 (by decide) (fun c1 => ?_) (fun c1 => ?_)
  · exact xt_throw (text := "the month has not ended, or is folded") S htr hlocks htb hw hX hl.1 (by decide +kernel) inX3_fold_xIA1.1 inX3_fold_xIA1.2 inX3_fold_xIA tg_IA (by decide +kernel) dX3_fold_16 dX3_fold_19 dX3_fold_20 dX3_fold_22 dX3_fold_25 (Nat.le_of_ble_eq_true rfl) (Nat.le_of_ble_eq_true rfl) (Nat.le_of_ble_eq_true rfl) (Nat.le_of_ble_eq_true rfl) (⟨rfl, fun h => (heI_0.mp c1) h.1⟩)
  · have he := heI_1.mp c1
    obtain ⟨mm, hmm, rfl⟩ := i32_ix he.1 he.2.1
    refine lv_iload_n hx hb dX3_fold_8 rfl (lv_at hl 1 rfl) ?_
    refine lv_aload_n hx hb dX3_fold_9 rfl (lv_at hl 0 rfl) ?_
    refine xr_get S hw (j := 7) (k_0 n) (cE_0 _ _ _ _) rfl inX3_fold_X3 (by decide) (hts (.fieldLink RX3 44 "UnionOffice" "foldedMonths" "I") (by decide +kernel)) rfl dX3_fold_10 ?_
    refine lv_icmp_ge (tgt := 26) hx hb dX3_fold_13 (by decide) (fun c2 => ?_) (fun c2 => ?_)
    · refine lv_iconst (v := 0) hx hb dX3_fold_26 (by decide) ?_
      refine lv_istore_n (lv' := [(2, .int 0), (0, .ref (ad 0)), (1, .int (nI mm))]) hx hb dX3_fold_27 rfl hl (by decide) rfl (fun ls hl => ?_)
      refine lv_aload_n hx hb dX3_fold_28 rfl (lv_at hl 1 rfl) ?_
      refine xr_get S hw (j := 7) (k_0 n) (cE_0 _ _ _ _) rfl inX3_fold_X3 (by decide) (hts (.fieldLink RX3 44 "UnionOffice" "foldedMonths" "I") (by decide +kernel)) rfl dX3_fold_29 ?_
      refine lv_istore_n (lv' := [(3, .int (nI (fo σ))), (2, .int 0), (0, .ref (ad 0)), (1, .int (nI mm))]) hx hb dX3_fold_32 rfl hl (by decide) rfl (fun ls hl => ?_)
      have hfl := fo_lt σ
      have hfm : fo σ ≤ mm := (nI_leI hfl (by omega)).mp c2
      refine lp_X3_fold S hmm hX 62 (fo σ) 0 _ _ ls (by omega) (by omega) (Nat.le_refl _) (by rw [Nat.sub_self]; rfl) hw (lv_sub hl [2, 3, 1, 0] rfl) (fun r H locs ls hr9 hw hl => ?_)
      refine lv_aload_n hx hb dX3_fold_52 rfl (lv_at hl 0 rfl) ?_
      refine lv_iload_n hx hb dX3_fold_53 rfl (lv_at hl 1 rfl) ?_
      refine lv_iconst (v := 1) hx hb dX3_fold_54 (by decide) ?_
      refine lv_iadd hx hb dX3_fold_55 ?_
      rw [show nI mm + 1 = nI (mm + 1) from nI_1 _]
      obtain ⟨σ1, hσ1⟩ : ∃ y : S3, y = su σ 20 0 0 (nI (mm + 1)) := ⟨_, rfl⟩
      refine xr_put S hw tyX3 tyX3_ok nmX3 (j := 7) (k_0 n) (cE_0 _ _ _ _) rfl inX3_fold_X3 (by decide) (hts (.fieldLink RX3 44 "UnionOffice" "foldedMonths" "I") (by decide +kernel)) rfl (tyX3_ok 7 (by decide)) rfl rfl (Nat.le_of_ble_eq_true rfl) dX3_fold_56 (cE cy ad n σ1) (by rw [hσ1]; exact up_fold _ _ _ _ (show mm + 1 < 2 ^ 31 by omega)) (fun H locs hw => ?_)
      refine lv_iload_n hx hb dX3_fold_59 rfl (lv_at hl 2 rfl) ?_
      exact vx_ret (xe_i S.1 S.2.1 hr hlocks hw (⟨⟨he, Int32.not_lt.mpr c2⟩, by rw [cl_nI (by omega)]; exact hr9, by rw [cl_nI (by omega)]; exact hσ1⟩) (Nat.le_of_ble_eq_true rfl) (Nat.le_of_ble_eq_true rfl) dX3_fold_60)
    · exact xt_throw (text := "the month has not ended, or is folded") S htr hlocks htb hw hX hl.1 (by decide +kernel) inX3_fold_xIA1.1 inX3_fold_xIA1.2 inX3_fold_xIA tg_IA (by decide +kernel) dX3_fold_16 dX3_fold_19 dX3_fold_20 dX3_fold_22 dX3_fold_25 (Nat.le_of_ble_eq_true rfl) (Nat.le_of_ble_eq_true rfl) (Nat.le_of_ble_eq_true rfl) (Nat.le_of_ble_eq_true rfl) (⟨rfl, fun h => c2 (Int32.not_lt.mp h.2)⟩)
abbrev rmX3_day : Room := { frames := 0, cells := 0, slots := 0, locals := 0 }
theorem inX3_day_X3 : (∀ w ∈ wsX30, w ∈ wsX3_day) := by decide +kernel
set_option maxHeartbeats 1000000 in
set_option maxRecDepth 100000 in
/-- day -/
theorem c_X3_day (l : Launch) (D : va_G) (cy : Nat → ClassId) (ad : Nat → Nat) (n : Nat) (σ : S3)  : CM l yX3_day wsX3_day rmX3_day D cy ad n [.ref (ad 0)] σ (xPi fun r u => u = σ ∧ r = σ 18 0 0) := by
  refine xs_M (cc := cX3_day) (maxL := 1) (ret := (some .int)) (by decide +kernel) rfl (Nat.le_of_ble_eq_true rfl) ?_
  intro p e s m below meth c ls S hr hlocks hnm hw hX hl
  have S : CallFix p m c cX3_day 1 s [.ref (ad 0)].toArray wsX3_day RX3 := S
  have hx := S.1
  have hb := S.2.1
  have hts := S.2.2.2.2
  have hl : lv_has ls 1 [(0, .ref (ad 0))] := hl
  refine lv_aload_n hx hb dX3_day_0 rfl (lv_at hl 0 rfl) ?_
  refine xr_get S hw (j := 5) (k_0 n) (cE_0 _ _ _ _) rfl inX3_day_X3 (by decide) (hts (.fieldLink RX3 38 "UnionOffice" "today" "I") (by decide +kernel)) rfl dX3_day_1 ?_
  exact xe_i S.1 S.2.1 hr hlocks hw (⟨rfl, rfl⟩) (Nat.le_of_ble_eq_true rfl) (Nat.le_of_ble_eq_true rfl) dX3_day_4
abbrev rmX3_fund : Room := { frames := 0, cells := 0, slots := 0, locals := 0 }
theorem inX3_fund_X3 : (∀ w ∈ wsX30, w ∈ wsX3_fund) := by decide +kernel
set_option maxHeartbeats 1000000 in
set_option maxRecDepth 100000 in
/-- fund -/
theorem c_X3_fund (l : Launch) (D : va_G) (cy : Nat → ClassId) (ad : Nat → Nat) (n : Nat) (σ : S3)  : CM l yX3_fund wsX3_fund rmX3_fund D cy ad n [.ref (ad 0)] σ (xPi fun r u => u = σ ∧ r = σ 19 0 0) := by
  refine xs_M (cc := cX3_fund) (maxL := 1) (ret := (some .int)) (by decide +kernel) rfl (Nat.le_of_ble_eq_true rfl) ?_
  intro p e s m below meth c ls S hr hlocks hnm hw hX hl
  have S : CallFix p m c cX3_fund 1 s [.ref (ad 0)].toArray wsX3_fund RX3 := S
  have hx := S.1
  have hb := S.2.1
  have hts := S.2.2.2.2
  have hl : lv_has ls 1 [(0, .ref (ad 0))] := hl
  refine lv_aload_n hx hb dX3_fund_0 rfl (lv_at hl 0 rfl) ?_
  refine xr_get S hw (j := 6) (k_0 n) (cE_0 _ _ _ _) rfl inX3_fund_X3 (by decide) (hts (.fieldLink RX3 41 "UnionOffice" "inFund" "I") (by decide +kernel)) rfl dX3_fund_1 ?_
  exact xe_i S.1 S.2.1 hr hlocks hw (⟨rfl, rfl⟩) (Nat.le_of_ble_eq_true rfl) (Nat.le_of_ble_eq_true rfl) dX3_fund_4
abbrev rmX3_owed : Room := { frames := 7, cells := 1, slots := 6, locals := 105 }
set_option maxHeartbeats 1000000 in
set_option maxRecDepth 100000 in
/-- owed -/
theorem c_X3_owed (l : Launch) (hl9 : l.stackTraces = false) (D : va_G) (cy : Nat → ClassId) (ad : Nat → Nat) (n : Nat) (σ : S3) (hn : n ≤ 16) (x0 : Int32) : CT l yX3_owed wsX3_owed rmX3_owed D cy ad n [.ref (ad 0), .int x0] σ (xPi fun r u => inI x0 n ∧ u = σ ∧ r = sOwed σ x0.toNatClampNeg) (e1 xIO (inI x0 n)) := by
  refine xs_T (cc := cX3_owed) (maxL := 2) (ret := (some .int)) (by decide +kernel) rfl (Nat.le_of_ble_eq_true rfl) ?_
  intro p e s m below meth c ls S hr hlocks htb hw hX hl
  have S : CallFix p m c cX3_owed 2 s [.ref (ad 0), .int x0].toArray wsX3_owed RX3 := S
  have hx := S.1
  have hb := S.2.1
  have hts := S.2.2.2.2
  have htr := hl9
  have hl : lv_has ls 2 [(0, .ref (ad 0)), (1, .int x0)] := hl
  refine lv_aload_n hx hb dX3_owed_0 rfl (lv_at hl 0 rfl) ?_
  refine lv_iload_n hx hb dX3_owed_1 rfl (lv_at hl 1 rfl) ?_
  refine xc_T htb hlocks hw (vx_runV (As := [.int x0]) (rest := []) S (c_X3_memberAt l htr D cy ad n σ hn x0 _) (cwV 1 S.2.2.2.2 gX3_owed_X3_memberAt rfl rfl rfl (by decide +kernel) ⟨Nat.le_of_ble_eq_true rfl, Nat.le_of_ble_eq_true rfl⟩) (xc_preV (cX_ok _ _) hX hw (k_0 n) (cE_0 _ _ _ _) rfl rfl) rfl rfl hl.1 rfl (lv_room (Nat.le_of_ble_eq_true rfl)) dX3_owed_2 ⟨Nat.le_of_ble_eq_true rfl, Nat.le_of_ble_eq_true rfl⟩) (fun _ he => he) (Nat.le_of_ble_eq_true rfl) (Nat.le_of_ble_eq_true rfl) (fun v9 u H locs hp hw => ?_)
  obtain ⟨_, rfl, hu9, hin1, rfl⟩ := hp
  rw [hu9] at hw
  clear hu9
  refine xc_Mi hw (va_runVN (As := []) (rest := []) S (c_X2_sumOwed l D cy ad n σ x0.toNatClampNeg hin1.2 _) ⟨va_cnB 0 S.2.2.2.2 gX3_owed_X2_sumOwed_n96 rfl rfl rfl (hX.1.w (w := .methodLinkNest RX3 96 yX2_sumOwed "UnionOffice") (by decide +kernel)) (hts (.initialized RX2) (by decide +kernel)) (by decide +kernel) ⟨Nat.le_of_ble_eq_true rfl, Nat.le_of_ble_eq_true rfl⟩, hts (.instanceMethod yX2_sumOwed) (by decide +kernel), hts (.selects RX2 yX2_sumOwed yX2_sumOwed) (by decide +kernel)⟩ (xc_preV (cX_ok _ _) hX hw (k_m hin1.2) (cE_m _ _ _ _ _) rfl rfl) rfl rfl hl.1 rfl (lv_room (Nat.le_of_ble_eq_true rfl)) dX3_owed_5 ⟨Nat.le_of_ble_eq_true rfl, Nat.le_of_ble_eq_true rfl⟩) (fun r9 u H locs hp hw => ?_)
  obtain ⟨hu9, rfl⟩ := hp
  rw [hu9] at hw
  clear hu9
  exact vx_ret (xe_i S.1 S.2.1 hr hlocks hw (⟨hin1, rfl, rfl⟩) (Nat.le_of_ble_eq_true rfl) (Nat.le_of_ble_eq_true rfl) dX3_owed_8)
abbrev rmX3_credit : Room := { frames := 7, cells := 1, slots := 6, locals := 105 }
theorem inX3_credit_X2 : (∀ w ∈ wsX20, w ∈ wsX3_credit) := by decide +kernel
set_option maxHeartbeats 1000000 in
set_option maxRecDepth 100000 in
/-- credit -/
theorem c_X3_credit (l : Launch) (hl9 : l.stackTraces = false) (D : va_G) (cy : Nat → ClassId) (ad : Nat → Nat) (n : Nat) (σ : S3) (hn : n ≤ 16) (x0 : Int32) : CT l yX3_credit wsX3_credit rmX3_credit D cy ad n [.ref (ad 0), .int x0] σ (xPi fun r u => inI x0 n ∧ u = σ ∧ r = σ 5 x0.toNatClampNeg 0) (e1 xIO (inI x0 n)) := by
  refine xs_T (cc := cX3_credit) (maxL := 2) (ret := (some .int)) (by decide +kernel) rfl (Nat.le_of_ble_eq_true rfl) ?_
  intro p e s m below meth c ls S hr hlocks htb hw hX hl
  have S : CallFix p m c cX3_credit 2 s [.ref (ad 0), .int x0].toArray wsX3_credit RX3 := S
  have hx := S.1
  have hb := S.2.1
  have hts := S.2.2.2.2
  have htr := hl9
  have hl : lv_has ls 2 [(0, .ref (ad 0)), (1, .int x0)] := hl
  refine lv_aload_n hx hb dX3_credit_0 rfl (lv_at hl 0 rfl) ?_
  refine lv_iload_n hx hb dX3_credit_1 rfl (lv_at hl 1 rfl) ?_
  refine xc_T htb hlocks hw (vx_runV (As := [.int x0]) (rest := []) S (c_X3_memberAt l htr D cy ad n σ hn x0 _) (cwV 1 S.2.2.2.2 gX3_credit_X3_memberAt rfl rfl rfl (by decide +kernel) ⟨Nat.le_of_ble_eq_true rfl, Nat.le_of_ble_eq_true rfl⟩) (xc_preV (cX_ok _ _) hX hw (k_0 n) (cE_0 _ _ _ _) rfl rfl) rfl rfl hl.1 rfl (lv_room (Nat.le_of_ble_eq_true rfl)) dX3_credit_2 ⟨Nat.le_of_ble_eq_true rfl, Nat.le_of_ble_eq_true rfl⟩) (fun _ he => he) (Nat.le_of_ble_eq_true rfl) (Nat.le_of_ble_eq_true rfl) (fun v9 u H locs hp hw => ?_)
  obtain ⟨_, rfl, hu9, hin1, rfl⟩ := hp
  rw [hu9] at hw
  clear hu9
  refine xr_getN S hw (j := 7) (k_m hin1.2) (cE_m _ _ _ _ _) rfl inX3_credit_X2 (by decide) (hX.1.w (w := .fieldLinkNest RX3 167 "UnionOffice$Member" "leftOver" "I" "UnionOffice") (by decide +kernel)) rfl dX3_credit_5 ?_
  exact vx_ret (xe_i S.1 S.2.1 hr hlocks hw (⟨hin1, rfl, rfl⟩) (Nat.le_of_ble_eq_true rfl) (Nat.le_of_ble_eq_true rfl) dX3_credit_8)
abbrev rmX3_hasStanding : Room := { frames := 7, cells := 1, slots := 6, locals := 105 }
theorem inX3_hasStanding_X3 : (∀ w ∈ wsX30, w ∈ wsX3_hasStanding) := by decide +kernel
set_option maxHeartbeats 1000000 in
set_option maxRecDepth 100000 in
/-- hasStanding -/
theorem c_X3_hasStanding (l : Launch) (hl9 : l.stackTraces = false) (D : va_G) (cy : Nat → ClassId) (ad : Nat → Nat) (n : Nat) (σ : S3) (hn : n ≤ 16) (x0 : Int32) : CT l yX3_hasStanding wsX3_hasStanding rmX3_hasStanding D cy ad n [.ref (ad 0), .int x0] σ (xPi fun r u => inI x0 n ∧ u = σ ∧ r = stI σ x0.toNatClampNeg (σ 18 0 0)) (e1 xIO (inI x0 n)) := by
  refine xs_T (cc := cX3_hasStanding) (maxL := 2) (ret := (some .boolean)) (by decide +kernel) rfl (Nat.le_of_ble_eq_true rfl) ?_
  intro p e s m below meth c ls S hr hlocks htb hw hX hl
  have S : CallFix p m c cX3_hasStanding 2 s [.ref (ad 0), .int x0].toArray wsX3_hasStanding RX3 := S
  have hx := S.1
  have hb := S.2.1
  have hts := S.2.2.2.2
  have htr := hl9
  have hl : lv_has ls 2 [(0, .ref (ad 0)), (1, .int x0)] := hl
  refine lv_aload_n hx hb dX3_hasStanding_0 rfl (lv_at hl 0 rfl) ?_
  refine lv_iload_n hx hb dX3_hasStanding_1 rfl (lv_at hl 1 rfl) ?_
  refine xc_T htb hlocks hw (vx_runV (As := [.int x0]) (rest := []) S (c_X3_memberAt l htr D cy ad n σ hn x0 _) (cwV 1 S.2.2.2.2 gX3_hasStanding_X3_memberAt rfl rfl rfl (by decide +kernel) ⟨Nat.le_of_ble_eq_true rfl, Nat.le_of_ble_eq_true rfl⟩) (xc_preV (cX_ok _ _) hX hw (k_0 n) (cE_0 _ _ _ _) rfl rfl) rfl rfl hl.1 rfl (lv_room (Nat.le_of_ble_eq_true rfl)) dX3_hasStanding_2 ⟨Nat.le_of_ble_eq_true rfl, Nat.le_of_ble_eq_true rfl⟩) (fun _ he => he) (Nat.le_of_ble_eq_true rfl) (Nat.le_of_ble_eq_true rfl) (fun v9 u H locs hp hw => ?_)
  obtain ⟨_, rfl, hu9, hin1, rfl⟩ := hp
  rw [hu9] at hw
  clear hu9
  refine lv_aload_n hx hb dX3_hasStanding_5 rfl (lv_at hl 0 rfl) ?_
  refine xr_get S hw (j := 5) (k_0 n) (cE_0 _ _ _ _) rfl inX3_hasStanding_X3 (by decide) (hts (.fieldLink RX3 38 "UnionOffice" "today" "I") (by decide +kernel)) rfl dX3_hasStanding_6 ?_
  refine xc_Mi hw (va_runVN (As := [.int (σ 18 0 0)]) (rest := []) S (c_X2_standsOn l D cy ad n σ x0.toNatClampNeg hin1.2 (σ 18 0 0) _) ⟨va_cnB 1 S.2.2.2.2 gX3_hasStanding_X2_standsOn_n120 rfl rfl rfl (hX.1.w (w := .methodLinkNest RX3 120 yX2_standsOn "UnionOffice") (by decide +kernel)) (hts (.initialized RX2) (by decide +kernel)) (by decide +kernel) ⟨Nat.le_of_ble_eq_true rfl, Nat.le_of_ble_eq_true rfl⟩, hts (.instanceMethod yX2_standsOn) (by decide +kernel), hts (.selects RX2 yX2_standsOn yX2_standsOn) (by decide +kernel)⟩ (xc_preV (cX_ok _ _) hX hw (k_m hin1.2) (cE_m _ _ _ _ _) rfl rfl) rfl rfl hl.1 rfl (lv_room (Nat.le_of_ble_eq_true rfl)) dX3_hasStanding_9 ⟨Nat.le_of_ble_eq_true rfl, Nat.le_of_ble_eq_true rfl⟩) (fun r9 u H locs hp hw => ?_)
  obtain ⟨hu9, rfl⟩ := hp
  rw [hu9] at hw
  clear hu9
  exact vx_ret (xe_z S.1 S.2.1 hr (stI_01 _ _ _) hlocks hw (⟨hin1, rfl, rfl⟩) (Nat.le_of_ble_eq_true rfl) (Nat.le_of_ble_eq_true rfl) dX3_hasStanding_12)
abbrev rmX3_strikePay : Room := { frames := 7, cells := 1, slots := 6, locals := 105 }
theorem inX3_strikePay_X2 : (∀ w ∈ wsX20, w ∈ wsX3_strikePay) := by decide +kernel
set_option maxHeartbeats 1000000 in
set_option maxRecDepth 100000 in
/-- strikePay -/
theorem c_X3_strikePay (l : Launch) (hl9 : l.stackTraces = false) (D : va_G) (cy : Nat → ClassId) (ad : Nat → Nat) (n : Nat) (σ : S3) (hn : n ≤ 16) (x0 : Int32) : CT l yX3_strikePay wsX3_strikePay rmX3_strikePay D cy ad n [.ref (ad 0), .int x0] σ (xPi fun r u => inI x0 n ∧ u = σ ∧ r = σ 6 x0.toNatClampNeg 0) (e1 xIO (inI x0 n)) := by
  refine xs_T (cc := cX3_strikePay) (maxL := 2) (ret := (some .int)) (by decide +kernel) rfl (Nat.le_of_ble_eq_true rfl) ?_
  intro p e s m below meth c ls S hr hlocks htb hw hX hl
  have S : CallFix p m c cX3_strikePay 2 s [.ref (ad 0), .int x0].toArray wsX3_strikePay RX3 := S
  have hx := S.1
  have hb := S.2.1
  have hts := S.2.2.2.2
  have htr := hl9
  have hl : lv_has ls 2 [(0, .ref (ad 0)), (1, .int x0)] := hl
  refine lv_aload_n hx hb dX3_strikePay_0 rfl (lv_at hl 0 rfl) ?_
  refine lv_iload_n hx hb dX3_strikePay_1 rfl (lv_at hl 1 rfl) ?_
  refine xc_T htb hlocks hw (vx_runV (As := [.int x0]) (rest := []) S (c_X3_memberAt l htr D cy ad n σ hn x0 _) (cwV 1 S.2.2.2.2 gX3_strikePay_X3_memberAt rfl rfl rfl (by decide +kernel) ⟨Nat.le_of_ble_eq_true rfl, Nat.le_of_ble_eq_true rfl⟩) (xc_preV (cX_ok _ _) hX hw (k_0 n) (cE_0 _ _ _ _) rfl rfl) rfl rfl hl.1 rfl (lv_room (Nat.le_of_ble_eq_true rfl)) dX3_strikePay_2 ⟨Nat.le_of_ble_eq_true rfl, Nat.le_of_ble_eq_true rfl⟩) (fun _ he => he) (Nat.le_of_ble_eq_true rfl) (Nat.le_of_ble_eq_true rfl) (fun v9 u H locs hp hw => ?_)
  obtain ⟨_, rfl, hu9, hin1, rfl⟩ := hp
  rw [hu9] at hw
  clear hu9
  refine xr_getN S hw (j := 8) (k_m hin1.2) (cE_m _ _ _ _ _) rfl inX3_strikePay_X2 (by decide) (hX.1.w (w := .fieldLinkNest RX3 180 "UnionOffice$Member" "strikePayHad" "I" "UnionOffice") (by decide +kernel)) rfl dX3_strikePay_5 ?_
  exact vx_ret (xe_i S.1 S.2.1 hr hlocks hw (⟨hin1, rfl, rfl⟩) (Nat.le_of_ble_eq_true rfl) (Nat.le_of_ble_eq_true rfl) dX3_strikePay_8)
abbrev rmX3_delegates : Room := { frames := 7, cells := 1, slots := 6, locals := 105 }
theorem inX3_delegates_X1 : (∀ w ∈ wsX10, w ∈ wsX3_delegates) := by decide +kernel
set_option maxHeartbeats 1000000 in
set_option maxRecDepth 100000 in
/-- delegates -/
theorem c_X3_delegates (l : Launch) (hl9 : l.stackTraces = false) (D : va_G) (cy : Nat → ClassId) (ad : Nat → Nat) (n : Nat) (σ : S3) (x0 : Int32) : CT l yX3_delegates wsX3_delegates rmX3_delegates D cy ad n [.ref (ad 0), .int x0] σ (xPi fun r u => inI x0 4 ∧ u = σ ∧ r = σ 16 x0.toNatClampNeg 0) (e1 xIO (inI x0 4)) := by
  refine xs_T (cc := cX3_delegates) (maxL := 2) (ret := (some .int)) (by decide +kernel) rfl (Nat.le_of_ble_eq_true rfl) ?_
  intro p e s m below meth c ls S hr hlocks htb hw hX hl
  have S : CallFix p m c cX3_delegates 2 s [.ref (ad 0), .int x0].toArray wsX3_delegates RX3 := S
  have hx := S.1
  have hb := S.2.1
  have hts := S.2.2.2.2
  have htr := hl9
  have hl : lv_has ls 2 [(0, .ref (ad 0)), (1, .int x0)] := hl
  refine lv_aload_n hx hb dX3_delegates_0 rfl (lv_at hl 0 rfl) ?_
  refine lv_iload_n hx hb dX3_delegates_1 rfl (lv_at hl 1 rfl) ?_
  refine xc_T htb hlocks hw (vx_runV (As := [.int x0]) (rest := []) S (c_X3_branchAt l htr D cy ad n σ x0 _) (cwV 1 S.2.2.2.2 gX3_delegates_X3_branchAt rfl rfl rfl (by decide +kernel) ⟨Nat.le_of_ble_eq_true rfl, Nat.le_of_ble_eq_true rfl⟩) (xc_preV (cX_ok _ _) hX hw (k_0 n) (cE_0 _ _ _ _) rfl rfl) rfl rfl hl.1 rfl (lv_room (Nat.le_of_ble_eq_true rfl)) dX3_delegates_2 ⟨Nat.le_of_ble_eq_true rfl, Nat.le_of_ble_eq_true rfl⟩) (fun _ he => he) (Nat.le_of_ble_eq_true rfl) (Nat.le_of_ble_eq_true rfl) (fun v9 u H locs hp hw => ?_)
  obtain ⟨_, rfl, hu9, hin1, rfl⟩ := hp
  rw [hu9] at hw
  clear hu9
  refine xr_getN S hw (j := 6) (k_br n hin1.2) (cE_br _ _ _ _ hin1.2) rfl inX3_delegates_X1 (by decide) (hX.1.w (w := .fieldLinkNest RX3 183 "UnionOffice$Branch" "delegatesOfYear" "I" "UnionOffice") (by decide +kernel)) rfl dX3_delegates_5 ?_
  exact vx_ret (xe_i S.1 S.2.1 hr hlocks hw (⟨hin1, rfl, rfl⟩) (Nat.le_of_ble_eq_true rfl) (Nat.le_of_ble_eq_true rfl) dX3_delegates_8)
abbrev rmX3_isOut : Room := { frames := 7, cells := 1, slots := 6, locals := 105 }
theorem inX3_isOut_X1 : (∀ w ∈ wsX10, w ∈ wsX3_isOut) := by decide +kernel
set_option maxHeartbeats 1000000 in
set_option maxRecDepth 100000 in
/-- isOut -/
theorem c_X3_isOut (l : Launch) (hl9 : l.stackTraces = false) (D : va_G) (cy : Nat → ClassId) (ad : Nat → Nat) (n : Nat) (σ : S3) (h14 : ∀ b, b < 4 → σ 14 b 0 = 0 ∨ σ 14 b 0 = 1) (x0 : Int32) : CT l yX3_isOut wsX3_isOut rmX3_isOut D cy ad n [.ref (ad 0), .int x0] σ (xPi fun r u => inI x0 4 ∧ u = σ ∧ r = σ 14 x0.toNatClampNeg 0) (e1 xIO (inI x0 4)) := by
  refine xs_T (cc := cX3_isOut) (maxL := 2) (ret := (some .boolean)) (by decide +kernel) rfl (Nat.le_of_ble_eq_true rfl) ?_
  intro p e s m below meth c ls S hr hlocks htb hw hX hl
  have S : CallFix p m c cX3_isOut 2 s [.ref (ad 0), .int x0].toArray wsX3_isOut RX3 := S
  have hx := S.1
  have hb := S.2.1
  have hts := S.2.2.2.2
  have htr := hl9
  have hl : lv_has ls 2 [(0, .ref (ad 0)), (1, .int x0)] := hl
  refine lv_aload_n hx hb dX3_isOut_0 rfl (lv_at hl 0 rfl) ?_
  refine lv_iload_n hx hb dX3_isOut_1 rfl (lv_at hl 1 rfl) ?_
  refine xc_T htb hlocks hw (vx_runV (As := [.int x0]) (rest := []) S (c_X3_branchAt l htr D cy ad n σ x0 _) (cwV 1 S.2.2.2.2 gX3_isOut_X3_branchAt rfl rfl rfl (by decide +kernel) ⟨Nat.le_of_ble_eq_true rfl, Nat.le_of_ble_eq_true rfl⟩) (xc_preV (cX_ok _ _) hX hw (k_0 n) (cE_0 _ _ _ _) rfl rfl) rfl rfl hl.1 rfl (lv_room (Nat.le_of_ble_eq_true rfl)) dX3_isOut_2 ⟨Nat.le_of_ble_eq_true rfl, Nat.le_of_ble_eq_true rfl⟩) (fun _ he => he) (Nat.le_of_ble_eq_true rfl) (Nat.le_of_ble_eq_true rfl) (fun v9 u H locs hp hw => ?_)
  obtain ⟨_, rfl, hu9, hin1, rfl⟩ := hp
  rw [hu9] at hw
  clear hu9
  refine xr_getN S hw (j := 5) (k_br n hin1.2) (cE_br _ _ _ _ hin1.2) rfl inX3_isOut_X1 (by decide) (hX.1.w (w := .fieldLinkNest RX3 108 "UnionOffice$Branch" "isOnStrike" "Z" "UnionOffice") (by decide +kernel)) rfl dX3_isOut_5 ?_
  exact vx_ret (xe_z S.1 S.2.1 hr (h14 _ hin1.2) hlocks hw (⟨hin1, rfl, rfl⟩) (Nat.le_of_ble_eq_true rfl) (Nat.le_of_ble_eq_true rfl) dX3_isOut_8)
abbrev rmX3_laid : Room := { frames := 7, cells := 3, slots := 18, locals := 105 }
theorem inX3_laid_X2 : (∀ w ∈ wsX20, w ∈ wsX3_laid) := by decide +kernel
theorem inX3_laid_X3 : (∀ w ∈ wsX30, w ∈ wsX3_laid) := by decide +kernel
theorem inX3_laid_xIS : (∀ w ∈ (vx_atS RX3 67 xIS nm2).filter goodWord, w ∈ wsX3_laid) := by
  intro w h
  first | exact List.mem_cons_of_mem _ (List.mem_append_right _ h) | exact List.mem_cons_of_mem _ (List.mem_append_left _ (List.mem_append_right _ h)) | exact List.mem_cons_of_mem _ (List.mem_append_left _ (List.mem_append_left _ (List.mem_append_right _ h)))
theorem inX3_laid_xIS1 : Cond.classLink RX3 63 xIS ∈ wsX3_laid ∧ Cond.initialized xIS ∈ wsX3_laid := ⟨by decide +kernel, by decide +kernel⟩
set_option maxHeartbeats 1000000 in
set_option maxRecDepth 100000 in
/-- laid -/
theorem c_X3_laid (l : Launch) (hl9 : l.stackTraces = false) (D : va_G) (cy : Nat → ClassId) (ad : Nat → Nat) (n : Nat) (σ : S3) (hn : n ≤ 16) (x0 x1 : Int32) : CT l yX3_laid wsX3_laid rmX3_laid D cy ad n [.ref (ad 0), .int x0, .int x1] σ (xPi fun r u => (inI x0 n ∧ endP σ x1) ∧ ¬ x1 < nI (fo σ) ∧ u = σ ∧ r = σ 8 x0.toNatClampNeg x1.toNatClampNeg) (e2 xIO xIS (inI x0 n ∧ endP σ x1) (¬ x1 < nI (fo σ))) := by
  refine xs_T (cc := cX3_laid) (maxL := 4) (ret := (some .int)) (by decide +kernel) rfl (Nat.le_of_ble_eq_true rfl) ?_
  intro p e s m below meth c ls S hr hlocks htb hw hX hl
  have S : CallFix p m c cX3_laid 4 s [.ref (ad 0), .int x0, .int x1].toArray wsX3_laid RX3 := S
  have hx := S.1
  have hb := S.2.1
  have hts := S.2.2.2.2
  have htr := hl9
  have hl : lv_has ls 4 [(0, .ref (ad 0)), (1, .int x0), (2, .int x1)] := hl
  refine lv_aload_n hx hb dX3_laid_0 rfl (lv_at hl 0 rfl) ?_
  refine lv_iload_n hx hb dX3_laid_1 rfl (lv_at hl 1 rfl) ?_
  refine xc_T htb hlocks hw (vx_runV (As := [.int x0]) (rest := []) S (c_X3_memberAt l htr D cy ad n σ hn x0 _) (cwV 1 S.2.2.2.2 gX3_laid_X3_memberAt rfl rfl rfl (by decide +kernel) ⟨Nat.le_of_ble_eq_true rfl, Nat.le_of_ble_eq_true rfl⟩) (xc_preV (cX_ok _ _) hX hw (k_0 n) (cE_0 _ _ _ _) rfl rfl) rfl rfl hl.1 rfl (lv_room (Nat.le_of_ble_eq_true rfl)) dX3_laid_2 ⟨Nat.le_of_ble_eq_true rfl, Nat.le_of_ble_eq_true rfl⟩) (fun _ he => Or.inl ⟨he.1, fun h => he.2 h.1⟩) (Nat.le_of_ble_eq_true rfl) (Nat.le_of_ble_eq_true rfl) (fun v9 u H locs hp hw => ?_)
  obtain ⟨_, rfl, hu9, hin1, rfl⟩ := hp
  rw [hu9] at hw
  clear hu9
  refine lv_astore_n (lv' := [(3, .ref (ad (15 + 3 * x0.toNatClampNeg))), (0, .ref (ad 0)), (1, .int x0), (2, .int x1)]) hx hb dX3_laid_5 rfl hl (by decide) rfl (fun ls hl => ?_)
  refine lv_aload_n hx hb dX3_laid_6 rfl (lv_at hl 1 rfl) ?_
  refine lv_iload_n hx hb dX3_laid_7 rfl (lv_at hl 3 rfl) ?_
  refine xc_T htb hlocks hw (vx_runV (As := [.int x1]) (rest := []) S (c_X3_checkEnded l htr D cy ad n σ x1 _) (cwV 1 S.2.2.2.2 gX3_laid_X3_checkEnded rfl rfl rfl (by decide +kernel) ⟨Nat.le_of_ble_eq_true rfl, Nat.le_of_ble_eq_true rfl⟩) (xc_preV (cX_ok _ _) hX hw (k_0 n) (cE_0 _ _ _ _) rfl rfl) rfl rfl hl.1 rfl (lv_room (Nat.le_of_ble_eq_true rfl)) dX3_laid_8 ⟨Nat.le_of_ble_eq_true rfl, Nat.le_of_ble_eq_true rfl⟩) (fun _ he => Or.inl ⟨he.1, fun h => he.2 h.2⟩) (Nat.le_of_ble_eq_true rfl) (Nat.le_of_ble_eq_true rfl) (fun v9 u H locs hp hw => ?_)
  obtain ⟨rfl, hu9, hed1⟩ := hp
  rw [hu9] at hw
  clear hu9
  refine lv_iload_n hx hb dX3_laid_11 rfl (lv_at hl 3 rfl) ?_
  refine lv_aload_n hx hb dX3_laid_12 rfl (lv_at hl 1 rfl) ?_
  refine xr_get S hw (j := 7) (k_0 n) (cE_0 _ _ _ _) rfl inX3_laid_X3 (by decide) (hts (.fieldLink RX3 44 "UnionOffice" "foldedMonths" "I") (by decide +kernel)) rfl dX3_laid_13 ?_
  refine lv_icmp_ge (tgt := 29) hx hb dX3_laid_16 (by decide) (fun c1 => ?_) (fun c1 => ?_)
  · refine lv_aload_n hx hb dX3_laid_29 rfl (lv_at hl 0 rfl) ?_
    refine xr_getN S hw (j := 2) (k_m hin1.2) (cE_m _ _ _ _ _) rfl inX3_laid_X2 (by decide) (hX.1.w (w := .fieldLinkNest RX3 175 "UnionOffice$Member" "laidOn" "[I" "UnionOffice") (by decide +kernel)) rfl dX3_laid_30 ?_
    refine lv_iload_n hx hb dX3_laid_33 rfl (lv_at hl 3 rfl) ?_
    refine xr_iald S hw (t0 := 0) (k_ml hin1.2) (cE_ml _ _ _ _ _) rfl hed1.vp dX3_laid_34 ?_
    exact vx_ret (xe_i S.1 S.2.1 hr hlocks hw (⟨⟨hin1, hed1⟩, Int32.not_lt.mpr c1, rfl, rfl⟩) (Nat.le_of_ble_eq_true rfl) (Nat.le_of_ble_eq_true rfl) dX3_laid_35)
  · exact xt_throw (text := "the month is folded") S htr hlocks htb hw hX hl.1 (by decide +kernel) inX3_laid_xIS1.1 inX3_laid_xIS1.2 inX3_laid_xIS tg_IS (by decide +kernel) dX3_laid_19 dX3_laid_22 dX3_laid_23 dX3_laid_25 dX3_laid_28 (Nat.le_of_ble_eq_true rfl) (Nat.le_of_ble_eq_true rfl) (Nat.le_of_ble_eq_true rfl) (Nat.le_of_ble_eq_true rfl) (Or.inr ⟨rfl, ⟨hin1, hed1⟩, fun h => c1 (Int32.not_lt.mp h)⟩)
abbrev rmX3_laidFor : Room := { frames := 7, cells := 2, slots := 12, locals := 105 }
theorem inX3_laidFor_X1 : (∀ w ∈ wsX10, w ∈ wsX3_laidFor) := by decide +kernel
set_option maxHeartbeats 1000000 in
set_option maxRecDepth 100000 in
/-- laidFor -/
theorem c_X3_laidFor (l : Launch) (hl9 : l.stackTraces = false) (D : va_G) (cy : Nat → ClassId) (ad : Nat → Nat) (n : Nat) (σ : S3) (x0 x1 : Int32) : CT l yX3_laidFor wsX3_laidFor rmX3_laidFor D cy ad n [.ref (ad 0), .int x0, .int x1] σ (xPi fun r u => (inI x0 4 ∧ endP σ x1) ∧ u = σ ∧ r = σ 9 x0.toNatClampNeg x1.toNatClampNeg) (e1 xIO (inI x0 4 ∧ endP σ x1)) := by
  refine xs_T (cc := cX3_laidFor) (maxL := 4) (ret := (some .int)) (by decide +kernel) rfl (Nat.le_of_ble_eq_true rfl) ?_
  intro p e s m below meth c ls S hr hlocks htb hw hX hl
  have S : CallFix p m c cX3_laidFor 4 s [.ref (ad 0), .int x0, .int x1].toArray wsX3_laidFor RX3 := S
  have hx := S.1
  have hb := S.2.1
  have hts := S.2.2.2.2
  have htr := hl9
  have hl : lv_has ls 4 [(0, .ref (ad 0)), (1, .int x0), (2, .int x1)] := hl
  refine lv_aload_n hx hb dX3_laidFor_0 rfl (lv_at hl 0 rfl) ?_
  refine lv_iload_n hx hb dX3_laidFor_1 rfl (lv_at hl 1 rfl) ?_
  refine xc_T htb hlocks hw (vx_runV (As := [.int x0]) (rest := []) S (c_X3_branchAt l htr D cy ad n σ x0 _) (cwV 1 S.2.2.2.2 gX3_laidFor_X3_branchAt rfl rfl rfl (by decide +kernel) ⟨Nat.le_of_ble_eq_true rfl, Nat.le_of_ble_eq_true rfl⟩) (xc_preV (cX_ok _ _) hX hw (k_0 n) (cE_0 _ _ _ _) rfl rfl) rfl rfl hl.1 rfl (lv_room (Nat.le_of_ble_eq_true rfl)) dX3_laidFor_2 ⟨Nat.le_of_ble_eq_true rfl, Nat.le_of_ble_eq_true rfl⟩) (fun _ he => ⟨he.1, fun h => he.2 h.1⟩) (Nat.le_of_ble_eq_true rfl) (Nat.le_of_ble_eq_true rfl) (fun v9 u H locs hp hw => ?_)
  obtain ⟨_, rfl, hu9, hin1, rfl⟩ := hp
  rw [hu9] at hw
  clear hu9
  refine lv_astore_n (lv' := [(3, .ref (ad (7 + x0.toNatClampNeg))), (0, .ref (ad 0)), (1, .int x0), (2, .int x1)]) hx hb dX3_laidFor_5 rfl hl (by decide) rfl (fun ls hl => ?_)
  refine lv_aload_n hx hb dX3_laidFor_6 rfl (lv_at hl 1 rfl) ?_
  refine lv_iload_n hx hb dX3_laidFor_7 rfl (lv_at hl 3 rfl) ?_
  refine xc_T htb hlocks hw (vx_runV (As := [.int x1]) (rest := []) S (c_X3_checkEnded l htr D cy ad n σ x1 _) (cwV 1 S.2.2.2.2 gX3_laidFor_X3_checkEnded rfl rfl rfl (by decide +kernel) ⟨Nat.le_of_ble_eq_true rfl, Nat.le_of_ble_eq_true rfl⟩) (xc_preV (cX_ok _ _) hX hw (k_0 n) (cE_0 _ _ _ _) rfl rfl) rfl rfl hl.1 rfl (lv_room (Nat.le_of_ble_eq_true rfl)) dX3_laidFor_8 ⟨Nat.le_of_ble_eq_true rfl, Nat.le_of_ble_eq_true rfl⟩) (fun _ he => ⟨he.1, fun h => he.2 h.2⟩) (Nat.le_of_ble_eq_true rfl) (Nat.le_of_ble_eq_true rfl) (fun v9 u H locs hp hw => ?_)
  obtain ⟨rfl, hu9, hed1⟩ := hp
  rw [hu9] at hw
  clear hu9
  refine lv_aload_n hx hb dX3_laidFor_11 rfl (lv_at hl 0 rfl) ?_
  refine xr_getN S hw (j := 0) (k_br n hin1.2) (cE_br _ _ _ _ hin1.2) rfl inX3_laidFor_X1 (by decide) (hX.1.w (w := .fieldLinkNest RX3 179 "UnionOffice$Branch" "laidOn" "[I" "UnionOffice") (by decide +kernel)) rfl dX3_laidFor_12 ?_
  refine lv_iload_n hx hb dX3_laidFor_15 rfl (lv_at hl 3 rfl) ?_
  refine xr_iald S hw (t0 := 0) (k_la n hin1.2) (cE_la _ _ _ _ hin1.2) rfl hed1.vp dX3_laidFor_16 ?_
  exact vx_ret (xe_i S.1 S.2.1 hr hlocks hw (⟨⟨hin1, hed1⟩, rfl, rfl⟩) (Nat.le_of_ble_eq_true rfl) (Nat.le_of_ble_eq_true rfl) dX3_laidFor_17)
end
section
theorem dX4_init_0 : decode cX4_init 0 = .ok (.aload_n 0, 1) := by decide +kernel
theorem dX4_init_1 : decode cX4_init 1 = .ok (.invokespecial 1, 3) := by decide +kernel
theorem dX4_init_4 : decode cX4_init 4 = .ok (.aload_n 0, 1) := by decide +kernel
theorem dX4_init_5 : decode cX4_init 5 = .ok (.iconst 3, 1) := by decide +kernel
theorem dX4_init_6 : decode cX4_init 6 = .ok (.newarray .int, 2) := by decide +kernel
theorem dX4_init_8 : decode cX4_init 8 = .ok (.putfield 7, 3) := by decide +kernel
theorem dX4_init_11 : decode cX4_init 11 = .ok (.aload_n 0, 1) := by decide +kernel
theorem dX4_init_12 : decode cX4_init 12 = .ok (.bipush 16, 2) := by decide +kernel
theorem dX4_init_14 : decode cX4_init 14 = .ok (.newarray .int, 2) := by decide +kernel
theorem dX4_init_16 : decode cX4_init 16 = .ok (.putfield 13, 3) := by decide +kernel
theorem dX4_init_19 : decode cX4_init 19 = .ok (.aload_n 0, 1) := by decide +kernel
theorem dX4_init_20 : decode cX4_init 20 = .ok (.bipush 16, 2) := by decide +kernel
theorem dX4_init_22 : decode cX4_init 22 = .ok (.newarray .int, 2) := by decide +kernel
theorem dX4_init_24 : decode cX4_init 24 = .ok (.putfield 16, 3) := by decide +kernel
theorem dX4_init_27 : decode cX4_init 27 = .ok (.aload_n 0, 1) := by decide +kernel
theorem dX4_init_28 : decode cX4_init 28 = .ok (.bipush 16, 2) := by decide +kernel
theorem dX4_init_30 : decode cX4_init 30 = .ok (.newarray .boolean, 2) := by decide +kernel
theorem dX4_init_32 : decode cX4_init 32 = .ok (.putfield 19, 3) := by decide +kernel
theorem dX4_init_35 : decode cX4_init 35 = .ok (.aload_n 0, 1) := by decide +kernel
theorem dX4_init_36 : decode cX4_init 36 = .ok (.bipush 16, 2) := by decide +kernel
theorem dX4_init_38 : decode cX4_init 38 = .ok (.newarray .boolean, 2) := by decide +kernel
theorem dX4_init_40 : decode cX4_init 40 = .ok (.putfield 23, 3) := by decide +kernel
theorem dX4_init_43 : decode cX4_init 43 = .ok (.aload_n 0, 1) := by decide +kernel
theorem dX4_init_44 : decode cX4_init 44 = .ok (.bipush 16, 2) := by decide +kernel
theorem dX4_init_46 : decode cX4_init 46 = .ok (.newarray .int, 2) := by decide +kernel
theorem dX4_init_48 : decode cX4_init 48 = .ok (.putfield 26, 3) := by decide +kernel
theorem dX4_init_51 : decode cX4_init 51 = .ok (.aload_n 0, 1) := by decide +kernel
theorem dX4_init_52 : decode cX4_init 52 = .ok (.bipush 16, 2) := by decide +kernel
theorem dX4_init_54 : decode cX4_init 54 = .ok (.newarray .int, 2) := by decide +kernel
theorem dX4_init_56 : decode cX4_init 56 = .ok (.putfield 29, 3) := by decide +kernel
theorem dX4_init_59 : decode cX4_init 59 = .ok (.aload_n 0, 1) := by decide +kernel
theorem dX4_init_60 : decode cX4_init 60 = .ok (.sipush 960, 3) := by decide +kernel
theorem dX4_init_63 : decode cX4_init 63 = .ok (.newarray .int, 2) := by decide +kernel
theorem dX4_init_65 : decode cX4_init 65 = .ok (.putfield 32, 3) := by decide +kernel
theorem dX4_init_68 : decode cX4_init 68 = .ok (.aload_n 0, 1) := by decide +kernel
theorem dX4_init_69 : decode cX4_init 69 = .ok (.sipush 960, 3) := by decide +kernel
theorem dX4_init_72 : decode cX4_init 72 = .ok (.newarray .int, 2) := by decide +kernel
theorem dX4_init_74 : decode cX4_init 74 = .ok (.putfield 35, 3) := by decide +kernel
theorem dX4_init_77 : decode cX4_init 77 = .ok (.aload_n 0, 1) := by decide +kernel
theorem dX4_init_78 : decode cX4_init 78 = .ok (.sipush 240, 3) := by decide +kernel
theorem dX4_init_81 : decode cX4_init 81 = .ok (.newarray .int, 2) := by decide +kernel
theorem dX4_init_83 : decode cX4_init 83 = .ok (.putfield 38, 3) := by decide +kernel
theorem dX4_init_86 : decode cX4_init 86 = .ok (.aload_n 0, 1) := by decide +kernel
theorem dX4_init_87 : decode cX4_init 87 = .ok (.iconst 4, 1) := by decide +kernel
theorem dX4_init_88 : decode cX4_init 88 = .ok (.newarray .boolean, 2) := by decide +kernel
theorem dX4_init_90 : decode cX4_init 90 = .ok (.putfield 41, 3) := by decide +kernel
theorem dX4_init_93 : decode cX4_init 93 = .ok (.aload_n 0, 1) := by decide +kernel
theorem dX4_init_94 : decode cX4_init 94 = .ok (.iconst 4, 1) := by decide +kernel
theorem dX4_init_95 : decode cX4_init 95 = .ok (.newarray .int, 2) := by decide +kernel
theorem dX4_init_97 : decode cX4_init 97 = .ok (.putfield 44, 3) := by decide +kernel
theorem dX4_init_100 : decode cX4_init 100 = .ok (.aload_n 0, 1) := by decide +kernel
theorem dX4_init_101 : decode cX4_init 101 = .ok (.iconst 4, 1) := by decide +kernel
theorem dX4_init_102 : decode cX4_init 102 = .ok (.newarray .int, 2) := by decide +kernel
theorem dX4_init_104 : decode cX4_init 104 = .ok (.putfield 47, 3) := by decide +kernel
theorem dX4_init_107 : decode cX4_init 107 = .ok (.aload_n 0, 1) := by decide +kernel
theorem dX4_init_108 : decode cX4_init 108 = .ok (.iconst 4, 1) := by decide +kernel
theorem dX4_init_109 : decode cX4_init 109 = .ok (.newarray .boolean, 2) := by decide +kernel
theorem dX4_init_111 : decode cX4_init 111 = .ok (.putfield 50, 3) := by decide +kernel
theorem dX4_init_114 : decode cX4_init 114 = .ok (.aload_n 0, 1) := by decide +kernel
theorem dX4_init_115 : decode cX4_init 115 = .ok (.iconst 4, 1) := by decide +kernel
theorem dX4_init_116 : decode cX4_init 116 = .ok (.newarray .boolean, 2) := by decide +kernel
theorem dX4_init_118 : decode cX4_init 118 = .ok (.putfield 53, 3) := by decide +kernel
theorem dX4_init_121 : decode cX4_init 121 = .ok (.aload_n 0, 1) := by decide +kernel
theorem dX4_init_122 : decode cX4_init 122 = .ok (.bipush 64, 2) := by decide +kernel
theorem dX4_init_124 : decode cX4_init 124 = .ok (.newarray .boolean, 2) := by decide +kernel
theorem dX4_init_126 : decode cX4_init 126 = .ok (.putfield 56, 3) := by decide +kernel
theorem dX4_init_129 : decode cX4_init 129 = .ok (.aload_n 0, 1) := by decide +kernel
theorem dX4_init_130 : decode cX4_init 130 = .ok (.iconst 4, 1) := by decide +kernel
theorem dX4_init_131 : decode cX4_init 131 = .ok (.newarray .int, 2) := by decide +kernel
theorem dX4_init_133 : decode cX4_init 133 = .ok (.putfield 59, 3) := by decide +kernel
theorem dX4_init_136 : decode cX4_init 136 = .ok (.aload_n 0, 1) := by decide +kernel
theorem dX4_init_137 : decode cX4_init 137 = .ok (.getfield 7, 3) := by decide +kernel
theorem dX4_init_140 : decode cX4_init 140 = .ok (.iconst 0, 1) := by decide +kernel
theorem dX4_init_141 : decode cX4_init 141 = .ok (.sipush 1000, 3) := by decide +kernel
theorem dX4_init_144 : decode cX4_init 144 = .ok (.iastore, 1) := by decide +kernel
theorem dX4_init_145 : decode cX4_init 145 = .ok (.aload_n 0, 1) := by decide +kernel
theorem dX4_init_146 : decode cX4_init 146 = .ok (.getfield 7, 3) := by decide +kernel
theorem dX4_init_149 : decode cX4_init 149 = .ok (.iconst 1, 1) := by decide +kernel
theorem dX4_init_150 : decode cX4_init 150 = .ok (.sipush 2000, 3) := by decide +kernel
theorem dX4_init_153 : decode cX4_init 153 = .ok (.iastore, 1) := by decide +kernel
theorem dX4_init_154 : decode cX4_init 154 = .ok (.aload_n 0, 1) := by decide +kernel
theorem dX4_init_155 : decode cX4_init 155 = .ok (.getfield 7, 3) := by decide +kernel
theorem dX4_init_158 : decode cX4_init 158 = .ok (.iconst 2, 1) := by decide +kernel
theorem dX4_init_159 : decode cX4_init 159 = .ok (.sipush 3000, 3) := by decide +kernel
theorem dX4_init_162 : decode cX4_init 162 = .ok (.iastore, 1) := by decide +kernel
theorem dX4_init_163 : decode cX4_init 163 = .ok (.aload_n 0, 1) := by decide +kernel
theorem dX4_init_164 : decode cX4_init 164 = .ok (.sipush 500, 3) := by decide +kernel
theorem dX4_init_167 : decode cX4_init 167 = .ok (.putfield 62, 3) := by decide +kernel
theorem dX4_init_170 : decode cX4_init 170 = .ok (.aload_n 0, 1) := by decide +kernel
theorem dX4_init_171 : decode cX4_init 171 = .ok (.iconst (-1), 1) := by decide +kernel
theorem dX4_init_172 : decode cX4_init 172 = .ok (.putfield 66, 3) := by decide +kernel
theorem dX4_init_175 : decode cX4_init 175 = .ok (.return_, 1) := by decide +kernel
theorem dX4_thrown_0 : decode cX4_thrown 0 = .ok (.aload_n 0, 1) := by decide +kernel
theorem dX4_thrown_1 : decode cX4_thrown 1 = .ok (.getfield 69, 3) := by decide +kernel
theorem dX4_thrown_4 : decode cX4_thrown 4 = .ok (.ireturn, 1) := by decide +kernel
theorem dX4_in_0 : decode cX4_in 0 = .ok (.iload_n 0, 1) := by decide +kernel
theorem dX4_in_1 : decode cX4_in 1 = .ok (.iload_n 1, 1) := by decide +kernel
theorem dX4_in_2 : decode cX4_in 2 = .ok (.if_icmp .lt 12, 3) := by decide +kernel
theorem dX4_in_5 : decode cX4_in 5 = .ok (.iload_n 0, 1) := by decide +kernel
theorem dX4_in_6 : decode cX4_in 6 = .ok (.iload_n 2, 1) := by decide +kernel
theorem dX4_in_7 : decode cX4_in 7 = .ok (.if_icmp .gt 7, 3) := by decide +kernel
theorem dX4_in_10 : decode cX4_in 10 = .ok (.iconst 1, 1) := by decide +kernel
theorem dX4_in_11 : decode cX4_in 11 = .ok (.goto 4, 3) := by decide +kernel
theorem dX4_in_14 : decode cX4_in 14 = .ok (.iconst 0, 1) := by decide +kernel
theorem dX4_in_15 : decode cX4_in 15 = .ok (.ireturn, 1) := by decide +kernel
set_option maxRecDepth 20000 in
theorem ggX4_isMember_X4_in : GoodIn wsX4_isMember wsX4_in := goodIn_r _ [5] (by decide +kernel) (by decide +kernel)
set_option maxRecDepth 20000 in
theorem gX4_isMember_X4_in : GoodIn wsX4_isMember (va_wsS RX4 75 yX4_in wsX4_in) := goodIn_app (goodIn_of _ (by decide +kernel)) ggX4_isMember_X4_in
theorem dX4_isMember_0 : decode cX4_isMember 0 = .ok (.iload_n 1, 1) := by decide +kernel
theorem dX4_isMember_1 : decode cX4_isMember 1 = .ok (.iconst 0, 1) := by decide +kernel
theorem dX4_isMember_2 : decode cX4_isMember 2 = .ok (.aload_n 0, 1) := by decide +kernel
theorem dX4_isMember_3 : decode cX4_isMember 3 = .ok (.getfield 72, 3) := by decide +kernel
theorem dX4_isMember_6 : decode cX4_isMember 6 = .ok (.iconst 1, 1) := by decide +kernel
theorem dX4_isMember_7 : decode cX4_isMember 7 = .ok (.isub, 1) := by decide +kernel
theorem dX4_isMember_8 : decode cX4_isMember 8 = .ok (.invokestatic 75, 3) := by decide +kernel
theorem dX4_isMember_11 : decode cX4_isMember 11 = .ok (.ireturn, 1) := by decide +kernel
set_option maxRecDepth 20000 in
theorem ggX4_isBranch_X4_in : GoodIn wsX4_isBranch wsX4_in := goodIn_r _ [4] (by decide +kernel) (by decide +kernel)
set_option maxRecDepth 20000 in
theorem gX4_isBranch_X4_in : GoodIn wsX4_isBranch (va_wsS RX4 75 yX4_in wsX4_in) := goodIn_app (goodIn_of _ (by decide +kernel)) ggX4_isBranch_X4_in
theorem dX4_isBranch_0 : decode cX4_isBranch 0 = .ok (.iload_n 0, 1) := by decide +kernel
theorem dX4_isBranch_1 : decode cX4_isBranch 1 = .ok (.iconst 0, 1) := by decide +kernel
theorem dX4_isBranch_2 : decode cX4_isBranch 2 = .ok (.iconst 3, 1) := by decide +kernel
theorem dX4_isBranch_3 : decode cX4_isBranch 3 = .ok (.invokestatic 75, 3) := by decide +kernel
theorem dX4_isBranch_6 : decode cX4_isBranch 6 = .ok (.ireturn, 1) := by decide +kernel
set_option maxRecDepth 20000 in
theorem ggX4_isBand_X4_in : GoodIn wsX4_isBand wsX4_in := goodIn_r _ [4] (by decide +kernel) (by decide +kernel)
set_option maxRecDepth 20000 in
theorem gX4_isBand_X4_in : GoodIn wsX4_isBand (va_wsS RX4 75 yX4_in wsX4_in) := goodIn_app (goodIn_of _ (by decide +kernel)) ggX4_isBand_X4_in
theorem dX4_isBand_0 : decode cX4_isBand 0 = .ok (.iload_n 0, 1) := by decide +kernel
theorem dX4_isBand_1 : decode cX4_isBand 1 = .ok (.iconst 0, 1) := by decide +kernel
theorem dX4_isBand_2 : decode cX4_isBand 2 = .ok (.iconst 2, 1) := by decide +kernel
theorem dX4_isBand_3 : decode cX4_isBand 3 = .ok (.invokestatic 75, 3) := by decide +kernel
theorem dX4_isBand_6 : decode cX4_isBand 6 = .ok (.ireturn, 1) := by decide +kernel
theorem dX4_stands_0 : decode cX4_stands 0 = .ok (.aload_n 0, 1) := by decide +kernel
theorem dX4_stands_1 : decode cX4_stands 1 = .ok (.getfield 19, 3) := by decide +kernel
theorem dX4_stands_4 : decode cX4_stands 4 = .ok (.iload_n 1, 1) := by decide +kernel
theorem dX4_stands_5 : decode cX4_stands 5 = .ok (.baload, 1) := by decide +kernel
theorem dX4_stands_6 : decode cX4_stands 6 = .ok (.ifCond .ne 7, 3) := by decide +kernel
theorem dX4_stands_9 : decode cX4_stands 9 = .ok (.iconst 1, 1) := by decide +kernel
theorem dX4_stands_10 : decode cX4_stands 10 = .ok (.goto 4, 3) := by decide +kernel
theorem dX4_stands_13 : decode cX4_stands 13 = .ok (.iconst 0, 1) := by decide +kernel
theorem dX4_stands_14 : decode cX4_stands 14 = .ok (.istore_n 2, 1) := by decide +kernel
theorem dX4_stands_15 : decode cX4_stands 15 = .ok (.iconst 0, 1) := by decide +kernel
theorem dX4_stands_16 : decode cX4_stands 16 = .ok (.istore_n 3, 1) := by decide +kernel
theorem dX4_stands_17 : decode cX4_stands 17 = .ok (.iload_n 3, 1) := by decide +kernel
theorem dX4_stands_18 : decode cX4_stands 18 = .ok (.bipush 60, 2) := by decide +kernel
theorem dX4_stands_20 : decode cX4_stands 20 = .ok (.if_icmp .ge 49, 3) := by decide +kernel
theorem dX4_stands_23 : decode cX4_stands 23 = .ok (.iload_n 2, 1) := by decide +kernel
theorem dX4_stands_24 : decode cX4_stands 24 = .ok (.ifCond .eq 45, 3) := by decide +kernel
theorem dX4_stands_27 : decode cX4_stands 27 = .ok (.aload_n 0, 1) := by decide +kernel
theorem dX4_stands_28 : decode cX4_stands 28 = .ok (.getfield 32, 3) := by decide +kernel
theorem dX4_stands_31 : decode cX4_stands 31 = .ok (.bipush 60, 2) := by decide +kernel
theorem dX4_stands_33 : decode cX4_stands 33 = .ok (.iload_n 1, 1) := by decide +kernel
theorem dX4_stands_34 : decode cX4_stands 34 = .ok (.imul, 1) := by decide +kernel
theorem dX4_stands_35 : decode cX4_stands 35 = .ok (.iload_n 3, 1) := by decide +kernel
theorem dX4_stands_36 : decode cX4_stands 36 = .ok (.iadd, 1) := by decide +kernel
theorem dX4_stands_37 : decode cX4_stands 37 = .ok (.iaload, 1) := by decide +kernel
theorem dX4_stands_38 : decode cX4_stands 38 = .ok (.ifCond .eq 19, 3) := by decide +kernel
theorem dX4_stands_41 : decode cX4_stands 41 = .ok (.aload_n 0, 1) := by decide +kernel
theorem dX4_stands_42 : decode cX4_stands 42 = .ok (.getfield 79, 3) := by decide +kernel
theorem dX4_stands_45 : decode cX4_stands 45 = .ok (.bipush 30, 2) := by decide +kernel
theorem dX4_stands_47 : decode cX4_stands 47 = .ok (.iload_n 3, 1) := by decide +kernel
theorem dX4_stands_48 : decode cX4_stands 48 = .ok (.iconst 1, 1) := by decide +kernel
theorem dX4_stands_49 : decode cX4_stands 49 = .ok (.iadd, 1) := by decide +kernel
theorem dX4_stands_50 : decode cX4_stands 50 = .ok (.imul, 1) := by decide +kernel
theorem dX4_stands_51 : decode cX4_stands 51 = .ok (.bipush 60, 2) := by decide +kernel
theorem dX4_stands_53 : decode cX4_stands 53 = .ok (.iadd, 1) := by decide +kernel
theorem dX4_stands_54 : decode cX4_stands 54 = .ok (.if_icmp .ge 7, 3) := by decide +kernel
theorem dX4_stands_57 : decode cX4_stands 57 = .ok (.iconst 1, 1) := by decide +kernel
theorem dX4_stands_58 : decode cX4_stands 58 = .ok (.goto 4, 3) := by decide +kernel
theorem dX4_stands_61 : decode cX4_stands 61 = .ok (.iconst 0, 1) := by decide +kernel
theorem dX4_stands_62 : decode cX4_stands 62 = .ok (.istore_n 2, 1) := by decide +kernel
theorem dX4_stands_63 : decode cX4_stands 63 = .ok (.iinc 3 1, 3) := by decide +kernel
theorem dX4_stands_66 : decode cX4_stands 66 = .ok (.goto (-49), 3) := by decide +kernel
theorem dX4_stands_69 : decode cX4_stands 69 = .ok (.iload_n 2, 1) := by decide +kernel
theorem dX4_stands_70 : decode cX4_stands 70 = .ok (.ireturn, 1) := by decide +kernel
set_option maxRecDepth 20000 in
theorem ggX4_standing_X4_stands : GoodIn wsX4_standing wsX4_stands := goodIn_r _ [7, 8, 9, 10, 11, 12, 13, 14, 15, 16, 17, 18, 19, 20, 21, 22, 23, 24, 25, 26, 27, 28, 29, 30, 31, 32, 33] (by decide +kernel) (by decide +kernel)
set_option maxRecDepth 20000 in
theorem gX4_standing_X4_stands : GoodIn wsX4_standing (wsV RX4 82 RX4 yX4_stands wsX4_stands) := goodIn_app (goodIn_of _ (by decide +kernel)) ggX4_standing_X4_stands
theorem dX4_standing_0 : decode cX4_standing 0 = .ok (.iconst 0, 1) := by decide +kernel
theorem dX4_standing_1 : decode cX4_standing 1 = .ok (.istore_n 2, 1) := by decide +kernel
theorem dX4_standing_2 : decode cX4_standing 2 = .ok (.iconst 0, 1) := by decide +kernel
theorem dX4_standing_3 : decode cX4_standing 3 = .ok (.istore_n 3, 1) := by decide +kernel
theorem dX4_standing_4 : decode cX4_standing 4 = .ok (.iload_n 3, 1) := by decide +kernel
theorem dX4_standing_5 : decode cX4_standing 5 = .ok (.aload_n 0, 1) := by decide +kernel
theorem dX4_standing_6 : decode cX4_standing 6 = .ok (.getfield 72, 3) := by decide +kernel
theorem dX4_standing_9 : decode cX4_standing 9 = .ok (.if_icmp .ge 35, 3) := by decide +kernel
theorem dX4_standing_12 : decode cX4_standing 12 = .ok (.iload_n 2, 1) := by decide +kernel
theorem dX4_standing_13 : decode cX4_standing 13 = .ok (.aload_n 0, 1) := by decide +kernel
theorem dX4_standing_14 : decode cX4_standing 14 = .ok (.getfield 13, 3) := by decide +kernel
theorem dX4_standing_17 : decode cX4_standing 17 = .ok (.iload_n 3, 1) := by decide +kernel
theorem dX4_standing_18 : decode cX4_standing 18 = .ok (.iaload, 1) := by decide +kernel
theorem dX4_standing_19 : decode cX4_standing 19 = .ok (.iload_n 1, 1) := by decide +kernel
theorem dX4_standing_20 : decode cX4_standing 20 = .ok (.if_icmp .ne 15, 3) := by decide +kernel
theorem dX4_standing_23 : decode cX4_standing 23 = .ok (.aload_n 0, 1) := by decide +kernel
theorem dX4_standing_24 : decode cX4_standing 24 = .ok (.iload_n 3, 1) := by decide +kernel
theorem dX4_standing_25 : decode cX4_standing 25 = .ok (.invokevirtual 82, 3) := by decide +kernel
theorem dX4_standing_28 : decode cX4_standing 28 = .ok (.ifCond .eq 7, 3) := by decide +kernel
theorem dX4_standing_31 : decode cX4_standing 31 = .ok (.iconst 1, 1) := by decide +kernel
theorem dX4_standing_32 : decode cX4_standing 32 = .ok (.goto 4, 3) := by decide +kernel
theorem dX4_standing_35 : decode cX4_standing 35 = .ok (.iconst 0, 1) := by decide +kernel
theorem dX4_standing_36 : decode cX4_standing 36 = .ok (.iadd, 1) := by decide +kernel
theorem dX4_standing_37 : decode cX4_standing 37 = .ok (.istore_n 2, 1) := by decide +kernel
theorem dX4_standing_38 : decode cX4_standing 38 = .ok (.iinc 3 1, 3) := by decide +kernel
theorem dX4_standing_41 : decode cX4_standing 41 = .ok (.goto (-37), 3) := by decide +kernel
theorem dX4_standing_44 : decode cX4_standing 44 = .ok (.iload_n 2, 1) := by decide +kernel
theorem dX4_standing_45 : decode cX4_standing 45 = .ok (.ireturn, 1) := by decide +kernel
theorem dX4_owedBy_0 : decode cX4_owedBy 0 = .ok (.iconst 0, 1) := by decide +kernel
theorem dX4_owedBy_1 : decode cX4_owedBy 1 = .ok (.istore_n 2, 1) := by decide +kernel
theorem dX4_owedBy_2 : decode cX4_owedBy 2 = .ok (.iconst 0, 1) := by decide +kernel
theorem dX4_owedBy_3 : decode cX4_owedBy 3 = .ok (.istore_n 3, 1) := by decide +kernel
theorem dX4_owedBy_4 : decode cX4_owedBy 4 = .ok (.iload_n 3, 1) := by decide +kernel
theorem dX4_owedBy_5 : decode cX4_owedBy 5 = .ok (.bipush 60, 2) := by decide +kernel
theorem dX4_owedBy_7 : decode cX4_owedBy 7 = .ok (.if_icmp .ge 23, 3) := by decide +kernel
theorem dX4_owedBy_10 : decode cX4_owedBy 10 = .ok (.iload_n 2, 1) := by decide +kernel
theorem dX4_owedBy_11 : decode cX4_owedBy 11 = .ok (.aload_n 0, 1) := by decide +kernel
theorem dX4_owedBy_12 : decode cX4_owedBy 12 = .ok (.getfield 32, 3) := by decide +kernel
theorem dX4_owedBy_15 : decode cX4_owedBy 15 = .ok (.bipush 60, 2) := by decide +kernel
theorem dX4_owedBy_17 : decode cX4_owedBy 17 = .ok (.iload_n 1, 1) := by decide +kernel
theorem dX4_owedBy_18 : decode cX4_owedBy 18 = .ok (.imul, 1) := by decide +kernel
theorem dX4_owedBy_19 : decode cX4_owedBy 19 = .ok (.iload_n 3, 1) := by decide +kernel
theorem dX4_owedBy_20 : decode cX4_owedBy 20 = .ok (.iadd, 1) := by decide +kernel
theorem dX4_owedBy_21 : decode cX4_owedBy 21 = .ok (.iaload, 1) := by decide +kernel
theorem dX4_owedBy_22 : decode cX4_owedBy 22 = .ok (.iadd, 1) := by decide +kernel
theorem dX4_owedBy_23 : decode cX4_owedBy 23 = .ok (.istore_n 2, 1) := by decide +kernel
theorem dX4_owedBy_24 : decode cX4_owedBy 24 = .ok (.iinc 3 1, 3) := by decide +kernel
theorem dX4_owedBy_27 : decode cX4_owedBy 27 = .ok (.goto (-23), 3) := by decide +kernel
theorem dX4_owedBy_30 : decode cX4_owedBy 30 = .ok (.iload_n 2, 1) := by decide +kernel
theorem dX4_owedBy_31 : decode cX4_owedBy 31 = .ok (.ireturn, 1) := by decide +kernel
set_option maxRecDepth 20000 in
theorem ggX4_setDues_X4_isBand : GoodIn wsX4_setDues wsX4_isBand := goodIn_r _ [7, 8, 9, 6, 10] (by decide +kernel) (by decide +kernel)
set_option maxRecDepth 20000 in
theorem gX4_setDues_X4_isBand : GoodIn wsX4_setDues (va_wsS RX4 86 yX4_isBand wsX4_isBand) := goodIn_app (goodIn_of _ (by decide +kernel)) ggX4_setDues_X4_isBand
set_option maxRecDepth 20000 in
theorem ggX4_setDues_X4_in : GoodIn wsX4_setDues wsX4_in := goodIn_r _ [10] (by decide +kernel) (by decide +kernel)
set_option maxRecDepth 20000 in
theorem gX4_setDues_X4_in : GoodIn wsX4_setDues (va_wsS RX4 75 yX4_in wsX4_in) := goodIn_app (goodIn_of _ (by decide +kernel)) ggX4_setDues_X4_in
theorem dX4_setDues_0 : decode cX4_setDues 0 = .ok (.aload_n 0, 1) := by decide +kernel
theorem dX4_setDues_1 : decode cX4_setDues 1 = .ok (.iload_n 1, 1) := by decide +kernel
theorem dX4_setDues_2 : decode cX4_setDues 2 = .ok (.invokestatic 86, 3) := by decide +kernel
theorem dX4_setDues_5 : decode cX4_setDues 5 = .ok (.ifCond .ne 7, 3) := by decide +kernel
theorem dX4_setDues_8 : decode cX4_setDues 8 = .ok (.iconst 1, 1) := by decide +kernel
theorem dX4_setDues_9 : decode cX4_setDues 9 = .ok (.goto 18, 3) := by decide +kernel
theorem dX4_setDues_12 : decode cX4_setDues 12 = .ok (.iload_n 2, 1) := by decide +kernel
theorem dX4_setDues_13 : decode cX4_setDues 13 = .ok (.iconst 0, 1) := by decide +kernel
theorem dX4_setDues_14 : decode cX4_setDues 14 = .ok (.ldc 89, 2) := by decide +kernel
theorem dX4_setDues_16 : decode cX4_setDues 16 = .ok (.invokestatic 75, 3) := by decide +kernel
theorem dX4_setDues_19 : decode cX4_setDues 19 = .ok (.ifCond .ne 7, 3) := by decide +kernel
theorem dX4_setDues_22 : decode cX4_setDues 22 = .ok (.iconst 2, 1) := by decide +kernel
theorem dX4_setDues_23 : decode cX4_setDues 23 = .ok (.goto 4, 3) := by decide +kernel
theorem dX4_setDues_26 : decode cX4_setDues 26 = .ok (.iconst 0, 1) := by decide +kernel
theorem dX4_setDues_27 : decode cX4_setDues 27 = .ok (.putfield 69, 3) := by decide +kernel
theorem dX4_setDues_30 : decode cX4_setDues 30 = .ok (.aload_n 0, 1) := by decide +kernel
theorem dX4_setDues_31 : decode cX4_setDues 31 = .ok (.getfield 69, 3) := by decide +kernel
theorem dX4_setDues_34 : decode cX4_setDues 34 = .ok (.ifCond .le 5, 3) := by decide +kernel
theorem dX4_setDues_37 : decode cX4_setDues 37 = .ok (.iconst 0, 1) := by decide +kernel
theorem dX4_setDues_38 : decode cX4_setDues 38 = .ok (.ireturn, 1) := by decide +kernel
theorem dX4_setDues_39 : decode cX4_setDues 39 = .ok (.aload_n 0, 1) := by decide +kernel
theorem dX4_setDues_40 : decode cX4_setDues 40 = .ok (.getfield 7, 3) := by decide +kernel
theorem dX4_setDues_43 : decode cX4_setDues 43 = .ok (.iload_n 1, 1) := by decide +kernel
theorem dX4_setDues_44 : decode cX4_setDues 44 = .ok (.iaload, 1) := by decide +kernel
theorem dX4_setDues_45 : decode cX4_setDues 45 = .ok (.istore_n 3, 1) := by decide +kernel
theorem dX4_setDues_46 : decode cX4_setDues 46 = .ok (.aload_n 0, 1) := by decide +kernel
theorem dX4_setDues_47 : decode cX4_setDues 47 = .ok (.getfield 7, 3) := by decide +kernel
theorem dX4_setDues_50 : decode cX4_setDues 50 = .ok (.iload_n 1, 1) := by decide +kernel
theorem dX4_setDues_51 : decode cX4_setDues 51 = .ok (.iload_n 2, 1) := by decide +kernel
theorem dX4_setDues_52 : decode cX4_setDues 52 = .ok (.iastore, 1) := by decide +kernel
theorem dX4_setDues_53 : decode cX4_setDues 53 = .ok (.iload_n 3, 1) := by decide +kernel
theorem dX4_setDues_54 : decode cX4_setDues 54 = .ok (.ireturn, 1) := by decide +kernel
set_option maxRecDepth 20000 in
theorem ggX4_setStrikePay_X4_in : GoodIn wsX4_setStrikePay wsX4_in := goodIn_r _ [7] (by decide +kernel) (by decide +kernel)
set_option maxRecDepth 20000 in
theorem gX4_setStrikePay_X4_in : GoodIn wsX4_setStrikePay (va_wsS RX4 75 yX4_in wsX4_in) := goodIn_app (goodIn_of _ (by decide +kernel)) ggX4_setStrikePay_X4_in
theorem dX4_setStrikePay_0 : decode cX4_setStrikePay 0 = .ok (.aload_n 0, 1) := by decide +kernel
theorem dX4_setStrikePay_1 : decode cX4_setStrikePay 1 = .ok (.iload_n 1, 1) := by decide +kernel
theorem dX4_setStrikePay_2 : decode cX4_setStrikePay 2 = .ok (.iconst 0, 1) := by decide +kernel
theorem dX4_setStrikePay_3 : decode cX4_setStrikePay 3 = .ok (.ldc 89, 2) := by decide +kernel
theorem dX4_setStrikePay_5 : decode cX4_setStrikePay 5 = .ok (.invokestatic 75, 3) := by decide +kernel
theorem dX4_setStrikePay_8 : decode cX4_setStrikePay 8 = .ok (.ifCond .eq 7, 3) := by decide +kernel
theorem dX4_setStrikePay_11 : decode cX4_setStrikePay 11 = .ok (.iconst 0, 1) := by decide +kernel
theorem dX4_setStrikePay_12 : decode cX4_setStrikePay 12 = .ok (.goto 4, 3) := by decide +kernel
theorem dX4_setStrikePay_15 : decode cX4_setStrikePay 15 = .ok (.iconst 1, 1) := by decide +kernel
theorem dX4_setStrikePay_16 : decode cX4_setStrikePay 16 = .ok (.putfield 69, 3) := by decide +kernel
theorem dX4_setStrikePay_19 : decode cX4_setStrikePay 19 = .ok (.aload_n 0, 1) := by decide +kernel
theorem dX4_setStrikePay_20 : decode cX4_setStrikePay 20 = .ok (.getfield 69, 3) := by decide +kernel
theorem dX4_setStrikePay_23 : decode cX4_setStrikePay 23 = .ok (.ifCond .le 5, 3) := by decide +kernel
theorem dX4_setStrikePay_26 : decode cX4_setStrikePay 26 = .ok (.iconst 0, 1) := by decide +kernel
theorem dX4_setStrikePay_27 : decode cX4_setStrikePay 27 = .ok (.ireturn, 1) := by decide +kernel
theorem dX4_setStrikePay_28 : decode cX4_setStrikePay 28 = .ok (.aload_n 0, 1) := by decide +kernel
theorem dX4_setStrikePay_29 : decode cX4_setStrikePay 29 = .ok (.getfield 62, 3) := by decide +kernel
theorem dX4_setStrikePay_32 : decode cX4_setStrikePay 32 = .ok (.istore_n 2, 1) := by decide +kernel
theorem dX4_setStrikePay_33 : decode cX4_setStrikePay 33 = .ok (.aload_n 0, 1) := by decide +kernel
theorem dX4_setStrikePay_34 : decode cX4_setStrikePay 34 = .ok (.iload_n 1, 1) := by decide +kernel
theorem dX4_setStrikePay_35 : decode cX4_setStrikePay 35 = .ok (.putfield 62, 3) := by decide +kernel
theorem dX4_setStrikePay_38 : decode cX4_setStrikePay 38 = .ok (.iload_n 2, 1) := by decide +kernel
theorem dX4_setStrikePay_39 : decode cX4_setStrikePay 39 = .ok (.ireturn, 1) := by decide +kernel
set_option maxRecDepth 20000 in
theorem ggX4_join_X4_isBranch : GoodIn wsX4_join wsX4_isBranch := goodIn_r _ [8, 9, 10, 7, 11] (by decide +kernel) (by decide +kernel)
set_option maxRecDepth 20000 in
theorem gX4_join_X4_isBranch : GoodIn wsX4_join (va_wsS RX4 90 yX4_isBranch wsX4_isBranch) := goodIn_app (goodIn_of _ (by decide +kernel)) ggX4_join_X4_isBranch
set_option maxRecDepth 20000 in
theorem ggX4_join_X4_isBand : GoodIn wsX4_join wsX4_isBand := goodIn_r _ [14, 9, 10, 7, 11] (by decide +kernel) (by decide +kernel)
set_option maxRecDepth 20000 in
theorem gX4_join_X4_isBand : GoodIn wsX4_join (va_wsS RX4 86 yX4_isBand wsX4_isBand) := goodIn_app (goodIn_of _ (by decide +kernel)) ggX4_join_X4_isBand
theorem dX4_join_0 : decode cX4_join 0 = .ok (.aload_n 0, 1) := by decide +kernel
theorem dX4_join_1 : decode cX4_join 1 = .ok (.iload_n 1, 1) := by decide +kernel
theorem dX4_join_2 : decode cX4_join 2 = .ok (.invokestatic 90, 3) := by decide +kernel
theorem dX4_join_5 : decode cX4_join 5 = .ok (.ifCond .eq 10, 3) := by decide +kernel
theorem dX4_join_8 : decode cX4_join 8 = .ok (.iload_n 2, 1) := by decide +kernel
theorem dX4_join_9 : decode cX4_join 9 = .ok (.invokestatic 86, 3) := by decide +kernel
theorem dX4_join_12 : decode cX4_join 12 = .ok (.ifCond .ne 7, 3) := by decide +kernel
theorem dX4_join_15 : decode cX4_join 15 = .ok (.iconst 1, 1) := by decide +kernel
theorem dX4_join_16 : decode cX4_join 16 = .ok (.goto 17, 3) := by decide +kernel
theorem dX4_join_19 : decode cX4_join 19 = .ok (.aload_n 0, 1) := by decide +kernel
theorem dX4_join_20 : decode cX4_join 20 = .ok (.getfield 72, 3) := by decide +kernel
theorem dX4_join_23 : decode cX4_join 23 = .ok (.bipush 16, 2) := by decide +kernel
theorem dX4_join_25 : decode cX4_join 25 = .ok (.if_icmp .ne 7, 3) := by decide +kernel
theorem dX4_join_28 : decode cX4_join 28 = .ok (.iconst 2, 1) := by decide +kernel
theorem dX4_join_29 : decode cX4_join 29 = .ok (.goto 4, 3) := by decide +kernel
theorem dX4_join_32 : decode cX4_join 32 = .ok (.iconst 0, 1) := by decide +kernel
theorem dX4_join_33 : decode cX4_join 33 = .ok (.putfield 69, 3) := by decide +kernel
theorem dX4_join_36 : decode cX4_join 36 = .ok (.aload_n 0, 1) := by decide +kernel
theorem dX4_join_37 : decode cX4_join 37 = .ok (.getfield 69, 3) := by decide +kernel
theorem dX4_join_40 : decode cX4_join 40 = .ok (.ifCond .le 5, 3) := by decide +kernel
theorem dX4_join_43 : decode cX4_join 43 = .ok (.iconst 0, 1) := by decide +kernel
theorem dX4_join_44 : decode cX4_join 44 = .ok (.ireturn, 1) := by decide +kernel
theorem dX4_join_45 : decode cX4_join 45 = .ok (.aload_n 0, 1) := by decide +kernel
theorem dX4_join_46 : decode cX4_join 46 = .ok (.getfield 13, 3) := by decide +kernel
theorem dX4_join_49 : decode cX4_join 49 = .ok (.aload_n 0, 1) := by decide +kernel
theorem dX4_join_50 : decode cX4_join 50 = .ok (.getfield 72, 3) := by decide +kernel
theorem dX4_join_53 : decode cX4_join 53 = .ok (.iload_n 1, 1) := by decide +kernel
theorem dX4_join_54 : decode cX4_join 54 = .ok (.iastore, 1) := by decide +kernel
theorem dX4_join_55 : decode cX4_join 55 = .ok (.aload_n 0, 1) := by decide +kernel
theorem dX4_join_56 : decode cX4_join 56 = .ok (.getfield 16, 3) := by decide +kernel
theorem dX4_join_59 : decode cX4_join 59 = .ok (.aload_n 0, 1) := by decide +kernel
theorem dX4_join_60 : decode cX4_join 60 = .ok (.getfield 72, 3) := by decide +kernel
theorem dX4_join_63 : decode cX4_join 63 = .ok (.iload_n 2, 1) := by decide +kernel
theorem dX4_join_64 : decode cX4_join 64 = .ok (.iastore, 1) := by decide +kernel
theorem dX4_join_65 : decode cX4_join 65 = .ok (.aload_n 0, 1) := by decide +kernel
theorem dX4_join_66 : decode cX4_join 66 = .ok (.dup, 1) := by decide +kernel
theorem dX4_join_67 : decode cX4_join 67 = .ok (.getfield 72, 3) := by decide +kernel
theorem dX4_join_70 : decode cX4_join 70 = .ok (.iconst 1, 1) := by decide +kernel
theorem dX4_join_71 : decode cX4_join 71 = .ok (.iadd, 1) := by decide +kernel
theorem dX4_join_72 : decode cX4_join 72 = .ok (.putfield 72, 3) := by decide +kernel
theorem dX4_join_75 : decode cX4_join 75 = .ok (.aload_n 0, 1) := by decide +kernel
theorem dX4_join_76 : decode cX4_join 76 = .ok (.getfield 72, 3) := by decide +kernel
theorem dX4_join_79 : decode cX4_join 79 = .ok (.iconst 1, 1) := by decide +kernel
theorem dX4_join_80 : decode cX4_join 80 = .ok (.isub, 1) := by decide +kernel
theorem dX4_join_81 : decode cX4_join 81 = .ok (.ireturn, 1) := by decide +kernel
set_option maxRecDepth 20000 in
theorem ggX4_move_X4_isMember : GoodIn wsX4_move wsX4_isMember := goodIn_r _ [9, 10, 11, 12, 8, 13, 20, 21, 22, 23, 24, 25, 26, 27, 28, 29, 30, 31, 32, 33, 34, 35, 36, 37, 38, 39, 40, 41, 42] (by decide +kernel) (by decide +kernel)
set_option maxRecDepth 20000 in
theorem gX4_move_X4_isMember : GoodIn wsX4_move (wsV RX4 93 RX4 yX4_isMember wsX4_isMember) := goodIn_app (goodIn_of _ (by decide +kernel)) ggX4_move_X4_isMember
set_option maxRecDepth 20000 in
theorem ggX4_move_X4_isBranch : GoodIn wsX4_move wsX4_isBranch := goodIn_r _ [16, 11, 12, 8, 13] (by decide +kernel) (by decide +kernel)
set_option maxRecDepth 20000 in
theorem gX4_move_X4_isBranch : GoodIn wsX4_move (va_wsS RX4 90 yX4_isBranch wsX4_isBranch) := goodIn_app (goodIn_of _ (by decide +kernel)) ggX4_move_X4_isBranch
set_option maxRecDepth 20000 in
theorem ggX4_move_X4_isBand : GoodIn wsX4_move wsX4_isBand := goodIn_r _ [19, 11, 12, 8, 13] (by decide +kernel) (by decide +kernel)
set_option maxRecDepth 20000 in
theorem gX4_move_X4_isBand : GoodIn wsX4_move (va_wsS RX4 86 yX4_isBand wsX4_isBand) := goodIn_app (goodIn_of _ (by decide +kernel)) ggX4_move_X4_isBand
theorem dX4_move_0 : decode cX4_move 0 = .ok (.aload_n 0, 1) := by decide +kernel
theorem dX4_move_1 : decode cX4_move 1 = .ok (.aload_n 0, 1) := by decide +kernel
theorem dX4_move_2 : decode cX4_move 2 = .ok (.iload_n 1, 1) := by decide +kernel
theorem dX4_move_3 : decode cX4_move 3 = .ok (.invokevirtual 93, 3) := by decide +kernel
theorem dX4_move_6 : decode cX4_move 6 = .ok (.ifCond .eq 17, 3) := by decide +kernel
theorem dX4_move_9 : decode cX4_move 9 = .ok (.iload_n 2, 1) := by decide +kernel
theorem dX4_move_10 : decode cX4_move 10 = .ok (.invokestatic 90, 3) := by decide +kernel
theorem dX4_move_13 : decode cX4_move 13 = .ok (.ifCond .eq 10, 3) := by decide +kernel
theorem dX4_move_16 : decode cX4_move 16 = .ok (.iload_n 3, 1) := by decide +kernel
theorem dX4_move_17 : decode cX4_move 17 = .ok (.invokestatic 86, 3) := by decide +kernel
theorem dX4_move_20 : decode cX4_move 20 = .ok (.ifCond .ne 7, 3) := by decide +kernel
theorem dX4_move_23 : decode cX4_move 23 = .ok (.iconst 1, 1) := by decide +kernel
theorem dX4_move_24 : decode cX4_move 24 = .ok (.goto 17, 3) := by decide +kernel
theorem dX4_move_27 : decode cX4_move 27 = .ok (.aload_n 0, 1) := by decide +kernel
theorem dX4_move_28 : decode cX4_move 28 = .ok (.getfield 19, 3) := by decide +kernel
theorem dX4_move_31 : decode cX4_move 31 = .ok (.iload_n 1, 1) := by decide +kernel
theorem dX4_move_32 : decode cX4_move 32 = .ok (.baload, 1) := by decide +kernel
theorem dX4_move_33 : decode cX4_move 33 = .ok (.ifCond .eq 7, 3) := by decide +kernel
theorem dX4_move_36 : decode cX4_move 36 = .ok (.iconst 2, 1) := by decide +kernel
theorem dX4_move_37 : decode cX4_move 37 = .ok (.goto 4, 3) := by decide +kernel
theorem dX4_move_40 : decode cX4_move 40 = .ok (.iconst 0, 1) := by decide +kernel
theorem dX4_move_41 : decode cX4_move 41 = .ok (.putfield 69, 3) := by decide +kernel
theorem dX4_move_44 : decode cX4_move 44 = .ok (.aload_n 0, 1) := by decide +kernel
theorem dX4_move_45 : decode cX4_move 45 = .ok (.getfield 69, 3) := by decide +kernel
theorem dX4_move_48 : decode cX4_move 48 = .ok (.ifCond .ne 17, 3) := by decide +kernel
theorem dX4_move_51 : decode cX4_move 51 = .ok (.aload_n 0, 1) := by decide +kernel
theorem dX4_move_52 : decode cX4_move 52 = .ok (.getfield 13, 3) := by decide +kernel
theorem dX4_move_55 : decode cX4_move 55 = .ok (.iload_n 1, 1) := by decide +kernel
theorem dX4_move_56 : decode cX4_move 56 = .ok (.iload_n 2, 1) := by decide +kernel
theorem dX4_move_57 : decode cX4_move 57 = .ok (.iastore, 1) := by decide +kernel
theorem dX4_move_58 : decode cX4_move 58 = .ok (.aload_n 0, 1) := by decide +kernel
theorem dX4_move_59 : decode cX4_move 59 = .ok (.getfield 16, 3) := by decide +kernel
theorem dX4_move_62 : decode cX4_move 62 = .ok (.iload_n 1, 1) := by decide +kernel
theorem dX4_move_63 : decode cX4_move 63 = .ok (.iload_n 3, 1) := by decide +kernel
theorem dX4_move_64 : decode cX4_move 64 = .ok (.iastore, 1) := by decide +kernel
theorem dX4_move_65 : decode cX4_move 65 = .ok (.return_, 1) := by decide +kernel
set_option maxRecDepth 20000 in
theorem ggX4_leave_X4_isMember : GoodIn wsX4_leave wsX4_isMember := goodIn_r _ [8, 9, 10, 11, 7, 12, 13, 14, 15, 16, 17, 18, 19, 20, 21, 22, 23, 24, 25, 26, 27, 28, 29, 30, 31, 32, 33, 34, 35] (by decide +kernel) (by decide +kernel)
set_option maxRecDepth 20000 in
theorem gX4_leave_X4_isMember : GoodIn wsX4_leave (wsV RX4 93 RX4 yX4_isMember wsX4_isMember) := goodIn_app (goodIn_of _ (by decide +kernel)) ggX4_leave_X4_isMember
theorem dX4_leave_0 : decode cX4_leave 0 = .ok (.aload_n 0, 1) := by decide +kernel
theorem dX4_leave_1 : decode cX4_leave 1 = .ok (.aload_n 0, 1) := by decide +kernel
theorem dX4_leave_2 : decode cX4_leave 2 = .ok (.iload_n 1, 1) := by decide +kernel
theorem dX4_leave_3 : decode cX4_leave 3 = .ok (.invokevirtual 93, 3) := by decide +kernel
theorem dX4_leave_6 : decode cX4_leave 6 = .ok (.ifCond .ne 7, 3) := by decide +kernel
theorem dX4_leave_9 : decode cX4_leave 9 = .ok (.iconst 1, 1) := by decide +kernel
theorem dX4_leave_10 : decode cX4_leave 10 = .ok (.goto 17, 3) := by decide +kernel
theorem dX4_leave_13 : decode cX4_leave 13 = .ok (.aload_n 0, 1) := by decide +kernel
theorem dX4_leave_14 : decode cX4_leave 14 = .ok (.getfield 19, 3) := by decide +kernel
theorem dX4_leave_17 : decode cX4_leave 17 = .ok (.iload_n 1, 1) := by decide +kernel
theorem dX4_leave_18 : decode cX4_leave 18 = .ok (.baload, 1) := by decide +kernel
theorem dX4_leave_19 : decode cX4_leave 19 = .ok (.ifCond .eq 7, 3) := by decide +kernel
theorem dX4_leave_22 : decode cX4_leave 22 = .ok (.iconst 2, 1) := by decide +kernel
theorem dX4_leave_23 : decode cX4_leave 23 = .ok (.goto 4, 3) := by decide +kernel
theorem dX4_leave_26 : decode cX4_leave 26 = .ok (.iconst 0, 1) := by decide +kernel
theorem dX4_leave_27 : decode cX4_leave 27 = .ok (.putfield 69, 3) := by decide +kernel
theorem dX4_leave_30 : decode cX4_leave 30 = .ok (.aload_n 0, 1) := by decide +kernel
theorem dX4_leave_31 : decode cX4_leave 31 = .ok (.getfield 69, 3) := by decide +kernel
theorem dX4_leave_34 : decode cX4_leave 34 = .ok (.ifCond .le 5, 3) := by decide +kernel
theorem dX4_leave_37 : decode cX4_leave 37 = .ok (.iconst 0, 1) := by decide +kernel
theorem dX4_leave_38 : decode cX4_leave 38 = .ok (.ireturn, 1) := by decide +kernel
theorem dX4_leave_39 : decode cX4_leave 39 = .ok (.aload_n 0, 1) := by decide +kernel
theorem dX4_leave_40 : decode cX4_leave 40 = .ok (.getfield 23, 3) := by decide +kernel
theorem dX4_leave_43 : decode cX4_leave 43 = .ok (.iload_n 1, 1) := by decide +kernel
theorem dX4_leave_44 : decode cX4_leave 44 = .ok (.baload, 1) := by decide +kernel
theorem dX4_leave_45 : decode cX4_leave 45 = .ok (.istore_n 3, 1) := by decide +kernel
theorem dX4_leave_46 : decode cX4_leave 46 = .ok (.aload_n 0, 1) := by decide +kernel
theorem dX4_leave_47 : decode cX4_leave 47 = .ok (.getfield 23, 3) := by decide +kernel
theorem dX4_leave_50 : decode cX4_leave 50 = .ok (.iload_n 1, 1) := by decide +kernel
theorem dX4_leave_51 : decode cX4_leave 51 = .ok (.iload_n 2, 1) := by decide +kernel
theorem dX4_leave_52 : decode cX4_leave 52 = .ok (.bastore, 1) := by decide +kernel
theorem dX4_leave_53 : decode cX4_leave 53 = .ok (.iload_n 3, 1) := by decide +kernel
theorem dX4_leave_54 : decode cX4_leave 54 = .ok (.ireturn, 1) := by decide +kernel
set_option maxRecDepth 20000 in
theorem ggX4_quit_X4_isMember : GoodIn wsX4_quit wsX4_isMember := goodIn_r _ [7, 8, 9, 10, 6, 11, 17, 18, 19, 20, 21, 22, 23, 24, 25, 26, 27, 28, 29, 30, 31, 32, 33, 34, 35, 36, 37, 38, 39] (by decide +kernel) (by decide +kernel)
set_option maxRecDepth 20000 in
theorem gX4_quit_X4_isMember : GoodIn wsX4_quit (wsV RX4 93 RX4 yX4_isMember wsX4_isMember) := goodIn_app (goodIn_of _ (by decide +kernel)) ggX4_quit_X4_isMember
set_option maxRecDepth 20000 in
theorem ggX4_quit_X4_owedBy : GoodIn wsX4_quit wsX4_owedBy := goodIn_r _ [15, 16, 17, 18, 19, 20, 21, 22, 23, 24, 25, 26, 27, 28, 29, 30, 31, 32, 33, 34, 35, 36, 37, 38, 39] (by decide +kernel) (by decide +kernel)
set_option maxRecDepth 20000 in
theorem gX4_quit_X4_owedBy : GoodIn wsX4_quit (wsV RX4 96 RX4 yX4_owedBy wsX4_owedBy) := goodIn_app (goodIn_of _ (by decide +kernel)) ggX4_quit_X4_owedBy
theorem dX4_quit_0 : decode cX4_quit 0 = .ok (.aload_n 0, 1) := by decide +kernel
theorem dX4_quit_1 : decode cX4_quit 1 = .ok (.aload_n 0, 1) := by decide +kernel
theorem dX4_quit_2 : decode cX4_quit 2 = .ok (.iload_n 1, 1) := by decide +kernel
theorem dX4_quit_3 : decode cX4_quit 3 = .ok (.invokevirtual 93, 3) := by decide +kernel
theorem dX4_quit_6 : decode cX4_quit 6 = .ok (.ifCond .ne 7, 3) := by decide +kernel
theorem dX4_quit_9 : decode cX4_quit 9 = .ok (.iconst 1, 1) := by decide +kernel
theorem dX4_quit_10 : decode cX4_quit 10 = .ok (.goto 17, 3) := by decide +kernel
theorem dX4_quit_13 : decode cX4_quit 13 = .ok (.aload_n 0, 1) := by decide +kernel
theorem dX4_quit_14 : decode cX4_quit 14 = .ok (.getfield 19, 3) := by decide +kernel
theorem dX4_quit_17 : decode cX4_quit 17 = .ok (.iload_n 1, 1) := by decide +kernel
theorem dX4_quit_18 : decode cX4_quit 18 = .ok (.baload, 1) := by decide +kernel
theorem dX4_quit_19 : decode cX4_quit 19 = .ok (.ifCond .eq 7, 3) := by decide +kernel
theorem dX4_quit_22 : decode cX4_quit 22 = .ok (.iconst 2, 1) := by decide +kernel
theorem dX4_quit_23 : decode cX4_quit 23 = .ok (.goto 4, 3) := by decide +kernel
theorem dX4_quit_26 : decode cX4_quit 26 = .ok (.iconst 0, 1) := by decide +kernel
theorem dX4_quit_27 : decode cX4_quit 27 = .ok (.putfield 69, 3) := by decide +kernel
theorem dX4_quit_30 : decode cX4_quit 30 = .ok (.aload_n 0, 1) := by decide +kernel
theorem dX4_quit_31 : decode cX4_quit 31 = .ok (.getfield 69, 3) := by decide +kernel
theorem dX4_quit_34 : decode cX4_quit 34 = .ok (.ifCond .le 5, 3) := by decide +kernel
theorem dX4_quit_37 : decode cX4_quit 37 = .ok (.iconst 0, 1) := by decide +kernel
theorem dX4_quit_38 : decode cX4_quit 38 = .ok (.ireturn, 1) := by decide +kernel
theorem dX4_quit_39 : decode cX4_quit 39 = .ok (.aload_n 0, 1) := by decide +kernel
theorem dX4_quit_40 : decode cX4_quit 40 = .ok (.getfield 19, 3) := by decide +kernel
theorem dX4_quit_43 : decode cX4_quit 43 = .ok (.iload_n 1, 1) := by decide +kernel
theorem dX4_quit_44 : decode cX4_quit 44 = .ok (.iconst 1, 1) := by decide +kernel
theorem dX4_quit_45 : decode cX4_quit 45 = .ok (.bastore, 1) := by decide +kernel
theorem dX4_quit_46 : decode cX4_quit 46 = .ok (.aload_n 0, 1) := by decide +kernel
theorem dX4_quit_47 : decode cX4_quit 47 = .ok (.iload_n 1, 1) := by decide +kernel
theorem dX4_quit_48 : decode cX4_quit 48 = .ok (.invokevirtual 96, 3) := by decide +kernel
theorem dX4_quit_51 : decode cX4_quit 51 = .ok (.ireturn, 1) := by decide +kernel
theorem dX4_lay_0 : decode cX4_lay 0 = .ok (.iconst 0, 1) := by decide +kernel
theorem dX4_lay_1 : decode cX4_lay 1 = .ok (.istore_n 2, 1) := by decide +kernel
theorem dX4_lay_2 : decode cX4_lay 2 = .ok (.iload_n 2, 1) := by decide +kernel
theorem dX4_lay_3 : decode cX4_lay 3 = .ok (.bipush 60, 2) := by decide +kernel
theorem dX4_lay_5 : decode cX4_lay 5 = .ok (.if_icmp .ge 115, 3) := by decide +kernel
theorem dX4_lay_8 : decode cX4_lay 8 = .ok (.bipush 60, 2) := by decide +kernel
theorem dX4_lay_10 : decode cX4_lay 10 = .ok (.iload_n 1, 1) := by decide +kernel
theorem dX4_lay_11 : decode cX4_lay 11 = .ok (.imul, 1) := by decide +kernel
theorem dX4_lay_12 : decode cX4_lay 12 = .ok (.iload_n 2, 1) := by decide +kernel
theorem dX4_lay_13 : decode cX4_lay 13 = .ok (.iadd, 1) := by decide +kernel
theorem dX4_lay_14 : decode cX4_lay 14 = .ok (.istore_n 3, 1) := by decide +kernel
theorem dX4_lay_15 : decode cX4_lay 15 = .ok (.aload_n 0, 1) := by decide +kernel
theorem dX4_lay_16 : decode cX4_lay 16 = .ok (.getfield 26, 3) := by decide +kernel
theorem dX4_lay_19 : decode cX4_lay 19 = .ok (.iload_n 1, 1) := by decide +kernel
theorem dX4_lay_20 : decode cX4_lay 20 = .ok (.iaload, 1) := by decide +kernel
theorem dX4_lay_21 : decode cX4_lay 21 = .ok (.aload_n 0, 1) := by decide +kernel
theorem dX4_lay_22 : decode cX4_lay 22 = .ok (.getfield 32, 3) := by decide +kernel
theorem dX4_lay_25 : decode cX4_lay 25 = .ok (.iload_n 3, 1) := by decide +kernel
theorem dX4_lay_26 : decode cX4_lay 26 = .ok (.iaload, 1) := by decide +kernel
theorem dX4_lay_27 : decode cX4_lay 27 = .ok (.if_icmp .ge 12, 3) := by decide +kernel
theorem dX4_lay_30 : decode cX4_lay 30 = .ok (.aload_n 0, 1) := by decide +kernel
theorem dX4_lay_31 : decode cX4_lay 31 = .ok (.getfield 26, 3) := by decide +kernel
theorem dX4_lay_34 : decode cX4_lay 34 = .ok (.iload_n 1, 1) := by decide +kernel
theorem dX4_lay_35 : decode cX4_lay 35 = .ok (.iaload, 1) := by decide +kernel
theorem dX4_lay_36 : decode cX4_lay 36 = .ok (.goto 9, 3) := by decide +kernel
theorem dX4_lay_39 : decode cX4_lay 39 = .ok (.aload_n 0, 1) := by decide +kernel
theorem dX4_lay_40 : decode cX4_lay 40 = .ok (.getfield 32, 3) := by decide +kernel
theorem dX4_lay_43 : decode cX4_lay 43 = .ok (.iload_n 3, 1) := by decide +kernel
theorem dX4_lay_44 : decode cX4_lay 44 = .ok (.iaload, 1) := by decide +kernel
theorem dX4_lay_45 : decode cX4_lay 45 = .ok (.istore 4, 2) := by decide +kernel
theorem dX4_lay_47 : decode cX4_lay 47 = .ok (.aload_n 0, 1) := by decide +kernel
theorem dX4_lay_48 : decode cX4_lay 48 = .ok (.getfield 26, 3) := by decide +kernel
theorem dX4_lay_51 : decode cX4_lay 51 = .ok (.iload_n 1, 1) := by decide +kernel
theorem dX4_lay_52 : decode cX4_lay 52 = .ok (.dup2, 1) := by decide +kernel
theorem dX4_lay_53 : decode cX4_lay 53 = .ok (.iaload, 1) := by decide +kernel
theorem dX4_lay_54 : decode cX4_lay 54 = .ok (.iload 4, 2) := by decide +kernel
theorem dX4_lay_56 : decode cX4_lay 56 = .ok (.isub, 1) := by decide +kernel
theorem dX4_lay_57 : decode cX4_lay 57 = .ok (.iastore, 1) := by decide +kernel
theorem dX4_lay_58 : decode cX4_lay 58 = .ok (.aload_n 0, 1) := by decide +kernel
theorem dX4_lay_59 : decode cX4_lay 59 = .ok (.getfield 32, 3) := by decide +kernel
theorem dX4_lay_62 : decode cX4_lay 62 = .ok (.iload_n 3, 1) := by decide +kernel
theorem dX4_lay_63 : decode cX4_lay 63 = .ok (.dup2, 1) := by decide +kernel
theorem dX4_lay_64 : decode cX4_lay 64 = .ok (.iaload, 1) := by decide +kernel
theorem dX4_lay_65 : decode cX4_lay 65 = .ok (.iload 4, 2) := by decide +kernel
theorem dX4_lay_67 : decode cX4_lay 67 = .ok (.isub, 1) := by decide +kernel
theorem dX4_lay_68 : decode cX4_lay 68 = .ok (.iastore, 1) := by decide +kernel
theorem dX4_lay_69 : decode cX4_lay 69 = .ok (.aload_n 0, 1) := by decide +kernel
theorem dX4_lay_70 : decode cX4_lay 70 = .ok (.getfield 35, 3) := by decide +kernel
theorem dX4_lay_73 : decode cX4_lay 73 = .ok (.iload_n 3, 1) := by decide +kernel
theorem dX4_lay_74 : decode cX4_lay 74 = .ok (.dup2, 1) := by decide +kernel
theorem dX4_lay_75 : decode cX4_lay 75 = .ok (.iaload, 1) := by decide +kernel
theorem dX4_lay_76 : decode cX4_lay 76 = .ok (.iload 4, 2) := by decide +kernel
theorem dX4_lay_78 : decode cX4_lay 78 = .ok (.iadd, 1) := by decide +kernel
theorem dX4_lay_79 : decode cX4_lay 79 = .ok (.iastore, 1) := by decide +kernel
theorem dX4_lay_80 : decode cX4_lay 80 = .ok (.aload_n 0, 1) := by decide +kernel
theorem dX4_lay_81 : decode cX4_lay 81 = .ok (.getfield 38, 3) := by decide +kernel
theorem dX4_lay_84 : decode cX4_lay 84 = .ok (.bipush 60, 2) := by decide +kernel
theorem dX4_lay_86 : decode cX4_lay 86 = .ok (.aload_n 0, 1) := by decide +kernel
theorem dX4_lay_87 : decode cX4_lay 87 = .ok (.getfield 13, 3) := by decide +kernel
theorem dX4_lay_90 : decode cX4_lay 90 = .ok (.iload_n 1, 1) := by decide +kernel
theorem dX4_lay_91 : decode cX4_lay 91 = .ok (.iaload, 1) := by decide +kernel
theorem dX4_lay_92 : decode cX4_lay 92 = .ok (.imul, 1) := by decide +kernel
theorem dX4_lay_93 : decode cX4_lay 93 = .ok (.iload_n 2, 1) := by decide +kernel
theorem dX4_lay_94 : decode cX4_lay 94 = .ok (.iadd, 1) := by decide +kernel
theorem dX4_lay_95 : decode cX4_lay 95 = .ok (.dup2, 1) := by decide +kernel
theorem dX4_lay_96 : decode cX4_lay 96 = .ok (.iaload, 1) := by decide +kernel
theorem dX4_lay_97 : decode cX4_lay 97 = .ok (.iload 4, 2) := by decide +kernel
theorem dX4_lay_99 : decode cX4_lay 99 = .ok (.iadd, 1) := by decide +kernel
theorem dX4_lay_100 : decode cX4_lay 100 = .ok (.iastore, 1) := by decide +kernel
theorem dX4_lay_101 : decode cX4_lay 101 = .ok (.aload_n 0, 1) := by decide +kernel
theorem dX4_lay_102 : decode cX4_lay 102 = .ok (.dup, 1) := by decide +kernel
theorem dX4_lay_103 : decode cX4_lay 103 = .ok (.getfield 100, 3) := by decide +kernel
theorem dX4_lay_106 : decode cX4_lay 106 = .ok (.iload 4, 2) := by decide +kernel
theorem dX4_lay_108 : decode cX4_lay 108 = .ok (.iconst 5, 1) := by decide +kernel
theorem dX4_lay_109 : decode cX4_lay 109 = .ok (.idiv, 1) := by decide +kernel
theorem dX4_lay_110 : decode cX4_lay 110 = .ok (.iadd, 1) := by decide +kernel
theorem dX4_lay_111 : decode cX4_lay 111 = .ok (.putfield 100, 3) := by decide +kernel
theorem dX4_lay_114 : decode cX4_lay 114 = .ok (.iinc 2 1, 3) := by decide +kernel
theorem dX4_lay_117 : decode cX4_lay 117 = .ok (.goto (-115), 3) := by decide +kernel
theorem dX4_lay_120 : decode cX4_lay 120 = .ok (.return_, 1) := by decide +kernel
set_option maxRecDepth 20000 in
theorem ggX4_pay_X4_isMember : GoodIn wsX4_pay wsX4_isMember := goodIn_r _ [8, 9, 10, 11, 7, 12, 26, 27, 28, 29, 30, 31, 32, 33, 34, 35, 36, 37, 38, 39, 40, 41, 42, 43, 44, 45, 46, 47, 48] (by decide +kernel) (by decide +kernel)
set_option maxRecDepth 20000 in
theorem gX4_pay_X4_isMember : GoodIn wsX4_pay (wsV RX4 93 RX4 yX4_isMember wsX4_isMember) := goodIn_app (goodIn_of _ (by decide +kernel)) ggX4_pay_X4_isMember
set_option maxRecDepth 20000 in
theorem ggX4_pay_X4_in : GoodIn wsX4_pay wsX4_in := goodIn_r _ [12] (by decide +kernel) (by decide +kernel)
set_option maxRecDepth 20000 in
theorem gX4_pay_X4_in : GoodIn wsX4_pay (va_wsS RX4 75 yX4_in wsX4_in) := goodIn_app (goodIn_of _ (by decide +kernel)) ggX4_pay_X4_in
set_option maxRecDepth 20000 in
theorem ggX4_pay_X4_lay : GoodIn wsX4_pay wsX4_lay := goodIn_r _ [16, 3, 17, 18, 19, 20, 21, 26, 27, 28, 29, 30, 31, 32, 33, 34, 35, 36, 37, 38, 39, 40, 41, 42, 43, 44, 45, 46, 47, 48] (by decide +kernel) (by decide +kernel)
set_option maxRecDepth 20000 in
theorem gX4_pay_X4_lay : GoodIn wsX4_pay (wsV RX4 104 RX4 yX4_lay wsX4_lay) := goodIn_app (goodIn_of _ (by decide +kernel)) ggX4_pay_X4_lay
set_option maxRecDepth 20000 in
theorem ggX4_pay_X4_owedBy : GoodIn wsX4_pay wsX4_owedBy := goodIn_r _ [25, 17, 26, 27, 28, 29, 30, 31, 32, 33, 34, 35, 36, 37, 38, 39, 40, 41, 42, 43, 44, 45, 46, 47, 48] (by decide +kernel) (by decide +kernel)
set_option maxRecDepth 20000 in
theorem gX4_pay_X4_owedBy : GoodIn wsX4_pay (wsV RX4 96 RX4 yX4_owedBy wsX4_owedBy) := goodIn_app (goodIn_of _ (by decide +kernel)) ggX4_pay_X4_owedBy
theorem dX4_pay_0 : decode cX4_pay 0 = .ok (.aload_n 0, 1) := by decide +kernel
theorem dX4_pay_1 : decode cX4_pay 1 = .ok (.aload_n 0, 1) := by decide +kernel
theorem dX4_pay_2 : decode cX4_pay 2 = .ok (.iload_n 1, 1) := by decide +kernel
theorem dX4_pay_3 : decode cX4_pay 3 = .ok (.invokevirtual 93, 3) := by decide +kernel
theorem dX4_pay_6 : decode cX4_pay 6 = .ok (.ifCond .ne 7, 3) := by decide +kernel
theorem dX4_pay_9 : decode cX4_pay 9 = .ok (.iconst 1, 1) := by decide +kernel
theorem dX4_pay_10 : decode cX4_pay 10 = .ok (.goto 18, 3) := by decide +kernel
theorem dX4_pay_13 : decode cX4_pay 13 = .ok (.iload_n 2, 1) := by decide +kernel
theorem dX4_pay_14 : decode cX4_pay 14 = .ok (.iconst 1, 1) := by decide +kernel
theorem dX4_pay_15 : decode cX4_pay 15 = .ok (.ldc 103, 2) := by decide +kernel
theorem dX4_pay_17 : decode cX4_pay 17 = .ok (.invokestatic 75, 3) := by decide +kernel
theorem dX4_pay_20 : decode cX4_pay 20 = .ok (.ifCond .ne 7, 3) := by decide +kernel
theorem dX4_pay_23 : decode cX4_pay 23 = .ok (.iconst 2, 1) := by decide +kernel
theorem dX4_pay_24 : decode cX4_pay 24 = .ok (.goto 4, 3) := by decide +kernel
theorem dX4_pay_27 : decode cX4_pay 27 = .ok (.iconst 0, 1) := by decide +kernel
theorem dX4_pay_28 : decode cX4_pay 28 = .ok (.putfield 69, 3) := by decide +kernel
theorem dX4_pay_31 : decode cX4_pay 31 = .ok (.aload_n 0, 1) := by decide +kernel
theorem dX4_pay_32 : decode cX4_pay 32 = .ok (.getfield 69, 3) := by decide +kernel
theorem dX4_pay_35 : decode cX4_pay 35 = .ok (.ifCond .le 5, 3) := by decide +kernel
theorem dX4_pay_38 : decode cX4_pay 38 = .ok (.iconst 0, 1) := by decide +kernel
theorem dX4_pay_39 : decode cX4_pay 39 = .ok (.ireturn, 1) := by decide +kernel
theorem dX4_pay_40 : decode cX4_pay 40 = .ok (.aload_n 0, 1) := by decide +kernel
theorem dX4_pay_41 : decode cX4_pay 41 = .ok (.getfield 26, 3) := by decide +kernel
theorem dX4_pay_44 : decode cX4_pay 44 = .ok (.iload_n 1, 1) := by decide +kernel
theorem dX4_pay_45 : decode cX4_pay 45 = .ok (.dup2, 1) := by decide +kernel
theorem dX4_pay_46 : decode cX4_pay 46 = .ok (.iaload, 1) := by decide +kernel
theorem dX4_pay_47 : decode cX4_pay 47 = .ok (.iload_n 2, 1) := by decide +kernel
theorem dX4_pay_48 : decode cX4_pay 48 = .ok (.iadd, 1) := by decide +kernel
theorem dX4_pay_49 : decode cX4_pay 49 = .ok (.iastore, 1) := by decide +kernel
theorem dX4_pay_50 : decode cX4_pay 50 = .ok (.aload_n 0, 1) := by decide +kernel
theorem dX4_pay_51 : decode cX4_pay 51 = .ok (.iload_n 1, 1) := by decide +kernel
theorem dX4_pay_52 : decode cX4_pay 52 = .ok (.invokevirtual 104, 3) := by decide +kernel
theorem dX4_pay_55 : decode cX4_pay 55 = .ok (.aload_n 0, 1) := by decide +kernel
theorem dX4_pay_56 : decode cX4_pay 56 = .ok (.iload_n 1, 1) := by decide +kernel
theorem dX4_pay_57 : decode cX4_pay 57 = .ok (.invokevirtual 96, 3) := by decide +kernel
theorem dX4_pay_60 : decode cX4_pay 60 = .ok (.ireturn, 1) := by decide +kernel
set_option maxRecDepth 20000 in
theorem ggX4_open_X4_isBranch : GoodIn wsX4_open wsX4_isBranch := goodIn_r _ [10, 11, 12, 9, 13] (by decide +kernel) (by decide +kernel)
set_option maxRecDepth 20000 in
theorem gX4_open_X4_isBranch : GoodIn wsX4_open (va_wsS RX4 90 yX4_isBranch wsX4_isBranch) := goodIn_app (goodIn_of _ (by decide +kernel)) ggX4_open_X4_isBranch
set_option maxRecDepth 20000 in
theorem ggX4_open_X4_standing : GoodIn wsX4_open wsX4_standing := goodIn_r _ [17, 18, 19, 20, 21, 22, 9, 23, 24, 25, 26, 27, 28, 29, 30, 31, 32, 33, 34, 35, 36, 37, 38, 39, 40, 41, 42, 43, 44, 45, 46, 47, 48, 49] (by decide +kernel) (by decide +kernel)
set_option maxRecDepth 20000 in
theorem gX4_open_X4_standing : GoodIn wsX4_open (wsV RX4 108 RX4 yX4_standing wsX4_standing) := goodIn_app (goodIn_of _ (by decide +kernel)) ggX4_open_X4_standing
theorem dX4_open_0 : decode cX4_open 0 = .ok (.aload_n 0, 1) := by decide +kernel
theorem dX4_open_1 : decode cX4_open 1 = .ok (.iload_n 1, 1) := by decide +kernel
theorem dX4_open_2 : decode cX4_open 2 = .ok (.invokestatic 90, 3) := by decide +kernel
theorem dX4_open_5 : decode cX4_open 5 = .ok (.ifCond .ne 7, 3) := by decide +kernel
theorem dX4_open_8 : decode cX4_open 8 = .ok (.iconst 1, 1) := by decide +kernel
theorem dX4_open_9 : decode cX4_open 9 = .ok (.goto 26, 3) := by decide +kernel
theorem dX4_open_12 : decode cX4_open 12 = .ok (.aload_n 0, 1) := by decide +kernel
theorem dX4_open_13 : decode cX4_open 13 = .ok (.getfield 41, 3) := by decide +kernel
theorem dX4_open_16 : decode cX4_open 16 = .ok (.iload_n 1, 1) := by decide +kernel
theorem dX4_open_17 : decode cX4_open 17 = .ok (.baload, 1) := by decide +kernel
theorem dX4_open_18 : decode cX4_open 18 = .ok (.ifCond .ne 12, 3) := by decide +kernel
theorem dX4_open_21 : decode cX4_open 21 = .ok (.aload_n 0, 1) := by decide +kernel
theorem dX4_open_22 : decode cX4_open 22 = .ok (.getfield 53, 3) := by decide +kernel
theorem dX4_open_25 : decode cX4_open 25 = .ok (.iload_n 1, 1) := by decide +kernel
theorem dX4_open_26 : decode cX4_open 26 = .ok (.baload, 1) := by decide +kernel
theorem dX4_open_27 : decode cX4_open 27 = .ok (.ifCond .eq 7, 3) := by decide +kernel
theorem dX4_open_30 : decode cX4_open 30 = .ok (.iconst 2, 1) := by decide +kernel
theorem dX4_open_31 : decode cX4_open 31 = .ok (.goto 4, 3) := by decide +kernel
theorem dX4_open_34 : decode cX4_open 34 = .ok (.iconst 0, 1) := by decide +kernel
theorem dX4_open_35 : decode cX4_open 35 = .ok (.putfield 69, 3) := by decide +kernel
theorem dX4_open_38 : decode cX4_open 38 = .ok (.aload_n 0, 1) := by decide +kernel
theorem dX4_open_39 : decode cX4_open 39 = .ok (.getfield 69, 3) := by decide +kernel
theorem dX4_open_42 : decode cX4_open 42 = .ok (.ifCond .le 5, 3) := by decide +kernel
theorem dX4_open_45 : decode cX4_open 45 = .ok (.iconst 0, 1) := by decide +kernel
theorem dX4_open_46 : decode cX4_open 46 = .ok (.ireturn, 1) := by decide +kernel
theorem dX4_open_47 : decode cX4_open 47 = .ok (.aload_n 0, 1) := by decide +kernel
theorem dX4_open_48 : decode cX4_open 48 = .ok (.getfield 41, 3) := by decide +kernel
theorem dX4_open_51 : decode cX4_open 51 = .ok (.iload_n 1, 1) := by decide +kernel
theorem dX4_open_52 : decode cX4_open 52 = .ok (.iconst 1, 1) := by decide +kernel
theorem dX4_open_53 : decode cX4_open 53 = .ok (.bastore, 1) := by decide +kernel
theorem dX4_open_54 : decode cX4_open 54 = .ok (.aload_n 0, 1) := by decide +kernel
theorem dX4_open_55 : decode cX4_open 55 = .ok (.getfield 44, 3) := by decide +kernel
theorem dX4_open_58 : decode cX4_open 58 = .ok (.iload_n 1, 1) := by decide +kernel
theorem dX4_open_59 : decode cX4_open 59 = .ok (.iconst 0, 1) := by decide +kernel
theorem dX4_open_60 : decode cX4_open 60 = .ok (.iastore, 1) := by decide +kernel
theorem dX4_open_61 : decode cX4_open 61 = .ok (.aload_n 0, 1) := by decide +kernel
theorem dX4_open_62 : decode cX4_open 62 = .ok (.getfield 47, 3) := by decide +kernel
theorem dX4_open_65 : decode cX4_open 65 = .ok (.iload_n 1, 1) := by decide +kernel
theorem dX4_open_66 : decode cX4_open 66 = .ok (.iconst 0, 1) := by decide +kernel
theorem dX4_open_67 : decode cX4_open 67 = .ok (.iastore, 1) := by decide +kernel
theorem dX4_open_68 : decode cX4_open 68 = .ok (.iconst 0, 1) := by decide +kernel
theorem dX4_open_69 : decode cX4_open 69 = .ok (.istore_n 2, 1) := by decide +kernel
theorem dX4_open_70 : decode cX4_open 70 = .ok (.iload_n 2, 1) := by decide +kernel
theorem dX4_open_71 : decode cX4_open 71 = .ok (.bipush 16, 2) := by decide +kernel
theorem dX4_open_73 : decode cX4_open 73 = .ok (.if_icmp .ge 21, 3) := by decide +kernel
theorem dX4_open_76 : decode cX4_open 76 = .ok (.aload_n 0, 1) := by decide +kernel
theorem dX4_open_77 : decode cX4_open 77 = .ok (.getfield 56, 3) := by decide +kernel
theorem dX4_open_80 : decode cX4_open 80 = .ok (.bipush 16, 2) := by decide +kernel
theorem dX4_open_82 : decode cX4_open 82 = .ok (.iload_n 1, 1) := by decide +kernel
theorem dX4_open_83 : decode cX4_open 83 = .ok (.imul, 1) := by decide +kernel
theorem dX4_open_84 : decode cX4_open 84 = .ok (.iload_n 2, 1) := by decide +kernel
theorem dX4_open_85 : decode cX4_open 85 = .ok (.iadd, 1) := by decide +kernel
theorem dX4_open_86 : decode cX4_open 86 = .ok (.iconst 0, 1) := by decide +kernel
theorem dX4_open_87 : decode cX4_open 87 = .ok (.bastore, 1) := by decide +kernel
theorem dX4_open_88 : decode cX4_open 88 = .ok (.iinc 2 1, 3) := by decide +kernel
theorem dX4_open_91 : decode cX4_open 91 = .ok (.goto (-21), 3) := by decide +kernel
theorem dX4_open_94 : decode cX4_open 94 = .ok (.aload_n 0, 1) := by decide +kernel
theorem dX4_open_95 : decode cX4_open 95 = .ok (.iload_n 1, 1) := by decide +kernel
theorem dX4_open_96 : decode cX4_open 96 = .ok (.invokevirtual 108, 3) := by decide +kernel
theorem dX4_open_99 : decode cX4_open 99 = .ok (.ireturn, 1) := by decide +kernel
set_option maxRecDepth 20000 in
theorem ggX4_vote_X4_isMember : GoodIn wsX4_vote wsX4_isMember := goodIn_r _ [11, 12, 13, 14, 10, 15, 23, 24, 25, 26, 27, 28, 29, 30, 31, 32, 33, 34, 35, 36, 37, 38, 39, 40, 41, 42, 43, 44, 45] (by decide +kernel) (by decide +kernel)
set_option maxRecDepth 20000 in
theorem gX4_vote_X4_isMember : GoodIn wsX4_vote (wsV RX4 93 RX4 yX4_isMember wsX4_isMember) := goodIn_app (goodIn_of _ (by decide +kernel)) ggX4_vote_X4_isMember
set_option maxRecDepth 20000 in
theorem ggX4_vote_X4_stands : GoodIn wsX4_vote wsX4_stands := goodIn_r _ [19, 20, 21, 22, 23, 24, 25, 26, 27, 28, 29, 30, 31, 32, 33, 34, 35, 36, 37, 38, 39, 40, 41, 42, 43, 44, 45] (by decide +kernel) (by decide +kernel)
set_option maxRecDepth 20000 in
theorem gX4_vote_X4_stands : GoodIn wsX4_vote (wsV RX4 82 RX4 yX4_stands wsX4_stands) := goodIn_app (goodIn_of _ (by decide +kernel)) ggX4_vote_X4_stands
theorem dX4_vote_0 : decode cX4_vote 0 = .ok (.aload_n 0, 1) := by decide +kernel
theorem dX4_vote_1 : decode cX4_vote 1 = .ok (.aload_n 0, 1) := by decide +kernel
theorem dX4_vote_2 : decode cX4_vote 2 = .ok (.iload_n 1, 1) := by decide +kernel
theorem dX4_vote_3 : decode cX4_vote 3 = .ok (.invokevirtual 93, 3) := by decide +kernel
theorem dX4_vote_6 : decode cX4_vote 6 = .ok (.ifCond .ne 7, 3) := by decide +kernel
theorem dX4_vote_9 : decode cX4_vote 9 = .ok (.iconst 1, 1) := by decide +kernel
theorem dX4_vote_10 : decode cX4_vote 10 = .ok (.goto 4, 3) := by decide +kernel
theorem dX4_vote_13 : decode cX4_vote 13 = .ok (.iconst 0, 1) := by decide +kernel
theorem dX4_vote_14 : decode cX4_vote 14 = .ok (.putfield 69, 3) := by decide +kernel
theorem dX4_vote_17 : decode cX4_vote 17 = .ok (.aload_n 0, 1) := by decide +kernel
theorem dX4_vote_18 : decode cX4_vote 18 = .ok (.getfield 69, 3) := by decide +kernel
theorem dX4_vote_21 : decode cX4_vote 21 = .ok (.ifCond .ne 50, 3) := by decide +kernel
theorem dX4_vote_24 : decode cX4_vote 24 = .ok (.aload_n 0, 1) := by decide +kernel
theorem dX4_vote_25 : decode cX4_vote 25 = .ok (.getfield 13, 3) := by decide +kernel
theorem dX4_vote_28 : decode cX4_vote 28 = .ok (.iload_n 1, 1) := by decide +kernel
theorem dX4_vote_29 : decode cX4_vote 29 = .ok (.iaload, 1) := by decide +kernel
theorem dX4_vote_30 : decode cX4_vote 30 = .ok (.istore_n 3, 1) := by decide +kernel
theorem dX4_vote_31 : decode cX4_vote 31 = .ok (.aload_n 0, 1) := by decide +kernel
theorem dX4_vote_32 : decode cX4_vote 32 = .ok (.aload_n 0, 1) := by decide +kernel
theorem dX4_vote_33 : decode cX4_vote 33 = .ok (.getfield 41, 3) := by decide +kernel
theorem dX4_vote_36 : decode cX4_vote 36 = .ok (.iload_n 3, 1) := by decide +kernel
theorem dX4_vote_37 : decode cX4_vote 37 = .ok (.baload, 1) := by decide +kernel
theorem dX4_vote_38 : decode cX4_vote 38 = .ok (.ifCond .eq 25, 3) := by decide +kernel
theorem dX4_vote_41 : decode cX4_vote 41 = .ok (.aload_n 0, 1) := by decide +kernel
theorem dX4_vote_42 : decode cX4_vote 42 = .ok (.iload_n 1, 1) := by decide +kernel
theorem dX4_vote_43 : decode cX4_vote 43 = .ok (.invokevirtual 82, 3) := by decide +kernel
theorem dX4_vote_46 : decode cX4_vote 46 = .ok (.ifCond .eq 17, 3) := by decide +kernel
theorem dX4_vote_49 : decode cX4_vote 49 = .ok (.aload_n 0, 1) := by decide +kernel
theorem dX4_vote_50 : decode cX4_vote 50 = .ok (.getfield 56, 3) := by decide +kernel
theorem dX4_vote_53 : decode cX4_vote 53 = .ok (.bipush 16, 2) := by decide +kernel
theorem dX4_vote_55 : decode cX4_vote 55 = .ok (.iload_n 3, 1) := by decide +kernel
theorem dX4_vote_56 : decode cX4_vote 56 = .ok (.imul, 1) := by decide +kernel
theorem dX4_vote_57 : decode cX4_vote 57 = .ok (.iload_n 1, 1) := by decide +kernel
theorem dX4_vote_58 : decode cX4_vote 58 = .ok (.iadd, 1) := by decide +kernel
theorem dX4_vote_59 : decode cX4_vote 59 = .ok (.baload, 1) := by decide +kernel
theorem dX4_vote_60 : decode cX4_vote 60 = .ok (.ifCond .eq 7, 3) := by decide +kernel
theorem dX4_vote_63 : decode cX4_vote 63 = .ok (.iconst 2, 1) := by decide +kernel
theorem dX4_vote_64 : decode cX4_vote 64 = .ok (.goto 4, 3) := by decide +kernel
theorem dX4_vote_67 : decode cX4_vote 67 = .ok (.iconst 0, 1) := by decide +kernel
theorem dX4_vote_68 : decode cX4_vote 68 = .ok (.putfield 69, 3) := by decide +kernel
theorem dX4_vote_71 : decode cX4_vote 71 = .ok (.aload_n 0, 1) := by decide +kernel
theorem dX4_vote_72 : decode cX4_vote 72 = .ok (.getfield 69, 3) := by decide +kernel
theorem dX4_vote_75 : decode cX4_vote 75 = .ok (.ifCond .le 5, 3) := by decide +kernel
theorem dX4_vote_78 : decode cX4_vote 78 = .ok (.iconst 0, 1) := by decide +kernel
theorem dX4_vote_79 : decode cX4_vote 79 = .ok (.ireturn, 1) := by decide +kernel
theorem dX4_vote_80 : decode cX4_vote 80 = .ok (.aload_n 0, 1) := by decide +kernel
theorem dX4_vote_81 : decode cX4_vote 81 = .ok (.getfield 13, 3) := by decide +kernel
theorem dX4_vote_84 : decode cX4_vote 84 = .ok (.iload_n 1, 1) := by decide +kernel
theorem dX4_vote_85 : decode cX4_vote 85 = .ok (.iaload, 1) := by decide +kernel
theorem dX4_vote_86 : decode cX4_vote 86 = .ok (.istore_n 3, 1) := by decide +kernel
theorem dX4_vote_87 : decode cX4_vote 87 = .ok (.aload_n 0, 1) := by decide +kernel
theorem dX4_vote_88 : decode cX4_vote 88 = .ok (.getfield 56, 3) := by decide +kernel
theorem dX4_vote_91 : decode cX4_vote 91 = .ok (.bipush 16, 2) := by decide +kernel
theorem dX4_vote_93 : decode cX4_vote 93 = .ok (.iload_n 3, 1) := by decide +kernel
theorem dX4_vote_94 : decode cX4_vote 94 = .ok (.imul, 1) := by decide +kernel
theorem dX4_vote_95 : decode cX4_vote 95 = .ok (.iload_n 1, 1) := by decide +kernel
theorem dX4_vote_96 : decode cX4_vote 96 = .ok (.iadd, 1) := by decide +kernel
theorem dX4_vote_97 : decode cX4_vote 97 = .ok (.iconst 1, 1) := by decide +kernel
theorem dX4_vote_98 : decode cX4_vote 98 = .ok (.bastore, 1) := by decide +kernel
theorem dX4_vote_99 : decode cX4_vote 99 = .ok (.aload_n 0, 1) := by decide +kernel
theorem dX4_vote_100 : decode cX4_vote 100 = .ok (.getfield 44, 3) := by decide +kernel
theorem dX4_vote_103 : decode cX4_vote 103 = .ok (.iload_n 3, 1) := by decide +kernel
theorem dX4_vote_104 : decode cX4_vote 104 = .ok (.dup2, 1) := by decide +kernel
theorem dX4_vote_105 : decode cX4_vote 105 = .ok (.iaload, 1) := by decide +kernel
theorem dX4_vote_106 : decode cX4_vote 106 = .ok (.iload_n 2, 1) := by decide +kernel
theorem dX4_vote_107 : decode cX4_vote 107 = .ok (.ifCond .eq 7, 3) := by decide +kernel
theorem dX4_vote_110 : decode cX4_vote 110 = .ok (.iconst 1, 1) := by decide +kernel
theorem dX4_vote_111 : decode cX4_vote 111 = .ok (.goto 4, 3) := by decide +kernel
theorem dX4_vote_114 : decode cX4_vote 114 = .ok (.iconst 0, 1) := by decide +kernel
theorem dX4_vote_115 : decode cX4_vote 115 = .ok (.iadd, 1) := by decide +kernel
theorem dX4_vote_116 : decode cX4_vote 116 = .ok (.iastore, 1) := by decide +kernel
theorem dX4_vote_117 : decode cX4_vote 117 = .ok (.aload_n 0, 1) := by decide +kernel
theorem dX4_vote_118 : decode cX4_vote 118 = .ok (.getfield 47, 3) := by decide +kernel
theorem dX4_vote_121 : decode cX4_vote 121 = .ok (.iload_n 3, 1) := by decide +kernel
theorem dX4_vote_122 : decode cX4_vote 122 = .ok (.dup2, 1) := by decide +kernel
theorem dX4_vote_123 : decode cX4_vote 123 = .ok (.iaload, 1) := by decide +kernel
theorem dX4_vote_124 : decode cX4_vote 124 = .ok (.iload_n 2, 1) := by decide +kernel
theorem dX4_vote_125 : decode cX4_vote 125 = .ok (.ifCond .eq 7, 3) := by decide +kernel
theorem dX4_vote_128 : decode cX4_vote 128 = .ok (.iconst 0, 1) := by decide +kernel
theorem dX4_vote_129 : decode cX4_vote 129 = .ok (.goto 4, 3) := by decide +kernel
theorem dX4_vote_132 : decode cX4_vote 132 = .ok (.iconst 1, 1) := by decide +kernel
theorem dX4_vote_133 : decode cX4_vote 133 = .ok (.iadd, 1) := by decide +kernel
theorem dX4_vote_134 : decode cX4_vote 134 = .ok (.iastore, 1) := by decide +kernel
theorem dX4_vote_135 : decode cX4_vote 135 = .ok (.aload_n 0, 1) := by decide +kernel
theorem dX4_vote_136 : decode cX4_vote 136 = .ok (.getfield 44, 3) := by decide +kernel
theorem dX4_vote_139 : decode cX4_vote 139 = .ok (.iload_n 3, 1) := by decide +kernel
theorem dX4_vote_140 : decode cX4_vote 140 = .ok (.iaload, 1) := by decide +kernel
theorem dX4_vote_141 : decode cX4_vote 141 = .ok (.aload_n 0, 1) := by decide +kernel
theorem dX4_vote_142 : decode cX4_vote 142 = .ok (.getfield 47, 3) := by decide +kernel
theorem dX4_vote_145 : decode cX4_vote 145 = .ok (.iload_n 3, 1) := by decide +kernel
theorem dX4_vote_146 : decode cX4_vote 146 = .ok (.iaload, 1) := by decide +kernel
theorem dX4_vote_147 : decode cX4_vote 147 = .ok (.iadd, 1) := by decide +kernel
theorem dX4_vote_148 : decode cX4_vote 148 = .ok (.ireturn, 1) := by decide +kernel
set_option maxRecDepth 20000 in
theorem ggX4_close_X4_isBranch : GoodIn wsX4_close wsX4_isBranch := goodIn_r _ [9, 10, 11, 8, 12] (by decide +kernel) (by decide +kernel)
set_option maxRecDepth 20000 in
theorem gX4_close_X4_isBranch : GoodIn wsX4_close (va_wsS RX4 90 yX4_isBranch wsX4_isBranch) := goodIn_app (goodIn_of _ (by decide +kernel)) ggX4_close_X4_isBranch
set_option maxRecDepth 20000 in
theorem ggX4_close_X4_standing : GoodIn wsX4_close wsX4_standing := goodIn_r _ [16, 17, 18, 19, 20, 21, 8, 22, 23, 24, 25, 26, 27, 28, 29, 30, 31, 32, 33, 34, 35, 36, 37, 38, 39, 40, 41, 42, 43, 44, 45, 46, 47, 48] (by decide +kernel) (by decide +kernel)
set_option maxRecDepth 20000 in
theorem gX4_close_X4_standing : GoodIn wsX4_close (wsV RX4 108 RX4 yX4_standing wsX4_standing) := goodIn_app (goodIn_of _ (by decide +kernel)) ggX4_close_X4_standing
theorem dX4_close_0 : decode cX4_close 0 = .ok (.aload_n 0, 1) := by decide +kernel
theorem dX4_close_1 : decode cX4_close 1 = .ok (.iload_n 1, 1) := by decide +kernel
theorem dX4_close_2 : decode cX4_close 2 = .ok (.invokestatic 90, 3) := by decide +kernel
theorem dX4_close_5 : decode cX4_close 5 = .ok (.ifCond .ne 7, 3) := by decide +kernel
theorem dX4_close_8 : decode cX4_close 8 = .ok (.iconst 1, 1) := by decide +kernel
theorem dX4_close_9 : decode cX4_close 9 = .ok (.goto 17, 3) := by decide +kernel
theorem dX4_close_12 : decode cX4_close 12 = .ok (.aload_n 0, 1) := by decide +kernel
theorem dX4_close_13 : decode cX4_close 13 = .ok (.getfield 41, 3) := by decide +kernel
theorem dX4_close_16 : decode cX4_close 16 = .ok (.iload_n 1, 1) := by decide +kernel
theorem dX4_close_17 : decode cX4_close 17 = .ok (.baload, 1) := by decide +kernel
theorem dX4_close_18 : decode cX4_close 18 = .ok (.ifCond .ne 7, 3) := by decide +kernel
theorem dX4_close_21 : decode cX4_close 21 = .ok (.iconst 2, 1) := by decide +kernel
theorem dX4_close_22 : decode cX4_close 22 = .ok (.goto 4, 3) := by decide +kernel
theorem dX4_close_25 : decode cX4_close 25 = .ok (.iconst 0, 1) := by decide +kernel
theorem dX4_close_26 : decode cX4_close 26 = .ok (.putfield 69, 3) := by decide +kernel
theorem dX4_close_29 : decode cX4_close 29 = .ok (.aload_n 0, 1) := by decide +kernel
theorem dX4_close_30 : decode cX4_close 30 = .ok (.getfield 69, 3) := by decide +kernel
theorem dX4_close_33 : decode cX4_close 33 = .ok (.ifCond .le 5, 3) := by decide +kernel
theorem dX4_close_36 : decode cX4_close 36 = .ok (.iconst 0, 1) := by decide +kernel
theorem dX4_close_37 : decode cX4_close 37 = .ok (.ireturn, 1) := by decide +kernel
theorem dX4_close_38 : decode cX4_close 38 = .ok (.aload_n 0, 1) := by decide +kernel
theorem dX4_close_39 : decode cX4_close 39 = .ok (.getfield 41, 3) := by decide +kernel
theorem dX4_close_42 : decode cX4_close 42 = .ok (.iload_n 1, 1) := by decide +kernel
theorem dX4_close_43 : decode cX4_close 43 = .ok (.iconst 0, 1) := by decide +kernel
theorem dX4_close_44 : decode cX4_close 44 = .ok (.bastore, 1) := by decide +kernel
theorem dX4_close_45 : decode cX4_close 45 = .ok (.aload_n 0, 1) := by decide +kernel
theorem dX4_close_46 : decode cX4_close 46 = .ok (.getfield 44, 3) := by decide +kernel
theorem dX4_close_49 : decode cX4_close 49 = .ok (.iload_n 1, 1) := by decide +kernel
theorem dX4_close_50 : decode cX4_close 50 = .ok (.iaload, 1) := by decide +kernel
theorem dX4_close_51 : decode cX4_close 51 = .ok (.aload_n 0, 1) := by decide +kernel
theorem dX4_close_52 : decode cX4_close 52 = .ok (.getfield 47, 3) := by decide +kernel
theorem dX4_close_55 : decode cX4_close 55 = .ok (.iload_n 1, 1) := by decide +kernel
theorem dX4_close_56 : decode cX4_close 56 = .ok (.iaload, 1) := by decide +kernel
theorem dX4_close_57 : decode cX4_close 57 = .ok (.if_icmp .le 30, 3) := by decide +kernel
theorem dX4_close_60 : decode cX4_close 60 = .ok (.iconst 2, 1) := by decide +kernel
theorem dX4_close_61 : decode cX4_close 61 = .ok (.aload_n 0, 1) := by decide +kernel
theorem dX4_close_62 : decode cX4_close 62 = .ok (.getfield 44, 3) := by decide +kernel
theorem dX4_close_65 : decode cX4_close 65 = .ok (.iload_n 1, 1) := by decide +kernel
theorem dX4_close_66 : decode cX4_close 66 = .ok (.iaload, 1) := by decide +kernel
theorem dX4_close_67 : decode cX4_close 67 = .ok (.aload_n 0, 1) := by decide +kernel
theorem dX4_close_68 : decode cX4_close 68 = .ok (.getfield 47, 3) := by decide +kernel
theorem dX4_close_71 : decode cX4_close 71 = .ok (.iload_n 1, 1) := by decide +kernel
theorem dX4_close_72 : decode cX4_close 72 = .ok (.iaload, 1) := by decide +kernel
theorem dX4_close_73 : decode cX4_close 73 = .ok (.iadd, 1) := by decide +kernel
theorem dX4_close_74 : decode cX4_close 74 = .ok (.imul, 1) := by decide +kernel
theorem dX4_close_75 : decode cX4_close 75 = .ok (.aload_n 0, 1) := by decide +kernel
theorem dX4_close_76 : decode cX4_close 76 = .ok (.iload_n 1, 1) := by decide +kernel
theorem dX4_close_77 : decode cX4_close 77 = .ok (.invokevirtual 108, 3) := by decide +kernel
theorem dX4_close_80 : decode cX4_close 80 = .ok (.if_icmp .lt 7, 3) := by decide +kernel
theorem dX4_close_83 : decode cX4_close 83 = .ok (.iconst 1, 1) := by decide +kernel
theorem dX4_close_84 : decode cX4_close 84 = .ok (.goto 4, 3) := by decide +kernel
theorem dX4_close_87 : decode cX4_close 87 = .ok (.iconst 0, 1) := by decide +kernel
theorem dX4_close_88 : decode cX4_close 88 = .ok (.istore_n 2, 1) := by decide +kernel
theorem dX4_close_89 : decode cX4_close 89 = .ok (.aload_n 0, 1) := by decide +kernel
theorem dX4_close_90 : decode cX4_close 90 = .ok (.getfield 50, 3) := by decide +kernel
theorem dX4_close_93 : decode cX4_close 93 = .ok (.iload_n 1, 1) := by decide +kernel
theorem dX4_close_94 : decode cX4_close 94 = .ok (.iload_n 2, 1) := by decide +kernel
theorem dX4_close_95 : decode cX4_close 95 = .ok (.bastore, 1) := by decide +kernel
theorem dX4_close_96 : decode cX4_close 96 = .ok (.iload_n 2, 1) := by decide +kernel
theorem dX4_close_97 : decode cX4_close 97 = .ok (.ireturn, 1) := by decide +kernel
set_option maxRecDepth 20000 in
theorem ggX4_strike_X4_isBranch : GoodIn wsX4_strike wsX4_isBranch := goodIn_r _ [8, 9, 10, 7, 11] (by decide +kernel) (by decide +kernel)
set_option maxRecDepth 20000 in
theorem gX4_strike_X4_isBranch : GoodIn wsX4_strike (va_wsS RX4 90 yX4_isBranch wsX4_isBranch) := goodIn_app (goodIn_of _ (by decide +kernel)) ggX4_strike_X4_isBranch
theorem dX4_strike_0 : decode cX4_strike 0 = .ok (.aload_n 0, 1) := by decide +kernel
theorem dX4_strike_1 : decode cX4_strike 1 = .ok (.iload_n 1, 1) := by decide +kernel
theorem dX4_strike_2 : decode cX4_strike 2 = .ok (.invokestatic 90, 3) := by decide +kernel
theorem dX4_strike_5 : decode cX4_strike 5 = .ok (.ifCond .ne 7, 3) := by decide +kernel
theorem dX4_strike_8 : decode cX4_strike 8 = .ok (.iconst 1, 1) := by decide +kernel
theorem dX4_strike_9 : decode cX4_strike 9 = .ok (.goto 4, 3) := by decide +kernel
theorem dX4_strike_12 : decode cX4_strike 12 = .ok (.iconst 0, 1) := by decide +kernel
theorem dX4_strike_13 : decode cX4_strike 13 = .ok (.putfield 69, 3) := by decide +kernel
theorem dX4_strike_16 : decode cX4_strike 16 = .ok (.aload_n 0, 1) := by decide +kernel
theorem dX4_strike_17 : decode cX4_strike 17 = .ok (.getfield 69, 3) := by decide +kernel
theorem dX4_strike_20 : decode cX4_strike 20 = .ok (.ifCond .ne 62, 3) := by decide +kernel
theorem dX4_strike_23 : decode cX4_strike 23 = .ok (.iload_n 2, 1) := by decide +kernel
theorem dX4_strike_24 : decode cX4_strike 24 = .ok (.ifCond .eq 38, 3) := by decide +kernel
theorem dX4_strike_27 : decode cX4_strike 27 = .ok (.aload_n 0, 1) := by decide +kernel
theorem dX4_strike_28 : decode cX4_strike 28 = .ok (.getfield 50, 3) := by decide +kernel
theorem dX4_strike_31 : decode cX4_strike 31 = .ok (.iload_n 1, 1) := by decide +kernel
theorem dX4_strike_32 : decode cX4_strike 32 = .ok (.baload, 1) := by decide +kernel
theorem dX4_strike_33 : decode cX4_strike 33 = .ok (.ifCond .eq 25, 3) := by decide +kernel
theorem dX4_strike_36 : decode cX4_strike 36 = .ok (.aload_n 0, 1) := by decide +kernel
theorem dX4_strike_37 : decode cX4_strike 37 = .ok (.getfield 53, 3) := by decide +kernel
theorem dX4_strike_40 : decode cX4_strike 40 = .ok (.iload_n 1, 1) := by decide +kernel
theorem dX4_strike_41 : decode cX4_strike 41 = .ok (.baload, 1) := by decide +kernel
theorem dX4_strike_42 : decode cX4_strike 42 = .ok (.ifCond .ne 16, 3) := by decide +kernel
theorem dX4_strike_45 : decode cX4_strike 45 = .ok (.aload_n 0, 1) := by decide +kernel
theorem dX4_strike_46 : decode cX4_strike 46 = .ok (.getfield 41, 3) := by decide +kernel
theorem dX4_strike_49 : decode cX4_strike 49 = .ok (.iload_n 1, 1) := by decide +kernel
theorem dX4_strike_50 : decode cX4_strike 50 = .ok (.baload, 1) := by decide +kernel
theorem dX4_strike_51 : decode cX4_strike 51 = .ok (.ifCond .ne 7, 3) := by decide +kernel
theorem dX4_strike_54 : decode cX4_strike 54 = .ok (.iconst 1, 1) := by decide +kernel
theorem dX4_strike_55 : decode cX4_strike 55 = .ok (.goto 13, 3) := by decide +kernel
theorem dX4_strike_58 : decode cX4_strike 58 = .ok (.iconst 0, 1) := by decide +kernel
theorem dX4_strike_59 : decode cX4_strike 59 = .ok (.goto 9, 3) := by decide +kernel
theorem dX4_strike_62 : decode cX4_strike 62 = .ok (.aload_n 0, 1) := by decide +kernel
theorem dX4_strike_63 : decode cX4_strike 63 = .ok (.getfield 53, 3) := by decide +kernel
theorem dX4_strike_66 : decode cX4_strike 66 = .ok (.iload_n 1, 1) := by decide +kernel
theorem dX4_strike_67 : decode cX4_strike 67 = .ok (.baload, 1) := by decide +kernel
theorem dX4_strike_68 : decode cX4_strike 68 = .ok (.istore_n 3, 1) := by decide +kernel
theorem dX4_strike_69 : decode cX4_strike 69 = .ok (.aload_n 0, 1) := by decide +kernel
theorem dX4_strike_70 : decode cX4_strike 70 = .ok (.iload_n 3, 1) := by decide +kernel
theorem dX4_strike_71 : decode cX4_strike 71 = .ok (.ifCond .eq 7, 3) := by decide +kernel
theorem dX4_strike_74 : decode cX4_strike 74 = .ok (.iconst 0, 1) := by decide +kernel
theorem dX4_strike_75 : decode cX4_strike 75 = .ok (.goto 4, 3) := by decide +kernel
theorem dX4_strike_78 : decode cX4_strike 78 = .ok (.iconst 2, 1) := by decide +kernel
theorem dX4_strike_79 : decode cX4_strike 79 = .ok (.putfield 69, 3) := by decide +kernel
theorem dX4_strike_82 : decode cX4_strike 82 = .ok (.aload_n 0, 1) := by decide +kernel
theorem dX4_strike_83 : decode cX4_strike 83 = .ok (.getfield 69, 3) := by decide +kernel
theorem dX4_strike_86 : decode cX4_strike 86 = .ok (.ifCond .ne 17, 3) := by decide +kernel
theorem dX4_strike_89 : decode cX4_strike 89 = .ok (.aload_n 0, 1) := by decide +kernel
theorem dX4_strike_90 : decode cX4_strike 90 = .ok (.getfield 53, 3) := by decide +kernel
theorem dX4_strike_93 : decode cX4_strike 93 = .ok (.iload_n 1, 1) := by decide +kernel
theorem dX4_strike_94 : decode cX4_strike 94 = .ok (.iload_n 2, 1) := by decide +kernel
theorem dX4_strike_95 : decode cX4_strike 95 = .ok (.bastore, 1) := by decide +kernel
theorem dX4_strike_96 : decode cX4_strike 96 = .ok (.aload_n 0, 1) := by decide +kernel
theorem dX4_strike_97 : decode cX4_strike 97 = .ok (.getfield 50, 3) := by decide +kernel
theorem dX4_strike_100 : decode cX4_strike 100 = .ok (.iload_n 1, 1) := by decide +kernel
theorem dX4_strike_101 : decode cX4_strike 101 = .ok (.iconst 0, 1) := by decide +kernel
theorem dX4_strike_102 : decode cX4_strike 102 = .ok (.bastore, 1) := by decide +kernel
theorem dX4_strike_103 : decode cX4_strike 103 = .ok (.return_, 1) := by decide +kernel
set_option maxRecDepth 20000 in
theorem ggX4_payStrikes_X4_stands : GoodIn wsX4_payStrikes wsX4_stands := goodIn_r _ [11, 12, 13, 14, 15, 16, 17, 18, 19, 20, 21, 22, 23, 24, 25, 26, 27, 28, 29, 30, 31, 32, 33, 34, 35, 36, 37] (by decide +kernel) (by decide +kernel)
set_option maxRecDepth 20000 in
theorem gX4_payStrikes_X4_stands : GoodIn wsX4_payStrikes (wsV RX4 82 RX4 yX4_stands wsX4_stands) := goodIn_app (goodIn_of _ (by decide +kernel)) ggX4_payStrikes_X4_stands
theorem dX4_payStrikes_0 : decode cX4_payStrikes 0 = .ok (.iconst 0, 1) := by decide +kernel
theorem dX4_payStrikes_1 : decode cX4_payStrikes 1 = .ok (.istore_n 1, 1) := by decide +kernel
theorem dX4_payStrikes_2 : decode cX4_payStrikes 2 = .ok (.iload_n 1, 1) := by decide +kernel
theorem dX4_payStrikes_3 : decode cX4_payStrikes 3 = .ok (.aload_n 0, 1) := by decide +kernel
theorem dX4_payStrikes_4 : decode cX4_payStrikes 4 = .ok (.getfield 72, 3) := by decide +kernel
theorem dX4_payStrikes_7 : decode cX4_payStrikes 7 = .ok (.if_icmp .ge 68, 3) := by decide +kernel
theorem dX4_payStrikes_10 : decode cX4_payStrikes 10 = .ok (.aload_n 0, 1) := by decide +kernel
theorem dX4_payStrikes_11 : decode cX4_payStrikes 11 = .ok (.getfield 53, 3) := by decide +kernel
theorem dX4_payStrikes_14 : decode cX4_payStrikes 14 = .ok (.aload_n 0, 1) := by decide +kernel
theorem dX4_payStrikes_15 : decode cX4_payStrikes 15 = .ok (.getfield 13, 3) := by decide +kernel
theorem dX4_payStrikes_18 : decode cX4_payStrikes 18 = .ok (.iload_n 1, 1) := by decide +kernel
theorem dX4_payStrikes_19 : decode cX4_payStrikes 19 = .ok (.iaload, 1) := by decide +kernel
theorem dX4_payStrikes_20 : decode cX4_payStrikes 20 = .ok (.baload, 1) := by decide +kernel
theorem dX4_payStrikes_21 : decode cX4_payStrikes 21 = .ok (.ifCond .eq 48, 3) := by decide +kernel
theorem dX4_payStrikes_24 : decode cX4_payStrikes 24 = .ok (.aload_n 0, 1) := by decide +kernel
theorem dX4_payStrikes_25 : decode cX4_payStrikes 25 = .ok (.iload_n 1, 1) := by decide +kernel
theorem dX4_payStrikes_26 : decode cX4_payStrikes 26 = .ok (.invokevirtual 82, 3) := by decide +kernel
theorem dX4_payStrikes_29 : decode cX4_payStrikes 29 = .ok (.ifCond .eq 40, 3) := by decide +kernel
theorem dX4_payStrikes_32 : decode cX4_payStrikes 32 = .ok (.aload_n 0, 1) := by decide +kernel
theorem dX4_payStrikes_33 : decode cX4_payStrikes 33 = .ok (.getfield 100, 3) := by decide +kernel
theorem dX4_payStrikes_36 : decode cX4_payStrikes 36 = .ok (.aload_n 0, 1) := by decide +kernel
theorem dX4_payStrikes_37 : decode cX4_payStrikes 37 = .ok (.getfield 62, 3) := by decide +kernel
theorem dX4_payStrikes_40 : decode cX4_payStrikes 40 = .ok (.if_icmp .lt 29, 3) := by decide +kernel
theorem dX4_payStrikes_43 : decode cX4_payStrikes 43 = .ok (.aload_n 0, 1) := by decide +kernel
theorem dX4_payStrikes_44 : decode cX4_payStrikes 44 = .ok (.dup, 1) := by decide +kernel
theorem dX4_payStrikes_45 : decode cX4_payStrikes 45 = .ok (.getfield 100, 3) := by decide +kernel
theorem dX4_payStrikes_48 : decode cX4_payStrikes 48 = .ok (.aload_n 0, 1) := by decide +kernel
theorem dX4_payStrikes_49 : decode cX4_payStrikes 49 = .ok (.getfield 62, 3) := by decide +kernel
theorem dX4_payStrikes_52 : decode cX4_payStrikes 52 = .ok (.isub, 1) := by decide +kernel
theorem dX4_payStrikes_53 : decode cX4_payStrikes 53 = .ok (.putfield 100, 3) := by decide +kernel
theorem dX4_payStrikes_56 : decode cX4_payStrikes 56 = .ok (.aload_n 0, 1) := by decide +kernel
theorem dX4_payStrikes_57 : decode cX4_payStrikes 57 = .ok (.getfield 29, 3) := by decide +kernel
theorem dX4_payStrikes_60 : decode cX4_payStrikes 60 = .ok (.iload_n 1, 1) := by decide +kernel
theorem dX4_payStrikes_61 : decode cX4_payStrikes 61 = .ok (.dup2, 1) := by decide +kernel
theorem dX4_payStrikes_62 : decode cX4_payStrikes 62 = .ok (.iaload, 1) := by decide +kernel
theorem dX4_payStrikes_63 : decode cX4_payStrikes 63 = .ok (.aload_n 0, 1) := by decide +kernel
theorem dX4_payStrikes_64 : decode cX4_payStrikes 64 = .ok (.getfield 62, 3) := by decide +kernel
theorem dX4_payStrikes_67 : decode cX4_payStrikes 67 = .ok (.iadd, 1) := by decide +kernel
theorem dX4_payStrikes_68 : decode cX4_payStrikes 68 = .ok (.iastore, 1) := by decide +kernel
theorem dX4_payStrikes_69 : decode cX4_payStrikes 69 = .ok (.iinc 1 1, 3) := by decide +kernel
theorem dX4_payStrikes_72 : decode cX4_payStrikes 72 = .ok (.goto (-70), 3) := by decide +kernel
theorem dX4_payStrikes_75 : decode cX4_payStrikes 75 = .ok (.return_, 1) := by decide +kernel
set_option maxRecDepth 20000 in
theorem ggX4_takeDues_X4_lay : GoodIn wsX4_takeDues wsX4_lay := goodIn_r _ [12, 13, 5, 14, 15, 16, 17, 18, 19, 20, 21, 22, 23, 24, 25, 26, 27, 28, 29, 30, 31, 32, 33, 34, 35, 36, 37, 38, 39, 40] (by decide +kernel) (by decide +kernel)
set_option maxRecDepth 20000 in
theorem gX4_takeDues_X4_lay : GoodIn wsX4_takeDues (wsV RX4 104 RX4 yX4_lay wsX4_lay) := goodIn_app (goodIn_of _ (by decide +kernel)) ggX4_takeDues_X4_lay
theorem dX4_takeDues_0 : decode cX4_takeDues 0 = .ok (.aload_n 0, 1) := by decide +kernel
theorem dX4_takeDues_1 : decode cX4_takeDues 1 = .ok (.getfield 79, 3) := by decide +kernel
theorem dX4_takeDues_4 : decode cX4_takeDues 4 = .ok (.bipush 30, 2) := by decide +kernel
theorem dX4_takeDues_6 : decode cX4_takeDues 6 = .ok (.idiv, 1) := by decide +kernel
theorem dX4_takeDues_7 : decode cX4_takeDues 7 = .ok (.istore_n 1, 1) := by decide +kernel
theorem dX4_takeDues_8 : decode cX4_takeDues 8 = .ok (.iconst 0, 1) := by decide +kernel
theorem dX4_takeDues_9 : decode cX4_takeDues 9 = .ok (.istore_n 2, 1) := by decide +kernel
theorem dX4_takeDues_10 : decode cX4_takeDues 10 = .ok (.iload_n 2, 1) := by decide +kernel
theorem dX4_takeDues_11 : decode cX4_takeDues 11 = .ok (.aload_n 0, 1) := by decide +kernel
theorem dX4_takeDues_12 : decode cX4_takeDues 12 = .ok (.getfield 72, 3) := by decide +kernel
theorem dX4_takeDues_15 : decode cX4_takeDues 15 = .ok (.if_icmp .ge 57, 3) := by decide +kernel
theorem dX4_takeDues_18 : decode cX4_takeDues 18 = .ok (.aload_n 0, 1) := by decide +kernel
theorem dX4_takeDues_19 : decode cX4_takeDues 19 = .ok (.getfield 19, 3) := by decide +kernel
theorem dX4_takeDues_22 : decode cX4_takeDues 22 = .ok (.iload_n 2, 1) := by decide +kernel
theorem dX4_takeDues_23 : decode cX4_takeDues 23 = .ok (.baload, 1) := by decide +kernel
theorem dX4_takeDues_24 : decode cX4_takeDues 24 = .ok (.ifCond .ne 42, 3) := by decide +kernel
theorem dX4_takeDues_27 : decode cX4_takeDues 27 = .ok (.aload_n 0, 1) := by decide +kernel
theorem dX4_takeDues_28 : decode cX4_takeDues 28 = .ok (.getfield 23, 3) := by decide +kernel
theorem dX4_takeDues_31 : decode cX4_takeDues 31 = .ok (.iload_n 2, 1) := by decide +kernel
theorem dX4_takeDues_32 : decode cX4_takeDues 32 = .ok (.baload, 1) := by decide +kernel
theorem dX4_takeDues_33 : decode cX4_takeDues 33 = .ok (.ifCond .ne 33, 3) := by decide +kernel
theorem dX4_takeDues_36 : decode cX4_takeDues 36 = .ok (.aload_n 0, 1) := by decide +kernel
theorem dX4_takeDues_37 : decode cX4_takeDues 37 = .ok (.getfield 32, 3) := by decide +kernel
theorem dX4_takeDues_40 : decode cX4_takeDues 40 = .ok (.bipush 60, 2) := by decide +kernel
theorem dX4_takeDues_42 : decode cX4_takeDues 42 = .ok (.iload_n 2, 1) := by decide +kernel
theorem dX4_takeDues_43 : decode cX4_takeDues 43 = .ok (.imul, 1) := by decide +kernel
theorem dX4_takeDues_44 : decode cX4_takeDues 44 = .ok (.iload_n 1, 1) := by decide +kernel
theorem dX4_takeDues_45 : decode cX4_takeDues 45 = .ok (.iadd, 1) := by decide +kernel
theorem dX4_takeDues_46 : decode cX4_takeDues 46 = .ok (.dup2, 1) := by decide +kernel
theorem dX4_takeDues_47 : decode cX4_takeDues 47 = .ok (.iaload, 1) := by decide +kernel
theorem dX4_takeDues_48 : decode cX4_takeDues 48 = .ok (.aload_n 0, 1) := by decide +kernel
theorem dX4_takeDues_49 : decode cX4_takeDues 49 = .ok (.getfield 7, 3) := by decide +kernel
theorem dX4_takeDues_52 : decode cX4_takeDues 52 = .ok (.aload_n 0, 1) := by decide +kernel
theorem dX4_takeDues_53 : decode cX4_takeDues 53 = .ok (.getfield 16, 3) := by decide +kernel
theorem dX4_takeDues_56 : decode cX4_takeDues 56 = .ok (.iload_n 2, 1) := by decide +kernel
theorem dX4_takeDues_57 : decode cX4_takeDues 57 = .ok (.iaload, 1) := by decide +kernel
theorem dX4_takeDues_58 : decode cX4_takeDues 58 = .ok (.iaload, 1) := by decide +kernel
theorem dX4_takeDues_59 : decode cX4_takeDues 59 = .ok (.iadd, 1) := by decide +kernel
theorem dX4_takeDues_60 : decode cX4_takeDues 60 = .ok (.iastore, 1) := by decide +kernel
theorem dX4_takeDues_61 : decode cX4_takeDues 61 = .ok (.aload_n 0, 1) := by decide +kernel
theorem dX4_takeDues_62 : decode cX4_takeDues 62 = .ok (.iload_n 2, 1) := by decide +kernel
theorem dX4_takeDues_63 : decode cX4_takeDues 63 = .ok (.invokevirtual 104, 3) := by decide +kernel
theorem dX4_takeDues_66 : decode cX4_takeDues 66 = .ok (.iinc 2 1, 3) := by decide +kernel
theorem dX4_takeDues_69 : decode cX4_takeDues 69 = .ok (.goto (-59), 3) := by decide +kernel
theorem dX4_takeDues_72 : decode cX4_takeDues 72 = .ok (.return_, 1) := by decide +kernel
set_option maxRecDepth 20000 in
theorem ggX4_advance_X4_in : GoodIn wsX4_advance wsX4_in := goodIn_r _ [7] (by decide +kernel) (by decide +kernel)
set_option maxRecDepth 20000 in
theorem gX4_advance_X4_in : GoodIn wsX4_advance (va_wsS RX4 75 yX4_in wsX4_in) := goodIn_app (goodIn_of _ (by decide +kernel)) ggX4_advance_X4_in
set_option maxRecDepth 20000 in
theorem ggX4_advance_X4_payStrikes : GoodIn wsX4_advance wsX4_payStrikes := goodIn_r _ [11, 12, 13, 14, 15, 16, 17, 18, 19, 20, 6, 21, 22, 23, 1, 42, 43, 44, 45, 46, 47, 48, 49, 50, 51, 52, 53, 54, 55, 56, 57, 58, 59, 60, 61, 62, 63, 64] (by decide +kernel) (by decide +kernel)
set_option maxRecDepth 20000 in
theorem gX4_advance_X4_payStrikes : GoodIn wsX4_advance (wsV RX4 111 RX4 yX4_payStrikes wsX4_payStrikes) := goodIn_app (goodIn_of _ (by decide +kernel)) ggX4_advance_X4_payStrikes
set_option maxRecDepth 20000 in
theorem ggX4_advance_X4_takeDues : GoodIn wsX4_advance wsX4_takeDues := goodIn_r _ [27, 1, 12, 22, 28, 23, 29, 30, 31, 32, 33, 6, 34, 35, 36, 37, 14, 15, 42, 43, 44, 45, 46, 47, 48, 49, 50, 51, 52, 53, 54, 55, 56, 57, 58, 59, 60, 61, 62, 63, 64] (by decide +kernel) (by decide +kernel)
set_option maxRecDepth 20000 in
theorem gX4_advance_X4_takeDues : GoodIn wsX4_advance (wsV RX4 114 RX4 yX4_takeDues wsX4_takeDues) := goodIn_app (goodIn_of _ (by decide +kernel)) ggX4_advance_X4_takeDues
set_option maxRecDepth 20000 in
theorem ggX4_advance_X4_standing : GoodIn wsX4_advance wsX4_standing := goodIn_r _ [41, 12, 14, 18, 19, 20, 6, 21, 22, 23, 1, 42, 43, 44, 45, 46, 47, 48, 49, 50, 51, 52, 53, 54, 55, 56, 57, 58, 59, 60, 61, 62, 63, 64] (by decide +kernel) (by decide +kernel)
set_option maxRecDepth 20000 in
theorem gX4_advance_X4_standing : GoodIn wsX4_advance (wsV RX4 108 RX4 yX4_standing wsX4_standing) := goodIn_app (goodIn_of _ (by decide +kernel)) ggX4_advance_X4_standing
theorem dX4_advance_0 : decode cX4_advance 0 = .ok (.aload_n 0, 1) := by decide +kernel
theorem dX4_advance_1 : decode cX4_advance 1 = .ok (.iload_n 1, 1) := by decide +kernel
theorem dX4_advance_2 : decode cX4_advance 2 = .ok (.iconst 1, 1) := by decide +kernel
theorem dX4_advance_3 : decode cX4_advance 3 = .ok (.bipush 100, 2) := by decide +kernel
theorem dX4_advance_5 : decode cX4_advance 5 = .ok (.invokestatic 75, 3) := by decide +kernel
theorem dX4_advance_8 : decode cX4_advance 8 = .ok (.ifCond .ne 7, 3) := by decide +kernel
theorem dX4_advance_11 : decode cX4_advance 11 = .ok (.iconst 1, 1) := by decide +kernel
theorem dX4_advance_12 : decode cX4_advance 12 = .ok (.goto 20, 3) := by decide +kernel
theorem dX4_advance_15 : decode cX4_advance 15 = .ok (.aload_n 0, 1) := by decide +kernel
theorem dX4_advance_16 : decode cX4_advance 16 = .ok (.getfield 79, 3) := by decide +kernel
theorem dX4_advance_19 : decode cX4_advance 19 = .ok (.iload_n 1, 1) := by decide +kernel
theorem dX4_advance_20 : decode cX4_advance 20 = .ok (.iadd, 1) := by decide +kernel
theorem dX4_advance_21 : decode cX4_advance 21 = .ok (.sipush 1800, 3) := by decide +kernel
theorem dX4_advance_24 : decode cX4_advance 24 = .ok (.if_icmp .le 7, 3) := by decide +kernel
theorem dX4_advance_27 : decode cX4_advance 27 = .ok (.iconst 2, 1) := by decide +kernel
theorem dX4_advance_28 : decode cX4_advance 28 = .ok (.goto 4, 3) := by decide +kernel
theorem dX4_advance_31 : decode cX4_advance 31 = .ok (.iconst 0, 1) := by decide +kernel
theorem dX4_advance_32 : decode cX4_advance 32 = .ok (.putfield 69, 3) := by decide +kernel
theorem dX4_advance_35 : decode cX4_advance 35 = .ok (.iconst 0, 1) := by decide +kernel
theorem dX4_advance_36 : decode cX4_advance 36 = .ok (.istore_n 2, 1) := by decide +kernel
theorem dX4_advance_37 : decode cX4_advance 37 = .ok (.iload_n 2, 1) := by decide +kernel
theorem dX4_advance_38 : decode cX4_advance 38 = .ok (.iload_n 1, 1) := by decide +kernel
theorem dX4_advance_39 : decode cX4_advance 39 = .ok (.if_icmp .ge 85, 3) := by decide +kernel
theorem dX4_advance_42 : decode cX4_advance 42 = .ok (.aload_n 0, 1) := by decide +kernel
theorem dX4_advance_43 : decode cX4_advance 43 = .ok (.getfield 69, 3) := by decide +kernel
theorem dX4_advance_46 : decode cX4_advance 46 = .ok (.ifCond .ne 78, 3) := by decide +kernel
theorem dX4_advance_49 : decode cX4_advance 49 = .ok (.aload_n 0, 1) := by decide +kernel
theorem dX4_advance_50 : decode cX4_advance 50 = .ok (.invokevirtual 111, 3) := by decide +kernel
theorem dX4_advance_53 : decode cX4_advance 53 = .ok (.aload_n 0, 1) := by decide +kernel
theorem dX4_advance_54 : decode cX4_advance 54 = .ok (.getfield 79, 3) := by decide +kernel
theorem dX4_advance_57 : decode cX4_advance 57 = .ok (.bipush 30, 2) := by decide +kernel
theorem dX4_advance_59 : decode cX4_advance 59 = .ok (.irem, 1) := by decide +kernel
theorem dX4_advance_60 : decode cX4_advance 60 = .ok (.bipush 29, 2) := by decide +kernel
theorem dX4_advance_62 : decode cX4_advance 62 = .ok (.if_icmp .ne 7, 3) := by decide +kernel
theorem dX4_advance_65 : decode cX4_advance 65 = .ok (.aload_n 0, 1) := by decide +kernel
theorem dX4_advance_66 : decode cX4_advance 66 = .ok (.invokevirtual 114, 3) := by decide +kernel
theorem dX4_advance_69 : decode cX4_advance 69 = .ok (.aload_n 0, 1) := by decide +kernel
theorem dX4_advance_70 : decode cX4_advance 70 = .ok (.dup, 1) := by decide +kernel
theorem dX4_advance_71 : decode cX4_advance 71 = .ok (.getfield 79, 3) := by decide +kernel
theorem dX4_advance_74 : decode cX4_advance 74 = .ok (.iconst 1, 1) := by decide +kernel
theorem dX4_advance_75 : decode cX4_advance 75 = .ok (.iadd, 1) := by decide +kernel
theorem dX4_advance_76 : decode cX4_advance 76 = .ok (.putfield 79, 3) := by decide +kernel
theorem dX4_advance_79 : decode cX4_advance 79 = .ok (.iconst 0, 1) := by decide +kernel
theorem dX4_advance_80 : decode cX4_advance 80 = .ok (.istore_n 3, 1) := by decide +kernel
theorem dX4_advance_81 : decode cX4_advance 81 = .ok (.iload_n 3, 1) := by decide +kernel
theorem dX4_advance_82 : decode cX4_advance 82 = .ok (.iconst 4, 1) := by decide +kernel
theorem dX4_advance_83 : decode cX4_advance 83 = .ok (.if_icmp .ge 35, 3) := by decide +kernel
theorem dX4_advance_86 : decode cX4_advance 86 = .ok (.aload_n 0, 1) := by decide +kernel
theorem dX4_advance_87 : decode cX4_advance 87 = .ok (.getfield 79, 3) := by decide +kernel
theorem dX4_advance_90 : decode cX4_advance 90 = .ok (.sipush 360, 3) := by decide +kernel
theorem dX4_advance_93 : decode cX4_advance 93 = .ok (.irem, 1) := by decide +kernel
theorem dX4_advance_94 : decode cX4_advance 94 = .ok (.ifCond .ne 24, 3) := by decide +kernel
theorem dX4_advance_97 : decode cX4_advance 97 = .ok (.aload_n 0, 1) := by decide +kernel
theorem dX4_advance_98 : decode cX4_advance 98 = .ok (.getfield 59, 3) := by decide +kernel
theorem dX4_advance_101 : decode cX4_advance 101 = .ok (.iload_n 3, 1) := by decide +kernel
theorem dX4_advance_102 : decode cX4_advance 102 = .ok (.aload_n 0, 1) := by decide +kernel
theorem dX4_advance_103 : decode cX4_advance 103 = .ok (.iload_n 3, 1) := by decide +kernel
theorem dX4_advance_104 : decode cX4_advance 104 = .ok (.invokevirtual 108, 3) := by decide +kernel
theorem dX4_advance_107 : decode cX4_advance 107 = .ok (.iconst 2, 1) := by decide +kernel
theorem dX4_advance_108 : decode cX4_advance 108 = .ok (.iadd, 1) := by decide +kernel
theorem dX4_advance_109 : decode cX4_advance 109 = .ok (.iconst 3, 1) := by decide +kernel
theorem dX4_advance_110 : decode cX4_advance 110 = .ok (.idiv, 1) := by decide +kernel
theorem dX4_advance_111 : decode cX4_advance 111 = .ok (.iastore, 1) := by decide +kernel
theorem dX4_advance_112 : decode cX4_advance 112 = .ok (.iinc 3 1, 3) := by decide +kernel
theorem dX4_advance_115 : decode cX4_advance 115 = .ok (.goto (-34), 3) := by decide +kernel
theorem dX4_advance_118 : decode cX4_advance 118 = .ok (.iinc 2 1, 3) := by decide +kernel
theorem dX4_advance_121 : decode cX4_advance 121 = .ok (.goto (-84), 3) := by decide +kernel
theorem dX4_advance_124 : decode cX4_advance 124 = .ok (.aload_n 0, 1) := by decide +kernel
theorem dX4_advance_125 : decode cX4_advance 125 = .ok (.getfield 69, 3) := by decide +kernel
theorem dX4_advance_128 : decode cX4_advance 128 = .ok (.ifCond .ne 10, 3) := by decide +kernel
theorem dX4_advance_131 : decode cX4_advance 131 = .ok (.aload_n 0, 1) := by decide +kernel
theorem dX4_advance_132 : decode cX4_advance 132 = .ok (.getfield 79, 3) := by decide +kernel
theorem dX4_advance_135 : decode cX4_advance 135 = .ok (.goto 4, 3) := by decide +kernel
theorem dX4_advance_138 : decode cX4_advance 138 = .ok (.iconst 0, 1) := by decide +kernel
theorem dX4_advance_139 : decode cX4_advance 139 = .ok (.ireturn, 1) := by decide +kernel
theorem dX4_hasEnded_0 : decode cX4_hasEnded 0 = .ok (.iload_n 1, 1) := by decide +kernel
theorem dX4_hasEnded_1 : decode cX4_hasEnded 1 = .ok (.ifCond .lt 20, 3) := by decide +kernel
theorem dX4_hasEnded_4 : decode cX4_hasEnded 4 = .ok (.aload_n 0, 1) := by decide +kernel
theorem dX4_hasEnded_5 : decode cX4_hasEnded 5 = .ok (.getfield 79, 3) := by decide +kernel
theorem dX4_hasEnded_8 : decode cX4_hasEnded 8 = .ok (.bipush 30, 2) := by decide +kernel
theorem dX4_hasEnded_10 : decode cX4_hasEnded 10 = .ok (.iload_n 1, 1) := by decide +kernel
theorem dX4_hasEnded_11 : decode cX4_hasEnded 11 = .ok (.iconst 1, 1) := by decide +kernel
theorem dX4_hasEnded_12 : decode cX4_hasEnded 12 = .ok (.iadd, 1) := by decide +kernel
theorem dX4_hasEnded_13 : decode cX4_hasEnded 13 = .ok (.imul, 1) := by decide +kernel
theorem dX4_hasEnded_14 : decode cX4_hasEnded 14 = .ok (.if_icmp .lt 7, 3) := by decide +kernel
theorem dX4_hasEnded_17 : decode cX4_hasEnded 17 = .ok (.iconst 1, 1) := by decide +kernel
theorem dX4_hasEnded_18 : decode cX4_hasEnded 18 = .ok (.goto 4, 3) := by decide +kernel
theorem dX4_hasEnded_21 : decode cX4_hasEnded 21 = .ok (.iconst 0, 1) := by decide +kernel
theorem dX4_hasEnded_22 : decode cX4_hasEnded 22 = .ok (.ireturn, 1) := by decide +kernel
set_option maxRecDepth 20000 in
theorem ggX4_fold_X4_hasEnded : GoodIn wsX4_fold wsX4_hasEnded := goodIn_r _ [8, 9, 10, 11, 12, 13, 14, 15, 16, 17, 18, 19, 20, 21, 22, 23, 24, 25, 26, 27, 28, 29, 30, 31, 32] (by decide +kernel) (by decide +kernel)
set_option maxRecDepth 20000 in
theorem gX4_fold_X4_hasEnded : GoodIn wsX4_fold (wsV RX4 117 RX4 yX4_hasEnded wsX4_hasEnded) := goodIn_app (goodIn_of _ (by decide +kernel)) ggX4_fold_X4_hasEnded
theorem dX4_fold_0 : decode cX4_fold 0 = .ok (.aload_n 0, 1) := by decide +kernel
theorem dX4_fold_1 : decode cX4_fold 1 = .ok (.iload_n 1, 1) := by decide +kernel
theorem dX4_fold_2 : decode cX4_fold 2 = .ok (.ifCond .lt 25, 3) := by decide +kernel
theorem dX4_fold_5 : decode cX4_fold 5 = .ok (.iload_n 1, 1) := by decide +kernel
theorem dX4_fold_6 : decode cX4_fold 6 = .ok (.bipush 60, 2) := by decide +kernel
theorem dX4_fold_8 : decode cX4_fold 8 = .ok (.if_icmp .gt 19, 3) := by decide +kernel
theorem dX4_fold_11 : decode cX4_fold 11 = .ok (.aload_n 0, 1) := by decide +kernel
theorem dX4_fold_12 : decode cX4_fold 12 = .ok (.iload_n 1, 1) := by decide +kernel
theorem dX4_fold_13 : decode cX4_fold 13 = .ok (.invokevirtual 117, 3) := by decide +kernel
theorem dX4_fold_16 : decode cX4_fold 16 = .ok (.ifCond .eq 11, 3) := by decide +kernel
theorem dX4_fold_19 : decode cX4_fold 19 = .ok (.iload_n 1, 1) := by decide +kernel
theorem dX4_fold_20 : decode cX4_fold 20 = .ok (.aload_n 0, 1) := by decide +kernel
theorem dX4_fold_21 : decode cX4_fold 21 = .ok (.getfield 66, 3) := by decide +kernel
theorem dX4_fold_24 : decode cX4_fold 24 = .ok (.if_icmp .gt 7, 3) := by decide +kernel
theorem dX4_fold_27 : decode cX4_fold 27 = .ok (.iconst 1, 1) := by decide +kernel
theorem dX4_fold_28 : decode cX4_fold 28 = .ok (.goto 4, 3) := by decide +kernel
theorem dX4_fold_31 : decode cX4_fold 31 = .ok (.iconst 0, 1) := by decide +kernel
theorem dX4_fold_32 : decode cX4_fold 32 = .ok (.putfield 69, 3) := by decide +kernel
theorem dX4_fold_35 : decode cX4_fold 35 = .ok (.aload_n 0, 1) := by decide +kernel
theorem dX4_fold_36 : decode cX4_fold 36 = .ok (.getfield 69, 3) := by decide +kernel
theorem dX4_fold_39 : decode cX4_fold 39 = .ok (.ifCond .le 5, 3) := by decide +kernel
theorem dX4_fold_42 : decode cX4_fold 42 = .ok (.iconst 0, 1) := by decide +kernel
theorem dX4_fold_43 : decode cX4_fold 43 = .ok (.ireturn, 1) := by decide +kernel
theorem dX4_fold_44 : decode cX4_fold 44 = .ok (.iconst 0, 1) := by decide +kernel
theorem dX4_fold_45 : decode cX4_fold 45 = .ok (.istore_n 2, 1) := by decide +kernel
theorem dX4_fold_46 : decode cX4_fold 46 = .ok (.iconst 0, 1) := by decide +kernel
theorem dX4_fold_47 : decode cX4_fold 47 = .ok (.istore_n 3, 1) := by decide +kernel
theorem dX4_fold_48 : decode cX4_fold 48 = .ok (.iload_n 3, 1) := by decide +kernel
theorem dX4_fold_49 : decode cX4_fold 49 = .ok (.iconst 4, 1) := by decide +kernel
theorem dX4_fold_50 : decode cX4_fold 50 = .ok (.if_icmp .ge 44, 3) := by decide +kernel
theorem dX4_fold_53 : decode cX4_fold 53 = .ok (.aload_n 0, 1) := by decide +kernel
theorem dX4_fold_54 : decode cX4_fold 54 = .ok (.getfield 66, 3) := by decide +kernel
theorem dX4_fold_57 : decode cX4_fold 57 = .ok (.iconst 1, 1) := by decide +kernel
theorem dX4_fold_58 : decode cX4_fold 58 = .ok (.iadd, 1) := by decide +kernel
theorem dX4_fold_59 : decode cX4_fold 59 = .ok (.istore 4, 2) := by decide +kernel
theorem dX4_fold_61 : decode cX4_fold 61 = .ok (.iload 4, 2) := by decide +kernel
theorem dX4_fold_63 : decode cX4_fold 63 = .ok (.iload_n 1, 1) := by decide +kernel
theorem dX4_fold_64 : decode cX4_fold 64 = .ok (.if_icmp .gt 24, 3) := by decide +kernel
theorem dX4_fold_67 : decode cX4_fold 67 = .ok (.iload_n 2, 1) := by decide +kernel
theorem dX4_fold_68 : decode cX4_fold 68 = .ok (.aload_n 0, 1) := by decide +kernel
theorem dX4_fold_69 : decode cX4_fold 69 = .ok (.getfield 38, 3) := by decide +kernel
theorem dX4_fold_72 : decode cX4_fold 72 = .ok (.bipush 60, 2) := by decide +kernel
theorem dX4_fold_74 : decode cX4_fold 74 = .ok (.iload_n 3, 1) := by decide +kernel
theorem dX4_fold_75 : decode cX4_fold 75 = .ok (.imul, 1) := by decide +kernel
theorem dX4_fold_76 : decode cX4_fold 76 = .ok (.iload 4, 2) := by decide +kernel
theorem dX4_fold_78 : decode cX4_fold 78 = .ok (.iadd, 1) := by decide +kernel
theorem dX4_fold_79 : decode cX4_fold 79 = .ok (.iaload, 1) := by decide +kernel
theorem dX4_fold_80 : decode cX4_fold 80 = .ok (.iadd, 1) := by decide +kernel
theorem dX4_fold_81 : decode cX4_fold 81 = .ok (.istore_n 2, 1) := by decide +kernel
theorem dX4_fold_82 : decode cX4_fold 82 = .ok (.iinc 4 1, 3) := by decide +kernel
theorem dX4_fold_85 : decode cX4_fold 85 = .ok (.goto (-24), 3) := by decide +kernel
theorem dX4_fold_88 : decode cX4_fold 88 = .ok (.iinc 3 1, 3) := by decide +kernel
theorem dX4_fold_91 : decode cX4_fold 91 = .ok (.goto (-43), 3) := by decide +kernel
theorem dX4_fold_94 : decode cX4_fold 94 = .ok (.aload_n 0, 1) := by decide +kernel
theorem dX4_fold_95 : decode cX4_fold 95 = .ok (.iload_n 1, 1) := by decide +kernel
theorem dX4_fold_96 : decode cX4_fold 96 = .ok (.putfield 66, 3) := by decide +kernel
theorem dX4_fold_99 : decode cX4_fold 99 = .ok (.iload_n 2, 1) := by decide +kernel
theorem dX4_fold_100 : decode cX4_fold 100 = .ok (.ireturn, 1) := by decide +kernel
theorem dX4_day_0 : decode cX4_day 0 = .ok (.aload_n 0, 1) := by decide +kernel
theorem dX4_day_1 : decode cX4_day 1 = .ok (.iconst 0, 1) := by decide +kernel
theorem dX4_day_2 : decode cX4_day 2 = .ok (.putfield 69, 3) := by decide +kernel
theorem dX4_day_5 : decode cX4_day 5 = .ok (.aload_n 0, 1) := by decide +kernel
theorem dX4_day_6 : decode cX4_day 6 = .ok (.getfield 79, 3) := by decide +kernel
theorem dX4_day_9 : decode cX4_day 9 = .ok (.ireturn, 1) := by decide +kernel
theorem dX4_fund_0 : decode cX4_fund 0 = .ok (.aload_n 0, 1) := by decide +kernel
theorem dX4_fund_1 : decode cX4_fund 1 = .ok (.iconst 0, 1) := by decide +kernel
theorem dX4_fund_2 : decode cX4_fund 2 = .ok (.putfield 69, 3) := by decide +kernel
theorem dX4_fund_5 : decode cX4_fund 5 = .ok (.aload_n 0, 1) := by decide +kernel
theorem dX4_fund_6 : decode cX4_fund 6 = .ok (.getfield 100, 3) := by decide +kernel
theorem dX4_fund_9 : decode cX4_fund 9 = .ok (.ireturn, 1) := by decide +kernel
set_option maxRecDepth 20000 in
theorem ggX4_asksFor_X4_isMember : GoodIn wsX4_asksFor wsX4_isMember := goodIn_r _ [6, 7, 8, 9, 5, 10, 11, 12, 13, 14, 15, 16, 17, 18, 19, 20, 21, 22, 23, 24, 25, 26, 27, 28, 29, 30, 31, 32, 33] (by decide +kernel) (by decide +kernel)
set_option maxRecDepth 20000 in
theorem gX4_asksFor_X4_isMember : GoodIn wsX4_asksFor (wsV RX4 93 RX4 yX4_isMember wsX4_isMember) := goodIn_app (goodIn_of _ (by decide +kernel)) ggX4_asksFor_X4_isMember
theorem dX4_asksFor_0 : decode cX4_asksFor 0 = .ok (.aload_n 0, 1) := by decide +kernel
theorem dX4_asksFor_1 : decode cX4_asksFor 1 = .ok (.aload_n 0, 1) := by decide +kernel
theorem dX4_asksFor_2 : decode cX4_asksFor 2 = .ok (.iload_n 1, 1) := by decide +kernel
theorem dX4_asksFor_3 : decode cX4_asksFor 3 = .ok (.invokevirtual 93, 3) := by decide +kernel
theorem dX4_asksFor_6 : decode cX4_asksFor 6 = .ok (.ifCond .eq 7, 3) := by decide +kernel
theorem dX4_asksFor_9 : decode cX4_asksFor 9 = .ok (.iconst 0, 1) := by decide +kernel
theorem dX4_asksFor_10 : decode cX4_asksFor 10 = .ok (.goto 4, 3) := by decide +kernel
theorem dX4_asksFor_13 : decode cX4_asksFor 13 = .ok (.iconst 1, 1) := by decide +kernel
theorem dX4_asksFor_14 : decode cX4_asksFor 14 = .ok (.putfield 69, 3) := by decide +kernel
theorem dX4_asksFor_17 : decode cX4_asksFor 17 = .ok (.aload_n 0, 1) := by decide +kernel
theorem dX4_asksFor_18 : decode cX4_asksFor 18 = .ok (.getfield 69, 3) := by decide +kernel
theorem dX4_asksFor_21 : decode cX4_asksFor 21 = .ok (.ifCond .ne 7, 3) := by decide +kernel
theorem dX4_asksFor_24 : decode cX4_asksFor 24 = .ok (.iconst 1, 1) := by decide +kernel
theorem dX4_asksFor_25 : decode cX4_asksFor 25 = .ok (.goto 4, 3) := by decide +kernel
theorem dX4_asksFor_28 : decode cX4_asksFor 28 = .ok (.iconst 0, 1) := by decide +kernel
theorem dX4_asksFor_29 : decode cX4_asksFor 29 = .ok (.ireturn, 1) := by decide +kernel
set_option maxRecDepth 20000 in
theorem ggX4_owed_X4_asksFor : GoodIn wsX4_owed wsX4_asksFor := goodIn_r _ [5, 6, 7, 8, 9, 4, 10, 11, 12, 13, 14, 20, 21, 22, 23, 24, 25, 26, 27, 28, 29, 30, 31, 32, 33, 34, 35, 36, 37, 38, 39, 40, 41, 42] (by decide +kernel) (by decide +kernel)
set_option maxRecDepth 20000 in
theorem gX4_owed_X4_asksFor : GoodIn wsX4_owed (wsV RX4 120 RX4 yX4_asksFor wsX4_asksFor) := goodIn_app (goodIn_of _ (by decide +kernel)) ggX4_owed_X4_asksFor
set_option maxRecDepth 20000 in
theorem ggX4_owed_X4_owedBy : GoodIn wsX4_owed wsX4_owedBy := goodIn_r _ [18, 19, 20, 21, 22, 23, 24, 25, 26, 27, 28, 29, 30, 31, 32, 33, 34, 35, 36, 37, 38, 39, 40, 41, 42] (by decide +kernel) (by decide +kernel)
set_option maxRecDepth 20000 in
theorem gX4_owed_X4_owedBy : GoodIn wsX4_owed (wsV RX4 96 RX4 yX4_owedBy wsX4_owedBy) := goodIn_app (goodIn_of _ (by decide +kernel)) ggX4_owed_X4_owedBy
theorem dX4_owed_0 : decode cX4_owed 0 = .ok (.aload_n 0, 1) := by decide +kernel
theorem dX4_owed_1 : decode cX4_owed 1 = .ok (.iload_n 1, 1) := by decide +kernel
theorem dX4_owed_2 : decode cX4_owed 2 = .ok (.invokevirtual 120, 3) := by decide +kernel
theorem dX4_owed_5 : decode cX4_owed 5 = .ok (.ifCond .eq 11, 3) := by decide +kernel
theorem dX4_owed_8 : decode cX4_owed 8 = .ok (.aload_n 0, 1) := by decide +kernel
theorem dX4_owed_9 : decode cX4_owed 9 = .ok (.iload_n 1, 1) := by decide +kernel
theorem dX4_owed_10 : decode cX4_owed 10 = .ok (.invokevirtual 96, 3) := by decide +kernel
theorem dX4_owed_13 : decode cX4_owed 13 = .ok (.goto 4, 3) := by decide +kernel
theorem dX4_owed_16 : decode cX4_owed 16 = .ok (.iconst 0, 1) := by decide +kernel
theorem dX4_owed_17 : decode cX4_owed 17 = .ok (.ireturn, 1) := by decide +kernel
set_option maxRecDepth 20000 in
theorem ggX4_credit_X4_asksFor : GoodIn wsX4_credit wsX4_asksFor := goodIn_r _ [6, 7, 8, 9, 10, 5, 11, 12, 13, 14, 15, 16, 17, 18, 19, 20, 21, 22, 23, 24, 25, 26, 27, 28, 29, 30, 31, 32, 33, 34, 35, 36, 37, 38] (by decide +kernel) (by decide +kernel)
set_option maxRecDepth 20000 in
theorem gX4_credit_X4_asksFor : GoodIn wsX4_credit (wsV RX4 120 RX4 yX4_asksFor wsX4_asksFor) := goodIn_app (goodIn_of _ (by decide +kernel)) ggX4_credit_X4_asksFor
theorem dX4_credit_0 : decode cX4_credit 0 = .ok (.aload_n 0, 1) := by decide +kernel
theorem dX4_credit_1 : decode cX4_credit 1 = .ok (.iload_n 1, 1) := by decide +kernel
theorem dX4_credit_2 : decode cX4_credit 2 = .ok (.invokevirtual 120, 3) := by decide +kernel
theorem dX4_credit_5 : decode cX4_credit 5 = .ok (.ifCond .eq 12, 3) := by decide +kernel
theorem dX4_credit_8 : decode cX4_credit 8 = .ok (.aload_n 0, 1) := by decide +kernel
theorem dX4_credit_9 : decode cX4_credit 9 = .ok (.getfield 26, 3) := by decide +kernel
theorem dX4_credit_12 : decode cX4_credit 12 = .ok (.iload_n 1, 1) := by decide +kernel
theorem dX4_credit_13 : decode cX4_credit 13 = .ok (.iaload, 1) := by decide +kernel
theorem dX4_credit_14 : decode cX4_credit 14 = .ok (.goto 4, 3) := by decide +kernel
theorem dX4_credit_17 : decode cX4_credit 17 = .ok (.iconst 0, 1) := by decide +kernel
theorem dX4_credit_18 : decode cX4_credit 18 = .ok (.ireturn, 1) := by decide +kernel
set_option maxRecDepth 20000 in
theorem ggX4_laid_X4_isMember : GoodIn wsX4_laid wsX4_isMember := goodIn_r _ [8, 9, 10, 11, 7, 12, 18, 19, 20, 21, 22, 23, 24, 25, 26, 27, 28, 29, 30, 31, 32, 33, 34, 35, 36, 37, 38, 39, 40] (by decide +kernel) (by decide +kernel)
set_option maxRecDepth 20000 in
theorem gX4_laid_X4_isMember : GoodIn wsX4_laid (wsV RX4 93 RX4 yX4_isMember wsX4_isMember) := goodIn_app (goodIn_of _ (by decide +kernel)) ggX4_laid_X4_isMember
set_option maxRecDepth 20000 in
theorem ggX4_laid_X4_hasEnded : GoodIn wsX4_laid wsX4_hasEnded := goodIn_r _ [16, 17, 18, 19, 20, 21, 22, 23, 24, 25, 26, 27, 28, 29, 30, 31, 32, 33, 34, 35, 36, 37, 38, 39, 40] (by decide +kernel) (by decide +kernel)
set_option maxRecDepth 20000 in
theorem gX4_laid_X4_hasEnded : GoodIn wsX4_laid (wsV RX4 117 RX4 yX4_hasEnded wsX4_hasEnded) := goodIn_app (goodIn_of _ (by decide +kernel)) ggX4_laid_X4_hasEnded
theorem dX4_laid_0 : decode cX4_laid 0 = .ok (.aload_n 0, 1) := by decide +kernel
theorem dX4_laid_1 : decode cX4_laid 1 = .ok (.aload_n 0, 1) := by decide +kernel
theorem dX4_laid_2 : decode cX4_laid 2 = .ok (.iload_n 1, 1) := by decide +kernel
theorem dX4_laid_3 : decode cX4_laid 3 = .ok (.invokevirtual 93, 3) := by decide +kernel
theorem dX4_laid_6 : decode cX4_laid 6 = .ok (.ifCond .eq 17, 3) := by decide +kernel
theorem dX4_laid_9 : decode cX4_laid 9 = .ok (.iload_n 2, 1) := by decide +kernel
theorem dX4_laid_10 : decode cX4_laid 10 = .ok (.bipush 60, 2) := by decide +kernel
theorem dX4_laid_12 : decode cX4_laid 12 = .ok (.if_icmp .gt 11, 3) := by decide +kernel
theorem dX4_laid_15 : decode cX4_laid 15 = .ok (.aload_n 0, 1) := by decide +kernel
theorem dX4_laid_16 : decode cX4_laid 16 = .ok (.iload_n 2, 1) := by decide +kernel
theorem dX4_laid_17 : decode cX4_laid 17 = .ok (.invokevirtual 117, 3) := by decide +kernel
theorem dX4_laid_20 : decode cX4_laid 20 = .ok (.ifCond .ne 7, 3) := by decide +kernel
theorem dX4_laid_23 : decode cX4_laid 23 = .ok (.iconst 1, 1) := by decide +kernel
theorem dX4_laid_24 : decode cX4_laid 24 = .ok (.goto 16, 3) := by decide +kernel
theorem dX4_laid_27 : decode cX4_laid 27 = .ok (.iload_n 2, 1) := by decide +kernel
theorem dX4_laid_28 : decode cX4_laid 28 = .ok (.aload_n 0, 1) := by decide +kernel
theorem dX4_laid_29 : decode cX4_laid 29 = .ok (.getfield 66, 3) := by decide +kernel
theorem dX4_laid_32 : decode cX4_laid 32 = .ok (.if_icmp .gt 7, 3) := by decide +kernel
theorem dX4_laid_35 : decode cX4_laid 35 = .ok (.iconst 2, 1) := by decide +kernel
theorem dX4_laid_36 : decode cX4_laid 36 = .ok (.goto 4, 3) := by decide +kernel
theorem dX4_laid_39 : decode cX4_laid 39 = .ok (.iconst 0, 1) := by decide +kernel
theorem dX4_laid_40 : decode cX4_laid 40 = .ok (.putfield 69, 3) := by decide +kernel
theorem dX4_laid_43 : decode cX4_laid 43 = .ok (.aload_n 0, 1) := by decide +kernel
theorem dX4_laid_44 : decode cX4_laid 44 = .ok (.getfield 69, 3) := by decide +kernel
theorem dX4_laid_47 : decode cX4_laid 47 = .ok (.ifCond .ne 17, 3) := by decide +kernel
theorem dX4_laid_50 : decode cX4_laid 50 = .ok (.aload_n 0, 1) := by decide +kernel
theorem dX4_laid_51 : decode cX4_laid 51 = .ok (.getfield 35, 3) := by decide +kernel
theorem dX4_laid_54 : decode cX4_laid 54 = .ok (.bipush 60, 2) := by decide +kernel
theorem dX4_laid_56 : decode cX4_laid 56 = .ok (.iload_n 1, 1) := by decide +kernel
theorem dX4_laid_57 : decode cX4_laid 57 = .ok (.imul, 1) := by decide +kernel
theorem dX4_laid_58 : decode cX4_laid 58 = .ok (.iload_n 2, 1) := by decide +kernel
theorem dX4_laid_59 : decode cX4_laid 59 = .ok (.iadd, 1) := by decide +kernel
theorem dX4_laid_60 : decode cX4_laid 60 = .ok (.iaload, 1) := by decide +kernel
theorem dX4_laid_61 : decode cX4_laid 61 = .ok (.goto 4, 3) := by decide +kernel
theorem dX4_laid_64 : decode cX4_laid 64 = .ok (.iconst 0, 1) := by decide +kernel
theorem dX4_laid_65 : decode cX4_laid 65 = .ok (.ireturn, 1) := by decide +kernel
set_option maxRecDepth 20000 in
theorem ggX4_laidFor_X4_isBranch : GoodIn wsX4_laidFor wsX4_isBranch := goodIn_r _ [6, 7, 8, 5, 9] (by decide +kernel) (by decide +kernel)
set_option maxRecDepth 20000 in
theorem gX4_laidFor_X4_isBranch : GoodIn wsX4_laidFor (va_wsS RX4 90 yX4_isBranch wsX4_isBranch) := goodIn_app (goodIn_of _ (by decide +kernel)) ggX4_laidFor_X4_isBranch
set_option maxRecDepth 20000 in
theorem ggX4_laidFor_X4_hasEnded : GoodIn wsX4_laidFor wsX4_hasEnded := goodIn_r _ [13, 14, 15, 16, 17, 18, 19, 20, 21, 22, 23, 24, 25, 26, 27, 28, 29, 30, 31, 32, 33, 34, 35, 36, 37] (by decide +kernel) (by decide +kernel)
set_option maxRecDepth 20000 in
theorem gX4_laidFor_X4_hasEnded : GoodIn wsX4_laidFor (wsV RX4 117 RX4 yX4_hasEnded wsX4_hasEnded) := goodIn_app (goodIn_of _ (by decide +kernel)) ggX4_laidFor_X4_hasEnded
theorem dX4_laidFor_0 : decode cX4_laidFor 0 = .ok (.aload_n 0, 1) := by decide +kernel
theorem dX4_laidFor_1 : decode cX4_laidFor 1 = .ok (.iload_n 1, 1) := by decide +kernel
theorem dX4_laidFor_2 : decode cX4_laidFor 2 = .ok (.invokestatic 90, 3) := by decide +kernel
theorem dX4_laidFor_5 : decode cX4_laidFor 5 = .ok (.ifCond .eq 17, 3) := by decide +kernel
theorem dX4_laidFor_8 : decode cX4_laidFor 8 = .ok (.iload_n 2, 1) := by decide +kernel
theorem dX4_laidFor_9 : decode cX4_laidFor 9 = .ok (.bipush 60, 2) := by decide +kernel
theorem dX4_laidFor_11 : decode cX4_laidFor 11 = .ok (.if_icmp .gt 11, 3) := by decide +kernel
theorem dX4_laidFor_14 : decode cX4_laidFor 14 = .ok (.aload_n 0, 1) := by decide +kernel
theorem dX4_laidFor_15 : decode cX4_laidFor 15 = .ok (.iload_n 2, 1) := by decide +kernel
theorem dX4_laidFor_16 : decode cX4_laidFor 16 = .ok (.invokevirtual 117, 3) := by decide +kernel
theorem dX4_laidFor_19 : decode cX4_laidFor 19 = .ok (.ifCond .ne 7, 3) := by decide +kernel
theorem dX4_laidFor_22 : decode cX4_laidFor 22 = .ok (.iconst 1, 1) := by decide +kernel
theorem dX4_laidFor_23 : decode cX4_laidFor 23 = .ok (.goto 4, 3) := by decide +kernel
theorem dX4_laidFor_26 : decode cX4_laidFor 26 = .ok (.iconst 0, 1) := by decide +kernel
theorem dX4_laidFor_27 : decode cX4_laidFor 27 = .ok (.putfield 69, 3) := by decide +kernel
theorem dX4_laidFor_30 : decode cX4_laidFor 30 = .ok (.aload_n 0, 1) := by decide +kernel
theorem dX4_laidFor_31 : decode cX4_laidFor 31 = .ok (.getfield 69, 3) := by decide +kernel
theorem dX4_laidFor_34 : decode cX4_laidFor 34 = .ok (.ifCond .ne 17, 3) := by decide +kernel
theorem dX4_laidFor_37 : decode cX4_laidFor 37 = .ok (.aload_n 0, 1) := by decide +kernel
theorem dX4_laidFor_38 : decode cX4_laidFor 38 = .ok (.getfield 38, 3) := by decide +kernel
theorem dX4_laidFor_41 : decode cX4_laidFor 41 = .ok (.bipush 60, 2) := by decide +kernel
theorem dX4_laidFor_43 : decode cX4_laidFor 43 = .ok (.iload_n 1, 1) := by decide +kernel
theorem dX4_laidFor_44 : decode cX4_laidFor 44 = .ok (.imul, 1) := by decide +kernel
theorem dX4_laidFor_45 : decode cX4_laidFor 45 = .ok (.iload_n 2, 1) := by decide +kernel
theorem dX4_laidFor_46 : decode cX4_laidFor 46 = .ok (.iadd, 1) := by decide +kernel
theorem dX4_laidFor_47 : decode cX4_laidFor 47 = .ok (.iaload, 1) := by decide +kernel
theorem dX4_laidFor_48 : decode cX4_laidFor 48 = .ok (.goto 4, 3) := by decide +kernel
theorem dX4_laidFor_51 : decode cX4_laidFor 51 = .ok (.iconst 0, 1) := by decide +kernel
theorem dX4_laidFor_52 : decode cX4_laidFor 52 = .ok (.ireturn, 1) := by decide +kernel
set_option maxRecDepth 20000 in
theorem ggX4_hasStanding_X4_asksFor : GoodIn wsX4_hasStanding wsX4_asksFor := goodIn_r _ [5, 6, 7, 8, 9, 4, 10, 11, 12, 13, 14, 22, 23, 24, 25, 26, 27, 28, 29, 30, 31, 32, 33, 34, 35, 36, 37, 38, 39, 40, 41, 42, 43, 44] (by decide +kernel) (by decide +kernel)
set_option maxRecDepth 20000 in
theorem gX4_hasStanding_X4_asksFor : GoodIn wsX4_hasStanding (wsV RX4 120 RX4 yX4_asksFor wsX4_asksFor) := goodIn_app (goodIn_of _ (by decide +kernel)) ggX4_hasStanding_X4_asksFor
set_option maxRecDepth 20000 in
theorem ggX4_hasStanding_X4_stands : GoodIn wsX4_hasStanding wsX4_stands := goodIn_r _ [18, 19, 20, 21, 22, 23, 24, 25, 26, 27, 28, 29, 30, 31, 32, 33, 34, 35, 36, 37, 38, 39, 40, 41, 42, 43, 44] (by decide +kernel) (by decide +kernel)
set_option maxRecDepth 20000 in
theorem gX4_hasStanding_X4_stands : GoodIn wsX4_hasStanding (wsV RX4 82 RX4 yX4_stands wsX4_stands) := goodIn_app (goodIn_of _ (by decide +kernel)) ggX4_hasStanding_X4_stands
theorem dX4_hasStanding_0 : decode cX4_hasStanding 0 = .ok (.aload_n 0, 1) := by decide +kernel
theorem dX4_hasStanding_1 : decode cX4_hasStanding 1 = .ok (.iload_n 1, 1) := by decide +kernel
theorem dX4_hasStanding_2 : decode cX4_hasStanding 2 = .ok (.invokevirtual 120, 3) := by decide +kernel
theorem dX4_hasStanding_5 : decode cX4_hasStanding 5 = .ok (.ifCond .eq 15, 3) := by decide +kernel
theorem dX4_hasStanding_8 : decode cX4_hasStanding 8 = .ok (.aload_n 0, 1) := by decide +kernel
theorem dX4_hasStanding_9 : decode cX4_hasStanding 9 = .ok (.iload_n 1, 1) := by decide +kernel
theorem dX4_hasStanding_10 : decode cX4_hasStanding 10 = .ok (.invokevirtual 82, 3) := by decide +kernel
theorem dX4_hasStanding_13 : decode cX4_hasStanding 13 = .ok (.ifCond .eq 7, 3) := by decide +kernel
theorem dX4_hasStanding_16 : decode cX4_hasStanding 16 = .ok (.iconst 1, 1) := by decide +kernel
theorem dX4_hasStanding_17 : decode cX4_hasStanding 17 = .ok (.goto 4, 3) := by decide +kernel
theorem dX4_hasStanding_20 : decode cX4_hasStanding 20 = .ok (.iconst 0, 1) := by decide +kernel
theorem dX4_hasStanding_21 : decode cX4_hasStanding 21 = .ok (.ireturn, 1) := by decide +kernel
set_option maxRecDepth 20000 in
theorem ggX4_strikePay_X4_asksFor : GoodIn wsX4_strikePay wsX4_asksFor := goodIn_r _ [6, 7, 8, 9, 10, 5, 11, 12, 13, 14, 15, 16, 17, 18, 19, 20, 21, 22, 23, 24, 25, 26, 27, 28, 29, 30, 31, 32, 33, 34, 35, 36, 37, 38] (by decide +kernel) (by decide +kernel)
set_option maxRecDepth 20000 in
theorem gX4_strikePay_X4_asksFor : GoodIn wsX4_strikePay (wsV RX4 120 RX4 yX4_asksFor wsX4_asksFor) := goodIn_app (goodIn_of _ (by decide +kernel)) ggX4_strikePay_X4_asksFor
theorem dX4_strikePay_0 : decode cX4_strikePay 0 = .ok (.aload_n 0, 1) := by decide +kernel
theorem dX4_strikePay_1 : decode cX4_strikePay 1 = .ok (.iload_n 1, 1) := by decide +kernel
theorem dX4_strikePay_2 : decode cX4_strikePay 2 = .ok (.invokevirtual 120, 3) := by decide +kernel
theorem dX4_strikePay_5 : decode cX4_strikePay 5 = .ok (.ifCond .eq 12, 3) := by decide +kernel
theorem dX4_strikePay_8 : decode cX4_strikePay 8 = .ok (.aload_n 0, 1) := by decide +kernel
theorem dX4_strikePay_9 : decode cX4_strikePay 9 = .ok (.getfield 29, 3) := by decide +kernel
theorem dX4_strikePay_12 : decode cX4_strikePay 12 = .ok (.iload_n 1, 1) := by decide +kernel
theorem dX4_strikePay_13 : decode cX4_strikePay 13 = .ok (.iaload, 1) := by decide +kernel
theorem dX4_strikePay_14 : decode cX4_strikePay 14 = .ok (.goto 4, 3) := by decide +kernel
theorem dX4_strikePay_17 : decode cX4_strikePay 17 = .ok (.iconst 0, 1) := by decide +kernel
theorem dX4_strikePay_18 : decode cX4_strikePay 18 = .ok (.ireturn, 1) := by decide +kernel
set_option maxRecDepth 20000 in
theorem ggX4_delegates_X4_isBranch : GoodIn wsX4_delegates wsX4_isBranch := goodIn_r _ [6, 7, 8, 5, 9] (by decide +kernel) (by decide +kernel)
set_option maxRecDepth 20000 in
theorem gX4_delegates_X4_isBranch : GoodIn wsX4_delegates (va_wsS RX4 90 yX4_isBranch wsX4_isBranch) := goodIn_app (goodIn_of _ (by decide +kernel)) ggX4_delegates_X4_isBranch
theorem dX4_delegates_0 : decode cX4_delegates 0 = .ok (.aload_n 0, 1) := by decide +kernel
theorem dX4_delegates_1 : decode cX4_delegates 1 = .ok (.iload_n 1, 1) := by decide +kernel
theorem dX4_delegates_2 : decode cX4_delegates 2 = .ok (.invokestatic 90, 3) := by decide +kernel
theorem dX4_delegates_5 : decode cX4_delegates 5 = .ok (.ifCond .eq 7, 3) := by decide +kernel
theorem dX4_delegates_8 : decode cX4_delegates 8 = .ok (.iconst 0, 1) := by decide +kernel
theorem dX4_delegates_9 : decode cX4_delegates 9 = .ok (.goto 4, 3) := by decide +kernel
theorem dX4_delegates_12 : decode cX4_delegates 12 = .ok (.iconst 1, 1) := by decide +kernel
theorem dX4_delegates_13 : decode cX4_delegates 13 = .ok (.putfield 69, 3) := by decide +kernel
theorem dX4_delegates_16 : decode cX4_delegates 16 = .ok (.aload_n 0, 1) := by decide +kernel
theorem dX4_delegates_17 : decode cX4_delegates 17 = .ok (.getfield 69, 3) := by decide +kernel
theorem dX4_delegates_20 : decode cX4_delegates 20 = .ok (.ifCond .ne 12, 3) := by decide +kernel
theorem dX4_delegates_23 : decode cX4_delegates 23 = .ok (.aload_n 0, 1) := by decide +kernel
theorem dX4_delegates_24 : decode cX4_delegates 24 = .ok (.getfield 59, 3) := by decide +kernel
theorem dX4_delegates_27 : decode cX4_delegates 27 = .ok (.iload_n 1, 1) := by decide +kernel
theorem dX4_delegates_28 : decode cX4_delegates 28 = .ok (.iaload, 1) := by decide +kernel
theorem dX4_delegates_29 : decode cX4_delegates 29 = .ok (.goto 4, 3) := by decide +kernel
theorem dX4_delegates_32 : decode cX4_delegates 32 = .ok (.iconst 0, 1) := by decide +kernel
theorem dX4_delegates_33 : decode cX4_delegates 33 = .ok (.ireturn, 1) := by decide +kernel
set_option maxRecDepth 20000 in
theorem ggX4_isOut_X4_isBranch : GoodIn wsX4_isOut wsX4_isBranch := goodIn_r _ [6, 7, 8, 5, 9] (by decide +kernel) (by decide +kernel)
set_option maxRecDepth 20000 in
theorem gX4_isOut_X4_isBranch : GoodIn wsX4_isOut (va_wsS RX4 90 yX4_isBranch wsX4_isBranch) := goodIn_app (goodIn_of _ (by decide +kernel)) ggX4_isOut_X4_isBranch
end
section
/-! ===== the state of the reference, and its store of 18 cells ===== -/
-- components as the class's, but: 11 yes, 12 no, 15 hasVoted of branch b, member i; 18 now; 20 folded + 1; 21 memberMany; 23 thrown
def nw (σ : S3) : Nat := (σ 18 0 0).toNatClampNeg % 1801
def nm (σ : S3) : Nat := (σ 21 0 0).toNatClampNeg % 17
theorem nw_le (σ : S3) : nw σ ≤ 1800 := Nat.le_of_lt_succ (Nat.mod_lt _ (by decide))
theorem nm_le (σ : S3) : nm σ ≤ 16 := Nat.le_of_lt_succ (Nat.mod_lt _ (by decide))
def mObj (ad : Nat → Nat) (σ : S3) : va_E := .inr (4, [.ref (ad 1), .int (σ 17 0 0), .int (nI (nw σ)), .int (σ 19 0 0), .int (nI (fo σ) - 1), .int (nI (nm σ)), .ref (ad 2), .ref (ad 3), .ref (ad 4), .ref (ad 5), .ref (ad 6), .ref (ad 7), .ref (ad 8), .ref (ad 9), .ref (ad 10), .ref (ad 11), .ref (ad 12), .ref (ad 13), .ref (ad 14), .ref (ad 15), .ref (ad 16), .ref (ad 17), .int (σ 23 0 0)])
abbrev f60 (σ : S3) (k : Nat) : Nat → Int32 := fun j => σ k (j / 60) (j % 60)
abbrev f16 (σ : S3) (k : Nat) : Nat → Int32 := fun j => σ k (j / 16) (j % 16)
def mE (cy : Nat → ClassId) (ad : Nat → Nat) (σ : S3) (k : Nat) : va_E := match k with
  | 0 => mObj ad σ
  | 1 => .inl (cy 0, 3, .inl (fun j => σ 0 j 0))
  | 2 => .inl (cy 0, 16, .inl (fun j => nI (br σ j)))
  | 3 => .inl (cy 0, 16, .inl (fun j => nI (bd σ j)))
  | 4 => .inl (cy 1, 16, .inl (fun j => σ 3 j 0))
  | 5 => .inl (cy 1, 16, .inl (fun j => σ 4 j 0))
  | 6 => .inl (cy 0, 16, .inl (fun j => σ 5 j 0))
  | 7 => .inl (cy 0, 16, .inl (fun j => σ 6 j 0))
  | 8 => .inl (cy 0, 960, .inl (f60 σ 7))
  | 9 => .inl (cy 0, 960, .inl (f60 σ 8))
  | 10 => .inl (cy 0, 240, .inl (f60 σ 9))
  | 11 => .inl (cy 1, 4, .inl (fun j => σ 10 j 0))
  | 12 => .inl (cy 0, 4, .inl (fun j => σ 11 j 0))
  | 13 => .inl (cy 0, 4, .inl (fun j => σ 12 j 0))
  | 14 => .inl (cy 1, 4, .inl (fun j => σ 13 j 0))
  | 15 => .inl (cy 1, 4, .inl (fun j => σ 14 j 0))
  | 16 => .inl (cy 1, 64, .inl (f16 σ 15))
  | 17 => .inl (cy 0, 4, .inl (fun j => σ 16 j 0))
  | _ => .inr (0, [])
theorem m_up {cy : Nat → ClassId} {ad : Nat → Nat} {σ τ : S3} {k : Nat} {e : va_E} (h1 : mE cy ad τ k = e) (h2 : ∀ j, j ≠ k → mE cy ad σ j = mE cy ad τ j) : va_up (mE cy ad σ) k e = mE cy ad τ := by
  funext j
  by_cases h : j = k
  · rw [h, va_up_self, h1]
  · rw [va_up_ne _ _ h, h2 j h]
theorem fl60 {i m c : Nat} (σ : S3) (hm : m < 60) : σ c ((60 * i + m) / 60) ((60 * i + m) % 60) = σ c i m := by
  rw [show (60 * i + m) / 60 = i by omega, show (60 * i + m) % 60 = m by omega]
theorem fl16 {i m c : Nat} (σ : S3) (hm : m < 16) : σ c ((16 * i + m) / 16) ((16 * i + m) % 16) = σ c i m := by
  rw [show (16 * i + m) / 16 = i by omega, show (16 * i + m) % 16 = m by omega]
theorem nw_su {σ : S3} {d : Nat} (h : d ≤ 1800) : nw (su σ 18 0 0 (nI d)) = d := by
  unfold nw
  rw [su_same, cl_nI (by omega), Nat.mod_eq_of_lt (by omega)]
theorem nm_su {σ : S3} {d : Nat} (h : d ≤ 16) : nm (su σ 21 0 0 (nI d)) = d := by
  unfold nm
  rw [su_same, cl_nI (by omega), Nat.mod_eq_of_lt (by omega)]
theorem fo_su {σ : S3} {d : Nat} (h : d < 2 ^ 31) : fo (su σ 20 0 0 (nI d)) = d := by
  unfold fo
  rw [su_same, cl_nI h]
theorem br_su {σ : S3} {k i m j : Nat} {v : Int32} (h : 1 ≠ k) : br (su σ k i m v) j = br σ j := by unfold br; rw [su_k h]
theorem bd_su {σ : S3} {k i m j : Nat} {v : Int32} (h : 2 ≠ k) : bd (su σ k i m v) j = bd σ j := by unfold bd; rw [su_k h]
theorem eo_su {σ : S3} {k i m j : Nat} {v : Int32} (h : 22 ≠ k) : eo (su σ k i m v) j = eo σ j := by unfold eo; rw [su_k h]
theorem fo_suk {σ : S3} {k i m : Nat} {v : Int32} (h : 20 ≠ k) : fo (su σ k i m v) = fo σ := by unfold fo; rw [su_k h]
theorem nw_suk {σ : S3} {k i m : Nat} {v : Int32} (h : 18 ≠ k) : nw (su σ k i m v) = nw σ := by unfold nw; rw [su_k h]
theorem nm_suk {σ : S3} {k i m : Nat} {v : Int32} (h : 21 ≠ k) : nm (su σ k i m v) = nm σ := by unfold nm; rw [su_k h]
theorem mE_big (cy : Nat → ClassId) (ad : Nat → Nat) (σ : S3) (q : Nat) : mE cy ad σ (q + 18) = .inr (0, []) := rfl
theorem lt18 {j : Nat} (h : j < 18) : j = 0 ∨ j = 1 ∨ j = 2 ∨ j = 3 ∨ j = 4 ∨ j = 5 ∨ j = 6 ∨ j = 7 ∨ j = 8 ∨ j = 9 ∨ j = 10 ∨ j = 11 ∨ j = 12 ∨ j = 13 ∨ j = 14 ∨ j = 15 ∨ j = 16 ∨ j = 17 := by omega
theorem mE_ext {cy : Nat → ClassId} {ad : Nat → Nat} {σ τ : S3} {j : Nat} (h0 : j = 0 → τ 17 0 0 = σ 17 0 0 ∧ nw τ = nw σ ∧ τ 19 0 0 = σ 19 0 0 ∧ fo τ = fo σ ∧ nm τ = nm σ ∧ τ 23 0 0 = σ 23 0 0) (h1 : j = 1 → ∀ x, τ 0 x 0 = σ 0 x 0) (h2 : j = 2 → ∀ x, br τ x = br σ x) (h3 : j = 3 → ∀ x, bd τ x = bd σ x) (h4 : j = 4 → ∀ x, τ 3 x 0 = σ 3 x 0) (h5 : j = 5 → ∀ x, τ 4 x 0 = σ 4 x 0) (h6 : j = 6 → ∀ x, τ 5 x 0 = σ 5 x 0) (h7 : j = 7 → ∀ x, τ 6 x 0 = σ 6 x 0) (h8 : j = 8 → ∀ x y, τ 7 x y = σ 7 x y) (h9 : j = 9 → ∀ x y, τ 8 x y = σ 8 x y) (h10 : j = 10 → ∀ x y, τ 9 x y = σ 9 x y) (h11 : j = 11 → ∀ x, τ 10 x 0 = σ 10 x 0) (h12 : j = 12 → ∀ x, τ 11 x 0 = σ 11 x 0) (h13 : j = 13 → ∀ x, τ 12 x 0 = σ 12 x 0) (h14 : j = 14 → ∀ x, τ 13 x 0 = σ 13 x 0) (h15 : j = 15 → ∀ x, τ 14 x 0 = σ 14 x 0) (h16 : j = 16 → ∀ x y, τ 15 x y = σ 15 x y) (h17 : j = 17 → ∀ x, τ 16 x 0 = σ 16 x 0) : mE cy ad σ j = mE cy ad τ j := by
  by_cases hj : j < 18
  · have hc := lt18 hj
    rcases hc with h | h | h | h | h | h | h | h | h | h | h | h | h | h | h | h | h | h
    · obtain ⟨e1, e2, e3, e4, e5, e6⟩ := h0 h
      rw [h]
      show mObj ad σ = mObj ad τ
      unfold mObj
      rw [e1, e2, e3, e4, e5, e6]
    · rw [h]
      exact congrArg (fun f : Nat → Int32 => (.inl (cy 0, 3, .inl f) : va_E)) (show (fun j => σ 0 j 0) = (fun j => τ 0 j 0) from funext fun x => (h1 h x).symm)
    · rw [h]
      exact congrArg (fun f : Nat → Int32 => (.inl (cy 0, 16, .inl f) : va_E)) (show (fun j => nI (br σ j)) = (fun j => nI (br τ j)) from funext fun x => by rw [h2 h x])
    · rw [h]
      exact congrArg (fun f : Nat → Int32 => (.inl (cy 0, 16, .inl f) : va_E)) (show (fun j => nI (bd σ j)) = (fun j => nI (bd τ j)) from funext fun x => by rw [h3 h x])
    · rw [h]
      exact congrArg (fun f : Nat → Int32 => (.inl (cy 1, 16, .inl f) : va_E)) (show (fun j => σ 3 j 0) = (fun j => τ 3 j 0) from funext fun x => (h4 h x).symm)
    · rw [h]
      exact congrArg (fun f : Nat → Int32 => (.inl (cy 1, 16, .inl f) : va_E)) (show (fun j => σ 4 j 0) = (fun j => τ 4 j 0) from funext fun x => (h5 h x).symm)
    · rw [h]
      exact congrArg (fun f : Nat → Int32 => (.inl (cy 0, 16, .inl f) : va_E)) (show (fun j => σ 5 j 0) = (fun j => τ 5 j 0) from funext fun x => (h6 h x).symm)
    · rw [h]
      exact congrArg (fun f : Nat → Int32 => (.inl (cy 0, 16, .inl f) : va_E)) (show (fun j => σ 6 j 0) = (fun j => τ 6 j 0) from funext fun x => (h7 h x).symm)
    · rw [h]
      exact congrArg (fun f : Nat → Int32 => (.inl (cy 0, 960, .inl f) : va_E)) (show (f60 σ 7) = (f60 τ 7) from funext fun x => (h8 h _ _).symm)
    · rw [h]
      exact congrArg (fun f : Nat → Int32 => (.inl (cy 0, 960, .inl f) : va_E)) (show (f60 σ 8) = (f60 τ 8) from funext fun x => (h9 h _ _).symm)
    · rw [h]
      exact congrArg (fun f : Nat → Int32 => (.inl (cy 0, 240, .inl f) : va_E)) (show (f60 σ 9) = (f60 τ 9) from funext fun x => (h10 h _ _).symm)
    · rw [h]
      exact congrArg (fun f : Nat → Int32 => (.inl (cy 1, 4, .inl f) : va_E)) (show (fun j => σ 10 j 0) = (fun j => τ 10 j 0) from funext fun x => (h11 h x).symm)
    · rw [h]
      exact congrArg (fun f : Nat → Int32 => (.inl (cy 0, 4, .inl f) : va_E)) (show (fun j => σ 11 j 0) = (fun j => τ 11 j 0) from funext fun x => (h12 h x).symm)
    · rw [h]
      exact congrArg (fun f : Nat → Int32 => (.inl (cy 0, 4, .inl f) : va_E)) (show (fun j => σ 12 j 0) = (fun j => τ 12 j 0) from funext fun x => (h13 h x).symm)
    · rw [h]
      exact congrArg (fun f : Nat → Int32 => (.inl (cy 1, 4, .inl f) : va_E)) (show (fun j => σ 13 j 0) = (fun j => τ 13 j 0) from funext fun x => (h14 h x).symm)
    · rw [h]
      exact congrArg (fun f : Nat → Int32 => (.inl (cy 1, 4, .inl f) : va_E)) (show (fun j => σ 14 j 0) = (fun j => τ 14 j 0) from funext fun x => (h15 h x).symm)
    · rw [h]
      exact congrArg (fun f : Nat → Int32 => (.inl (cy 1, 64, .inl f) : va_E)) (show (f16 σ 15) = (f16 τ 15) from funext fun x => (h16 h _ _).symm)
    · rw [h]
      exact congrArg (fun f : Nat → Int32 => (.inl (cy 0, 4, .inl f) : va_E)) (show (fun j => σ 16 j 0) = (fun j => τ 16 j 0) from funext fun x => (h17 h x).symm)
  · obtain ⟨q, rfl⟩ : ∃ q, j = q + 18 := ⟨j - 18, by omega⟩
    rw [mE_big, mE_big]
section MU
variable (cy : Nat → ClassId) (ad : Nat → Nat) (σ : S3)
theorem mu_pay (v : Int32) : va_up (mE cy ad σ) 0 (.inr (4, [.ref (ad 1), .int v, .int (nI (nw σ)), .int (σ 19 0 0), .int (nI (fo σ) - 1), .int (nI (nm σ)), .ref (ad 2), .ref (ad 3), .ref (ad 4), .ref (ad 5), .ref (ad 6), .ref (ad 7), .ref (ad 8), .ref (ad 9), .ref (ad 10), .ref (ad 11), .ref (ad 12), .ref (ad 13), .ref (ad 14), .ref (ad 15), .ref (ad 16), .ref (ad 17), .int (σ 23 0 0)])) = mE cy ad (su σ 17 0 0 v) := by
  refine m_up ?_ ?_
  · show mObj ad _ = _
    unfold mObj
    rw [su_same, nw_suk (k := 17) (by decide), su_k (a := 19) (k := 17) (by decide), fo_suk (k := 17) (by decide), nm_suk (k := 17) (by decide), su_k (a := 23) (k := 17) (by decide)]
  exact fun j hj => mE_ext (fun h => absurd h hj) (fun _ _ => su_k (by decide)) (fun _ _ => br_su (by decide)) (fun _ _ => bd_su (by decide)) (fun _ _ => su_k (by decide)) (fun _ _ => su_k (by decide)) (fun _ _ => su_k (by decide)) (fun _ _ => su_k (by decide)) (fun _ _ _ => su_k (by decide)) (fun _ _ _ => su_k (by decide)) (fun _ _ _ => su_k (by decide)) (fun _ _ => su_k (by decide)) (fun _ _ => su_k (by decide)) (fun _ _ => su_k (by decide)) (fun _ _ => su_k (by decide)) (fun _ _ => su_k (by decide)) (fun _ _ _ => su_k (by decide)) (fun _ _ => su_k (by decide))
theorem mu_money (v : Int32) : va_up (mE cy ad σ) 0 (.inr (4, [.ref (ad 1), .int (σ 17 0 0), .int (nI (nw σ)), .int v, .int (nI (fo σ) - 1), .int (nI (nm σ)), .ref (ad 2), .ref (ad 3), .ref (ad 4), .ref (ad 5), .ref (ad 6), .ref (ad 7), .ref (ad 8), .ref (ad 9), .ref (ad 10), .ref (ad 11), .ref (ad 12), .ref (ad 13), .ref (ad 14), .ref (ad 15), .ref (ad 16), .ref (ad 17), .int (σ 23 0 0)])) = mE cy ad (su σ 19 0 0 v) := by
  refine m_up ?_ ?_
  · show mObj ad _ = _
    unfold mObj
    rw [su_k (a := 17) (k := 19) (by decide), nw_suk (k := 19) (by decide), su_same, fo_suk (k := 19) (by decide), nm_suk (k := 19) (by decide), su_k (a := 23) (k := 19) (by decide)]
  exact fun j hj => mE_ext (fun h => absurd h hj) (fun _ _ => su_k (by decide)) (fun _ _ => br_su (by decide)) (fun _ _ => bd_su (by decide)) (fun _ _ => su_k (by decide)) (fun _ _ => su_k (by decide)) (fun _ _ => su_k (by decide)) (fun _ _ => su_k (by decide)) (fun _ _ _ => su_k (by decide)) (fun _ _ _ => su_k (by decide)) (fun _ _ _ => su_k (by decide)) (fun _ _ => su_k (by decide)) (fun _ _ => su_k (by decide)) (fun _ _ => su_k (by decide)) (fun _ _ => su_k (by decide)) (fun _ _ => su_k (by decide)) (fun _ _ _ => su_k (by decide)) (fun _ _ => su_k (by decide))
theorem mu_thrown (v : Int32) : va_up (mE cy ad σ) 0 (.inr (4, [.ref (ad 1), .int (σ 17 0 0), .int (nI (nw σ)), .int (σ 19 0 0), .int (nI (fo σ) - 1), .int (nI (nm σ)), .ref (ad 2), .ref (ad 3), .ref (ad 4), .ref (ad 5), .ref (ad 6), .ref (ad 7), .ref (ad 8), .ref (ad 9), .ref (ad 10), .ref (ad 11), .ref (ad 12), .ref (ad 13), .ref (ad 14), .ref (ad 15), .ref (ad 16), .ref (ad 17), .int v])) = mE cy ad (su σ 23 0 0 v) := by
  refine m_up ?_ ?_
  · show mObj ad _ = _
    unfold mObj
    rw [su_k (a := 17) (k := 23) (by decide), nw_suk (k := 23) (by decide), su_k (a := 19) (k := 23) (by decide), fo_suk (k := 23) (by decide), nm_suk (k := 23) (by decide), su_same]
  exact fun j hj => mE_ext (fun h => absurd h hj) (fun _ _ => su_k (by decide)) (fun _ _ => br_su (by decide)) (fun _ _ => bd_su (by decide)) (fun _ _ => su_k (by decide)) (fun _ _ => su_k (by decide)) (fun _ _ => su_k (by decide)) (fun _ _ => su_k (by decide)) (fun _ _ _ => su_k (by decide)) (fun _ _ _ => su_k (by decide)) (fun _ _ _ => su_k (by decide)) (fun _ _ => su_k (by decide)) (fun _ _ => su_k (by decide)) (fun _ _ => su_k (by decide)) (fun _ _ => su_k (by decide)) (fun _ _ => su_k (by decide)) (fun _ _ _ => su_k (by decide)) (fun _ _ => su_k (by decide))
theorem mv_now (v : Int32) (d : Nat) (h : nw (su σ 18 0 0 v) = d) : va_up (mE cy ad σ) 0 (.inr (4, [.ref (ad 1), .int (σ 17 0 0), .int (nI d), .int (σ 19 0 0), .int (nI (fo σ) - 1), .int (nI (nm σ)), .ref (ad 2), .ref (ad 3), .ref (ad 4), .ref (ad 5), .ref (ad 6), .ref (ad 7), .ref (ad 8), .ref (ad 9), .ref (ad 10), .ref (ad 11), .ref (ad 12), .ref (ad 13), .ref (ad 14), .ref (ad 15), .ref (ad 16), .ref (ad 17), .int (σ 23 0 0)])) = mE cy ad (su σ 18 0 0 v) := by
  subst h
  refine m_up ?_ ?_
  · show mObj ad _ = _
    unfold mObj
    rw [su_k (a := 17) (k := 18) (by decide), su_k (a := 19) (k := 18) (by decide), fo_suk (k := 18) (by decide), nm_suk (k := 18) (by decide), su_k (a := 23) (k := 18) (by decide)]
  exact fun j hj => mE_ext (fun h => absurd h hj) (fun _ _ => su_k (by decide)) (fun _ _ => br_su (by decide)) (fun _ _ => bd_su (by decide)) (fun _ _ => su_k (by decide)) (fun _ _ => su_k (by decide)) (fun _ _ => su_k (by decide)) (fun _ _ => su_k (by decide)) (fun _ _ _ => su_k (by decide)) (fun _ _ _ => su_k (by decide)) (fun _ _ _ => su_k (by decide)) (fun _ _ => su_k (by decide)) (fun _ _ => su_k (by decide)) (fun _ _ => su_k (by decide)) (fun _ _ => su_k (by decide)) (fun _ _ => su_k (by decide)) (fun _ _ _ => su_k (by decide)) (fun _ _ => su_k (by decide))
theorem mu_now {d : Nat} (h : d ≤ 1800) : va_up (mE cy ad σ) 0 (.inr (4, [.ref (ad 1), .int (σ 17 0 0), .int (nI d), .int (σ 19 0 0), .int (nI (fo σ) - 1), .int (nI (nm σ)), .ref (ad 2), .ref (ad 3), .ref (ad 4), .ref (ad 5), .ref (ad 6), .ref (ad 7), .ref (ad 8), .ref (ad 9), .ref (ad 10), .ref (ad 11), .ref (ad 12), .ref (ad 13), .ref (ad 14), .ref (ad 15), .ref (ad 16), .ref (ad 17), .int (σ 23 0 0)])) = mE cy ad (su σ 18 0 0 (nI d)) := mv_now cy ad σ (nI d) d (nw_su h)
theorem mv_many (v : Int32) (d : Nat) (h : nm (su σ 21 0 0 v) = d) : va_up (mE cy ad σ) 0 (.inr (4, [.ref (ad 1), .int (σ 17 0 0), .int (nI (nw σ)), .int (σ 19 0 0), .int (nI (fo σ) - 1), .int (nI d), .ref (ad 2), .ref (ad 3), .ref (ad 4), .ref (ad 5), .ref (ad 6), .ref (ad 7), .ref (ad 8), .ref (ad 9), .ref (ad 10), .ref (ad 11), .ref (ad 12), .ref (ad 13), .ref (ad 14), .ref (ad 15), .ref (ad 16), .ref (ad 17), .int (σ 23 0 0)])) = mE cy ad (su σ 21 0 0 v) := by
  subst h
  refine m_up ?_ ?_
  · show mObj ad _ = _
    unfold mObj
    rw [su_k (a := 17) (k := 21) (by decide), nw_suk (k := 21) (by decide), su_k (a := 19) (k := 21) (by decide), fo_suk (k := 21) (by decide), su_k (a := 23) (k := 21) (by decide)]
  exact fun j hj => mE_ext (fun h => absurd h hj) (fun _ _ => su_k (by decide)) (fun _ _ => br_su (by decide)) (fun _ _ => bd_su (by decide)) (fun _ _ => su_k (by decide)) (fun _ _ => su_k (by decide)) (fun _ _ => su_k (by decide)) (fun _ _ => su_k (by decide)) (fun _ _ _ => su_k (by decide)) (fun _ _ _ => su_k (by decide)) (fun _ _ _ => su_k (by decide)) (fun _ _ => su_k (by decide)) (fun _ _ => su_k (by decide)) (fun _ _ => su_k (by decide)) (fun _ _ => su_k (by decide)) (fun _ _ => su_k (by decide)) (fun _ _ _ => su_k (by decide)) (fun _ _ => su_k (by decide))
theorem mu_many {d : Nat} (h : d ≤ 16) : va_up (mE cy ad σ) 0 (.inr (4, [.ref (ad 1), .int (σ 17 0 0), .int (nI (nw σ)), .int (σ 19 0 0), .int (nI (fo σ) - 1), .int (nI d), .ref (ad 2), .ref (ad 3), .ref (ad 4), .ref (ad 5), .ref (ad 6), .ref (ad 7), .ref (ad 8), .ref (ad 9), .ref (ad 10), .ref (ad 11), .ref (ad 12), .ref (ad 13), .ref (ad 14), .ref (ad 15), .ref (ad 16), .ref (ad 17), .int (σ 23 0 0)])) = mE cy ad (su σ 21 0 0 (nI d)) := mv_many cy ad σ (nI d) d (nm_su h)
theorem mv_folded (v : Int32) (d : Nat) (h : fo (su σ 20 0 0 v) = d) : va_up (mE cy ad σ) 0 (.inr (4, [.ref (ad 1), .int (σ 17 0 0), .int (nI (nw σ)), .int (σ 19 0 0), .int (nI d - 1), .int (nI (nm σ)), .ref (ad 2), .ref (ad 3), .ref (ad 4), .ref (ad 5), .ref (ad 6), .ref (ad 7), .ref (ad 8), .ref (ad 9), .ref (ad 10), .ref (ad 11), .ref (ad 12), .ref (ad 13), .ref (ad 14), .ref (ad 15), .ref (ad 16), .ref (ad 17), .int (σ 23 0 0)])) = mE cy ad (su σ 20 0 0 v) := by
  subst h
  refine m_up ?_ ?_
  · show mObj ad _ = _
    unfold mObj
    rw [su_k (a := 17) (k := 20) (by decide), nw_suk (k := 20) (by decide), su_k (a := 19) (k := 20) (by decide), nm_suk (k := 20) (by decide), su_k (a := 23) (k := 20) (by decide)]
  exact fun j hj => mE_ext (fun h => absurd h hj) (fun _ _ => su_k (by decide)) (fun _ _ => br_su (by decide)) (fun _ _ => bd_su (by decide)) (fun _ _ => su_k (by decide)) (fun _ _ => su_k (by decide)) (fun _ _ => su_k (by decide)) (fun _ _ => su_k (by decide)) (fun _ _ _ => su_k (by decide)) (fun _ _ _ => su_k (by decide)) (fun _ _ _ => su_k (by decide)) (fun _ _ => su_k (by decide)) (fun _ _ => su_k (by decide)) (fun _ _ => su_k (by decide)) (fun _ _ => su_k (by decide)) (fun _ _ => su_k (by decide)) (fun _ _ _ => su_k (by decide)) (fun _ _ => su_k (by decide))
theorem mu_folded {d : Nat} (h : d < 2 ^ 31) : va_up (mE cy ad σ) 0 (.inr (4, [.ref (ad 1), .int (σ 17 0 0), .int (nI (nw σ)), .int (σ 19 0 0), .int (nI d - 1), .int (nI (nm σ)), .ref (ad 2), .ref (ad 3), .ref (ad 4), .ref (ad 5), .ref (ad 6), .ref (ad 7), .ref (ad 8), .ref (ad 9), .ref (ad 10), .ref (ad 11), .ref (ad 12), .ref (ad 13), .ref (ad 14), .ref (ad 15), .ref (ad 16), .ref (ad 17), .int (σ 23 0 0)])) = mE cy ad (su σ 20 0 0 (nI d)) := mv_folded cy ad σ (nI d) d (fo_su h)
theorem mu_dues (i : Nat) (v : Int32) : va_up (mE cy ad σ) 1 (.inl (cy 0, 3, .inl (upd (fun j => σ 0 j 0) i v))) = mE cy ad (su σ 0 i 0 v) := by
  refine m_up ?_ ?_
  · refine congrArg (fun f : Nat → Int32 => (.inl (cy 0, 3, .inl f) : va_E)) (funext fun y => ?_)
    simp [su, upd]
  exact fun j hj => mE_ext (fun _ => ⟨su_k (by decide), nw_suk (by decide), su_k (by decide), fo_suk (by decide), nm_suk (by decide), su_k (by decide)⟩) (fun h => absurd h hj) (fun _ _ => br_su (by decide)) (fun _ _ => bd_su (by decide)) (fun _ _ => su_k (by decide)) (fun _ _ => su_k (by decide)) (fun _ _ => su_k (by decide)) (fun _ _ => su_k (by decide)) (fun _ _ _ => su_k (by decide)) (fun _ _ _ => su_k (by decide)) (fun _ _ _ => su_k (by decide)) (fun _ _ => su_k (by decide)) (fun _ _ => su_k (by decide)) (fun _ _ => su_k (by decide)) (fun _ _ => su_k (by decide)) (fun _ _ => su_k (by decide)) (fun _ _ _ => su_k (by decide)) (fun _ _ => su_k (by decide))
theorem mu_left (i : Nat) (v : Int32) : va_up (mE cy ad σ) 4 (.inl (cy 1, 16, .inl (upd (fun j => σ 3 j 0) i v))) = mE cy ad (su σ 3 i 0 v) := by
  refine m_up ?_ ?_
  · refine congrArg (fun f : Nat → Int32 => (.inl (cy 1, 16, .inl f) : va_E)) (funext fun y => ?_)
    simp [su, upd]
  exact fun j hj => mE_ext (fun _ => ⟨su_k (by decide), nw_suk (by decide), su_k (by decide), fo_suk (by decide), nm_suk (by decide), su_k (by decide)⟩) (fun _ _ => su_k (by decide)) (fun _ _ => br_su (by decide)) (fun _ _ => bd_su (by decide)) (fun h => absurd h hj) (fun _ _ => su_k (by decide)) (fun _ _ => su_k (by decide)) (fun _ _ => su_k (by decide)) (fun _ _ _ => su_k (by decide)) (fun _ _ _ => su_k (by decide)) (fun _ _ _ => su_k (by decide)) (fun _ _ => su_k (by decide)) (fun _ _ => su_k (by decide)) (fun _ _ => su_k (by decide)) (fun _ _ => su_k (by decide)) (fun _ _ => su_k (by decide)) (fun _ _ _ => su_k (by decide)) (fun _ _ => su_k (by decide))
theorem mu_away (i : Nat) (v : Int32) : va_up (mE cy ad σ) 5 (.inl (cy 1, 16, .inl (upd (fun j => σ 4 j 0) i v))) = mE cy ad (su σ 4 i 0 v) := by
  refine m_up ?_ ?_
  · refine congrArg (fun f : Nat → Int32 => (.inl (cy 1, 16, .inl f) : va_E)) (funext fun y => ?_)
    simp [su, upd]
  exact fun j hj => mE_ext (fun _ => ⟨su_k (by decide), nw_suk (by decide), su_k (by decide), fo_suk (by decide), nm_suk (by decide), su_k (by decide)⟩) (fun _ _ => su_k (by decide)) (fun _ _ => br_su (by decide)) (fun _ _ => bd_su (by decide)) (fun _ _ => su_k (by decide)) (fun h => absurd h hj) (fun _ _ => su_k (by decide)) (fun _ _ => su_k (by decide)) (fun _ _ _ => su_k (by decide)) (fun _ _ _ => su_k (by decide)) (fun _ _ _ => su_k (by decide)) (fun _ _ => su_k (by decide)) (fun _ _ => su_k (by decide)) (fun _ _ => su_k (by decide)) (fun _ _ => su_k (by decide)) (fun _ _ => su_k (by decide)) (fun _ _ _ => su_k (by decide)) (fun _ _ => su_k (by decide))
theorem mu_credits (i : Nat) (v : Int32) : va_up (mE cy ad σ) 6 (.inl (cy 0, 16, .inl (upd (fun j => σ 5 j 0) i v))) = mE cy ad (su σ 5 i 0 v) := by
  refine m_up ?_ ?_
  · refine congrArg (fun f : Nat → Int32 => (.inl (cy 0, 16, .inl f) : va_E)) (funext fun y => ?_)
    simp [su, upd]
  exact fun j hj => mE_ext (fun _ => ⟨su_k (by decide), nw_suk (by decide), su_k (by decide), fo_suk (by decide), nm_suk (by decide), su_k (by decide)⟩) (fun _ _ => su_k (by decide)) (fun _ _ => br_su (by decide)) (fun _ _ => bd_su (by decide)) (fun _ _ => su_k (by decide)) (fun _ _ => su_k (by decide)) (fun h => absurd h hj) (fun _ _ => su_k (by decide)) (fun _ _ _ => su_k (by decide)) (fun _ _ _ => su_k (by decide)) (fun _ _ _ => su_k (by decide)) (fun _ _ => su_k (by decide)) (fun _ _ => su_k (by decide)) (fun _ _ => su_k (by decide)) (fun _ _ => su_k (by decide)) (fun _ _ => su_k (by decide)) (fun _ _ _ => su_k (by decide)) (fun _ _ => su_k (by decide))
theorem mu_spays (i : Nat) (v : Int32) : va_up (mE cy ad σ) 7 (.inl (cy 0, 16, .inl (upd (fun j => σ 6 j 0) i v))) = mE cy ad (su σ 6 i 0 v) := by
  refine m_up ?_ ?_
  · refine congrArg (fun f : Nat → Int32 => (.inl (cy 0, 16, .inl f) : va_E)) (funext fun y => ?_)
    simp [su, upd]
  exact fun j hj => mE_ext (fun _ => ⟨su_k (by decide), nw_suk (by decide), su_k (by decide), fo_suk (by decide), nm_suk (by decide), su_k (by decide)⟩) (fun _ _ => su_k (by decide)) (fun _ _ => br_su (by decide)) (fun _ _ => bd_su (by decide)) (fun _ _ => su_k (by decide)) (fun _ _ => su_k (by decide)) (fun _ _ => su_k (by decide)) (fun h => absurd h hj) (fun _ _ _ => su_k (by decide)) (fun _ _ _ => su_k (by decide)) (fun _ _ _ => su_k (by decide)) (fun _ _ => su_k (by decide)) (fun _ _ => su_k (by decide)) (fun _ _ => su_k (by decide)) (fun _ _ => su_k (by decide)) (fun _ _ => su_k (by decide)) (fun _ _ _ => su_k (by decide)) (fun _ _ => su_k (by decide))
theorem mu_ballot (i : Nat) (v : Int32) : va_up (mE cy ad σ) 11 (.inl (cy 1, 4, .inl (upd (fun j => σ 10 j 0) i v))) = mE cy ad (su σ 10 i 0 v) := by
  refine m_up ?_ ?_
  · refine congrArg (fun f : Nat → Int32 => (.inl (cy 1, 4, .inl f) : va_E)) (funext fun y => ?_)
    simp [su, upd]
  exact fun j hj => mE_ext (fun _ => ⟨su_k (by decide), nw_suk (by decide), su_k (by decide), fo_suk (by decide), nm_suk (by decide), su_k (by decide)⟩) (fun _ _ => su_k (by decide)) (fun _ _ => br_su (by decide)) (fun _ _ => bd_su (by decide)) (fun _ _ => su_k (by decide)) (fun _ _ => su_k (by decide)) (fun _ _ => su_k (by decide)) (fun _ _ => su_k (by decide)) (fun _ _ _ => su_k (by decide)) (fun _ _ _ => su_k (by decide)) (fun _ _ _ => su_k (by decide)) (fun h => absurd h hj) (fun _ _ => su_k (by decide)) (fun _ _ => su_k (by decide)) (fun _ _ => su_k (by decide)) (fun _ _ => su_k (by decide)) (fun _ _ _ => su_k (by decide)) (fun _ _ => su_k (by decide))
theorem mu_yes (i : Nat) (v : Int32) : va_up (mE cy ad σ) 12 (.inl (cy 0, 4, .inl (upd (fun j => σ 11 j 0) i v))) = mE cy ad (su σ 11 i 0 v) := by
  refine m_up ?_ ?_
  · refine congrArg (fun f : Nat → Int32 => (.inl (cy 0, 4, .inl f) : va_E)) (funext fun y => ?_)
    simp [su, upd]
  exact fun j hj => mE_ext (fun _ => ⟨su_k (by decide), nw_suk (by decide), su_k (by decide), fo_suk (by decide), nm_suk (by decide), su_k (by decide)⟩) (fun _ _ => su_k (by decide)) (fun _ _ => br_su (by decide)) (fun _ _ => bd_su (by decide)) (fun _ _ => su_k (by decide)) (fun _ _ => su_k (by decide)) (fun _ _ => su_k (by decide)) (fun _ _ => su_k (by decide)) (fun _ _ _ => su_k (by decide)) (fun _ _ _ => su_k (by decide)) (fun _ _ _ => su_k (by decide)) (fun _ _ => su_k (by decide)) (fun h => absurd h hj) (fun _ _ => su_k (by decide)) (fun _ _ => su_k (by decide)) (fun _ _ => su_k (by decide)) (fun _ _ _ => su_k (by decide)) (fun _ _ => su_k (by decide))
theorem mu_no (i : Nat) (v : Int32) : va_up (mE cy ad σ) 13 (.inl (cy 0, 4, .inl (upd (fun j => σ 12 j 0) i v))) = mE cy ad (su σ 12 i 0 v) := by
  refine m_up ?_ ?_
  · refine congrArg (fun f : Nat → Int32 => (.inl (cy 0, 4, .inl f) : va_E)) (funext fun y => ?_)
    simp [su, upd]
  exact fun j hj => mE_ext (fun _ => ⟨su_k (by decide), nw_suk (by decide), su_k (by decide), fo_suk (by decide), nm_suk (by decide), su_k (by decide)⟩) (fun _ _ => su_k (by decide)) (fun _ _ => br_su (by decide)) (fun _ _ => bd_su (by decide)) (fun _ _ => su_k (by decide)) (fun _ _ => su_k (by decide)) (fun _ _ => su_k (by decide)) (fun _ _ => su_k (by decide)) (fun _ _ _ => su_k (by decide)) (fun _ _ _ => su_k (by decide)) (fun _ _ _ => su_k (by decide)) (fun _ _ => su_k (by decide)) (fun _ _ => su_k (by decide)) (fun h => absurd h hj) (fun _ _ => su_k (by decide)) (fun _ _ => su_k (by decide)) (fun _ _ _ => su_k (by decide)) (fun _ _ => su_k (by decide))
theorem mu_can (i : Nat) (v : Int32) : va_up (mE cy ad σ) 14 (.inl (cy 1, 4, .inl (upd (fun j => σ 13 j 0) i v))) = mE cy ad (su σ 13 i 0 v) := by
  refine m_up ?_ ?_
  · refine congrArg (fun f : Nat → Int32 => (.inl (cy 1, 4, .inl f) : va_E)) (funext fun y => ?_)
    simp [su, upd]
  exact fun j hj => mE_ext (fun _ => ⟨su_k (by decide), nw_suk (by decide), su_k (by decide), fo_suk (by decide), nm_suk (by decide), su_k (by decide)⟩) (fun _ _ => su_k (by decide)) (fun _ _ => br_su (by decide)) (fun _ _ => bd_su (by decide)) (fun _ _ => su_k (by decide)) (fun _ _ => su_k (by decide)) (fun _ _ => su_k (by decide)) (fun _ _ => su_k (by decide)) (fun _ _ _ => su_k (by decide)) (fun _ _ _ => su_k (by decide)) (fun _ _ _ => su_k (by decide)) (fun _ _ => su_k (by decide)) (fun _ _ => su_k (by decide)) (fun _ _ => su_k (by decide)) (fun h => absurd h hj) (fun _ _ => su_k (by decide)) (fun _ _ _ => su_k (by decide)) (fun _ _ => su_k (by decide))
theorem mu_striking (i : Nat) (v : Int32) : va_up (mE cy ad σ) 15 (.inl (cy 1, 4, .inl (upd (fun j => σ 14 j 0) i v))) = mE cy ad (su σ 14 i 0 v) := by
  refine m_up ?_ ?_
  · refine congrArg (fun f : Nat → Int32 => (.inl (cy 1, 4, .inl f) : va_E)) (funext fun y => ?_)
    simp [su, upd]
  exact fun j hj => mE_ext (fun _ => ⟨su_k (by decide), nw_suk (by decide), su_k (by decide), fo_suk (by decide), nm_suk (by decide), su_k (by decide)⟩) (fun _ _ => su_k (by decide)) (fun _ _ => br_su (by decide)) (fun _ _ => bd_su (by decide)) (fun _ _ => su_k (by decide)) (fun _ _ => su_k (by decide)) (fun _ _ => su_k (by decide)) (fun _ _ => su_k (by decide)) (fun _ _ _ => su_k (by decide)) (fun _ _ _ => su_k (by decide)) (fun _ _ _ => su_k (by decide)) (fun _ _ => su_k (by decide)) (fun _ _ => su_k (by decide)) (fun _ _ => su_k (by decide)) (fun _ _ => su_k (by decide)) (fun h => absurd h hj) (fun _ _ _ => su_k (by decide)) (fun _ _ => su_k (by decide))
theorem mu_deleg (i : Nat) (v : Int32) : va_up (mE cy ad σ) 17 (.inl (cy 0, 4, .inl (upd (fun j => σ 16 j 0) i v))) = mE cy ad (su σ 16 i 0 v) := by
  refine m_up ?_ ?_
  · refine congrArg (fun f : Nat → Int32 => (.inl (cy 0, 4, .inl f) : va_E)) (funext fun y => ?_)
    simp [su, upd]
  exact fun j hj => mE_ext (fun _ => ⟨su_k (by decide), nw_suk (by decide), su_k (by decide), fo_suk (by decide), nm_suk (by decide), su_k (by decide)⟩) (fun _ _ => su_k (by decide)) (fun _ _ => br_su (by decide)) (fun _ _ => bd_su (by decide)) (fun _ _ => su_k (by decide)) (fun _ _ => su_k (by decide)) (fun _ _ => su_k (by decide)) (fun _ _ => su_k (by decide)) (fun _ _ _ => su_k (by decide)) (fun _ _ _ => su_k (by decide)) (fun _ _ _ => su_k (by decide)) (fun _ _ => su_k (by decide)) (fun _ _ => su_k (by decide)) (fun _ _ => su_k (by decide)) (fun _ _ => su_k (by decide)) (fun _ _ => su_k (by decide)) (fun _ _ _ => su_k (by decide)) (fun h => absurd h hj)
theorem mu_debts (i : Nat) {m : Nat} (hm : m < 60) (v : Int32) : va_up (mE cy ad σ) 8 (.inl (cy 0, 960, .inl (upd (f60 σ 7) (60 * i + m) v))) = mE cy ad (su σ 7 i m v) := by
  refine m_up ?_ ?_
  · refine congrArg (fun f : Nat → Int32 => (.inl (cy 0, 960, .inl f) : va_E)) (funext fun y => ?_)
    by_cases h : y = 60 * i + m
    · subst h
      simp only [f60, upd, if_true, fl60 _ hm, su_same]
    · simp only [f60, upd, if_neg h]
      by_cases h1 : y / 60 = i
      · exact su_m (by omega)
      · exact su_i h1
  exact fun j hj => mE_ext (fun _ => ⟨su_k (by decide), nw_suk (by decide), su_k (by decide), fo_suk (by decide), nm_suk (by decide), su_k (by decide)⟩) (fun _ _ => su_k (by decide)) (fun _ _ => br_su (by decide)) (fun _ _ => bd_su (by decide)) (fun _ _ => su_k (by decide)) (fun _ _ => su_k (by decide)) (fun _ _ => su_k (by decide)) (fun _ _ => su_k (by decide)) (fun h => absurd h hj) (fun _ _ _ => su_k (by decide)) (fun _ _ _ => su_k (by decide)) (fun _ _ => su_k (by decide)) (fun _ _ => su_k (by decide)) (fun _ _ => su_k (by decide)) (fun _ _ => su_k (by decide)) (fun _ _ => su_k (by decide)) (fun _ _ _ => su_k (by decide)) (fun _ _ => su_k (by decide))
theorem mu_laidBy (i : Nat) {m : Nat} (hm : m < 60) (v : Int32) : va_up (mE cy ad σ) 9 (.inl (cy 0, 960, .inl (upd (f60 σ 8) (60 * i + m) v))) = mE cy ad (su σ 8 i m v) := by
  refine m_up ?_ ?_
  · refine congrArg (fun f : Nat → Int32 => (.inl (cy 0, 960, .inl f) : va_E)) (funext fun y => ?_)
    by_cases h : y = 60 * i + m
    · subst h
      simp only [f60, upd, if_true, fl60 _ hm, su_same]
    · simp only [f60, upd, if_neg h]
      by_cases h1 : y / 60 = i
      · exact su_m (by omega)
      · exact su_i h1
  exact fun j hj => mE_ext (fun _ => ⟨su_k (by decide), nw_suk (by decide), su_k (by decide), fo_suk (by decide), nm_suk (by decide), su_k (by decide)⟩) (fun _ _ => su_k (by decide)) (fun _ _ => br_su (by decide)) (fun _ _ => bd_su (by decide)) (fun _ _ => su_k (by decide)) (fun _ _ => su_k (by decide)) (fun _ _ => su_k (by decide)) (fun _ _ => su_k (by decide)) (fun _ _ _ => su_k (by decide)) (fun h => absurd h hj) (fun _ _ _ => su_k (by decide)) (fun _ _ => su_k (by decide)) (fun _ _ => su_k (by decide)) (fun _ _ => su_k (by decide)) (fun _ _ => su_k (by decide)) (fun _ _ => su_k (by decide)) (fun _ _ _ => su_k (by decide)) (fun _ _ => su_k (by decide))
theorem mu_laidOf (i : Nat) {m : Nat} (hm : m < 60) (v : Int32) : va_up (mE cy ad σ) 10 (.inl (cy 0, 240, .inl (upd (f60 σ 9) (60 * i + m) v))) = mE cy ad (su σ 9 i m v) := by
  refine m_up ?_ ?_
  · refine congrArg (fun f : Nat → Int32 => (.inl (cy 0, 240, .inl f) : va_E)) (funext fun y => ?_)
    by_cases h : y = 60 * i + m
    · subst h
      simp only [f60, upd, if_true, fl60 _ hm, su_same]
    · simp only [f60, upd, if_neg h]
      by_cases h1 : y / 60 = i
      · exact su_m (by omega)
      · exact su_i h1
  exact fun j hj => mE_ext (fun _ => ⟨su_k (by decide), nw_suk (by decide), su_k (by decide), fo_suk (by decide), nm_suk (by decide), su_k (by decide)⟩) (fun _ _ => su_k (by decide)) (fun _ _ => br_su (by decide)) (fun _ _ => bd_su (by decide)) (fun _ _ => su_k (by decide)) (fun _ _ => su_k (by decide)) (fun _ _ => su_k (by decide)) (fun _ _ => su_k (by decide)) (fun _ _ _ => su_k (by decide)) (fun _ _ _ => su_k (by decide)) (fun h => absurd h hj) (fun _ _ => su_k (by decide)) (fun _ _ => su_k (by decide)) (fun _ _ => su_k (by decide)) (fun _ _ => su_k (by decide)) (fun _ _ => su_k (by decide)) (fun _ _ _ => su_k (by decide)) (fun _ _ => su_k (by decide))
theorem mu_voted (i : Nat) {m : Nat} (hm : m < 16) (v : Int32) : va_up (mE cy ad σ) 16 (.inl (cy 1, 64, .inl (upd (f16 σ 15) (16 * i + m) v))) = mE cy ad (su σ 15 i m v) := by
  refine m_up ?_ ?_
  · refine congrArg (fun f : Nat → Int32 => (.inl (cy 1, 64, .inl f) : va_E)) (funext fun y => ?_)
    by_cases h : y = 16 * i + m
    · subst h
      simp only [f16, upd, if_true, fl16 _ hm, su_same]
    · simp only [f16, upd, if_neg h]
      by_cases h1 : y / 16 = i
      · exact su_m (by omega)
      · exact su_i h1
  exact fun j hj => mE_ext (fun _ => ⟨su_k (by decide), nw_suk (by decide), su_k (by decide), fo_suk (by decide), nm_suk (by decide), su_k (by decide)⟩) (fun _ _ => su_k (by decide)) (fun _ _ => br_su (by decide)) (fun _ _ => bd_su (by decide)) (fun _ _ => su_k (by decide)) (fun _ _ => su_k (by decide)) (fun _ _ => su_k (by decide)) (fun _ _ => su_k (by decide)) (fun _ _ _ => su_k (by decide)) (fun _ _ _ => su_k (by decide)) (fun _ _ _ => su_k (by decide)) (fun _ _ => su_k (by decide)) (fun _ _ => su_k (by decide)) (fun _ _ => su_k (by decide)) (fun _ _ => su_k (by decide)) (fun _ _ => su_k (by decide)) (fun h => absurd h hj) (fun _ _ => su_k (by decide))
theorem mv_mbr (i : Nat) (v : Int32) (b : Nat) (h : v.toNatClampNeg % 4 = b) : va_up (mE cy ad σ) 2 (.inl (cy 0, 16, .inl (upd (fun j => nI (br σ j)) i (nI b)))) = mE cy ad (su σ 1 i 0 v) := by
  refine m_up ?_ ?_
  · refine congrArg (fun f : Nat → Int32 => (.inl (cy 0, 16, .inl f) : va_E)) (funext fun y => ?_)
    by_cases hy : y = i
    · subst hy
      simp only [br, upd, if_true, su_same, h]
    · simp only [br, upd, if_neg hy, su_i hy]
  exact fun j hj => mE_ext (fun _ => ⟨su_k (by decide), nw_suk (by decide), su_k (by decide), fo_suk (by decide), nm_suk (by decide), su_k (by decide)⟩) (fun _ _ => su_k (by decide)) (fun h => absurd h hj) (fun _ _ => bd_su (by decide)) (fun _ _ => su_k (by decide)) (fun _ _ => su_k (by decide)) (fun _ _ => su_k (by decide)) (fun _ _ => su_k (by decide)) (fun _ _ _ => su_k (by decide)) (fun _ _ _ => su_k (by decide)) (fun _ _ _ => su_k (by decide)) (fun _ _ => su_k (by decide)) (fun _ _ => su_k (by decide)) (fun _ _ => su_k (by decide)) (fun _ _ => su_k (by decide)) (fun _ _ => su_k (by decide)) (fun _ _ _ => su_k (by decide)) (fun _ _ => su_k (by decide))
theorem mu_mbr (i : Nat) {b : Nat} (hb : b < 4) : va_up (mE cy ad σ) 2 (.inl (cy 0, 16, .inl (upd (fun j => nI (br σ j)) i (nI b)))) = mE cy ad (su σ 1 i 0 (nI b)) := mv_mbr cy ad σ i (nI b) b (by rw [cl_nI (show b < 2 ^ 31 by omega), Nat.mod_eq_of_lt hb])
theorem mv_mbd (i : Nat) (v : Int32) (b : Nat) (h : v.toNatClampNeg % 3 = b) : va_up (mE cy ad σ) 3 (.inl (cy 0, 16, .inl (upd (fun j => nI (bd σ j)) i (nI b)))) = mE cy ad (su σ 2 i 0 v) := by
  refine m_up ?_ ?_
  · refine congrArg (fun f : Nat → Int32 => (.inl (cy 0, 16, .inl f) : va_E)) (funext fun y => ?_)
    by_cases hy : y = i
    · subst hy
      simp only [bd, upd, if_true, su_same, h]
    · simp only [bd, upd, if_neg hy, su_i hy]
  exact fun j hj => mE_ext (fun _ => ⟨su_k (by decide), nw_suk (by decide), su_k (by decide), fo_suk (by decide), nm_suk (by decide), su_k (by decide)⟩) (fun _ _ => su_k (by decide)) (fun _ _ => br_su (by decide)) (fun h => absurd h hj) (fun _ _ => su_k (by decide)) (fun _ _ => su_k (by decide)) (fun _ _ => su_k (by decide)) (fun _ _ => su_k (by decide)) (fun _ _ _ => su_k (by decide)) (fun _ _ _ => su_k (by decide)) (fun _ _ _ => su_k (by decide)) (fun _ _ => su_k (by decide)) (fun _ _ => su_k (by decide)) (fun _ _ => su_k (by decide)) (fun _ _ => su_k (by decide)) (fun _ _ => su_k (by decide)) (fun _ _ _ => su_k (by decide)) (fun _ _ => su_k (by decide))
theorem mu_mbd (i : Nat) {b : Nat} (hb : b < 3) : va_up (mE cy ad σ) 3 (.inl (cy 0, 16, .inl (upd (fun j => nI (bd σ j)) i (nI b)))) = mE cy ad (su σ 2 i 0 (nI b)) := mv_mbd cy ad σ i (nI b) b (by rw [cl_nI (show b < 2 ^ 31 by omega), Nat.mod_eq_of_lt hb])
end MU
/-- contracts of the reference's methods -/
abbrev MM (l : Launch) (y : MethodName) (ws : List Cond) (rm : Room) (D : va_G) (cy : Nat → ClassId) (ad : Nat → Nat) (av : List Value) (σ : S3) (post : Option Value → S3 → Prop) : Prop := XM l y ws rm D (tyL cy) ad 18 (fun _ _ => True) (mE cy ad) av σ post
abbrev MW (D : va_G) (cy : Nat → ClassId) (s : State) (ad : Nat → Nat) (σ : S3) (H : Heap) (locs : List Loc) : Prop := XW D (tyL cy) (xA ad 18 s.heap.size) s ad 18 (mE cy ad σ) H locs
def bI (P : Prop) [Decidable P] : Int32 := if P then 1 else 0
theorem bI_1 {P : Prop} [Decidable P] : ¬ bI P = 0 ↔ P := by
  unfold bI
  by_cases h : P
  · rw [if_pos h]; exact ⟨fun _ => h, fun _ => by decide⟩
  · rw [if_neg h]; exact ⟨fun z => absurd rfl z, fun z => absurd z h⟩
theorem bI_0 {P : Prop} [Decidable P] : bI P = 0 ↔ ¬ P := by
  exact ⟨fun h q => (bI_1.mpr q) h, fun h => Decidable.not_not.mp (fun q => h (bI_1.mp q))⟩
theorem bI_01 (P : Prop) [Decidable P] : bI P = 0 ∨ bI P = 1 := by
  unfold bI
  split
  · exact Or.inr rfl
  · exact Or.inl rfl
theorem in_ix {x : Int32} {k : Nat} (h : inI x k) : ∃ j, j < k ∧ x = nI j := by
  obtain ⟨h0, h1⟩ := h
  obtain ⟨j, hj, rfl⟩ := nI_of h0
  rw [nI_clamp hj] at h1
  exact ⟨j, h1, rfl⟩
theorem in_nI {j k : Nat} (h : j < k) (hk : k < 2 ^ 31) : inI (nI j) k := ⟨nI_pos (by omega), by rw [nI_clamp (by omega)]; exact h⟩
theorem rg_in {x : Int32} {k : Nat} (hk : k < 2 ^ 30) : rgI x 0 (nI k - 1) ↔ inI x k := by
  have e1 : (nI k - 1).toInt = (k : Int) - 1 := by
    have := pk_sub_toInt (a := k) (b := 1) hk (by decide)
    rw [show nI 1 = 1 from rfl] at this
    exact this
  constructor
  · intro h
    obtain ⟨j, hj, rfl⟩ := nI_of h.1
    refine ⟨h.1, ?_⟩
    rw [nI_clamp hj]
    have h2 : (nI j).toInt ≤ (nI k - 1).toInt := Int32.le_iff_toInt_le.mp h.2
    rw [nI_toInt hj, e1] at h2
    omega
  · intro h
    obtain ⟨j, hj, rfl⟩ := in_ix h
    refine ⟨h.1, Int32.le_iff_toInt_le.mpr ?_⟩
    rw [nI_toInt (by omega), e1]
    omega
theorem mulN (c i m : Nat) : nI c * nI i + nI m = nI (c * i + m) := by rw [pk_mul, nI_add]
section XV
variable {p : Program} {l : Launch} {e : Env} {R : Room} {s : State} {m : MethodId} {args : Array Value} {below : List Frame} {meth : Method} {c : Code} {H : Heap} {locs : List Loc} {cells slots : Nat} {Q : State → Prop}
variable {cc : ByteArray} {pc : Nat} {ls : Array Slot} {rest : List Value} {D : va_G} {tys : List (ClassId × FieldType)} {A : Nat → Prop} {ad : Nat → Nat} {N : Nat} {g : Nat → va_E} {nL : Nat} {Ts : List Cond} {own : String}
theorem xv_iald (S : CallFix p m c cc nL s args Ts own) (hw : XW D tys A s ad N g H locs) {k n t0 j : Nat} {v : Int32} {cA : ClassId} {f : Nat → Int32} (hk : k < N) (hg : g k = .inl (cA, n, .inl f)) (ht : tys[t0]? = some (cA, .int)) (hj : j < n) (h31 : n < 2 ^ 31) (hv : f j = v) (hdg : decode cc pc = .ok (.iaload, 1))
    (kk : W p l e R s m args below meth c H locs cells slots Q (F0 m (pc + 1) ls (.int v :: rest))) : W p l e R s m args below meth c H locs cells slots Q (F0 m pc ls (.int (nI j) :: .ref (ad k) :: rest)) := by
  subst hv
  exact xn_iald S hw hk hg ht hj h31 hdg kk
theorem xv_zald (S : CallFix p m c cc nL s args Ts own) (hw : XW D tys A s ad N g H locs) {k n t0 j : Nat} {v : Int32} {cA : ClassId} {f : Nat → Int32} (hk : k < N) (hg : g k = .inl (cA, n, .inl f)) (ht : tys[t0]? = some (cA, .boolean)) (hj : j < n) (h31 : n < 2 ^ 31) (hv : f j = v) (hdg : decode cc pc = .ok (.baload, 1))
    (kk : W p l e R s m args below meth c H locs cells slots Q (F0 m (pc + 1) ls (.int v :: rest))) : W p l e R s m args below meth c H locs cells slots Q (F0 m pc ls (.int (nI j) :: .ref (ad k) :: rest)) := by
  subst hv
  exact xn_zald S hw hk hg ht hj h31 hdg kk
end XV
end
section
/-! ===== the reference: tests, sums, laying ===== -/
def stmF (σ : S3) (i : Nat) : Nat → Int32
  | 0 => if σ 3 i 0 = 0 then 1 else 0
  | m + 1 => if stmF σ i m = 0 then 0 else if σ 7 i m = 0 then 1 else if 30 * (nI m + 1) + 60 ≤ nI (nw σ) then 0 else 1
theorem stmF_01 (σ : S3) (i m : Nat) : stmF σ i m = 0 ∨ stmF σ i m = 1 := by
  cases m with
  | zero => unfold stmF; split <;> first | exact Or.inl rfl | exact Or.inr rfl
  | succ m => unfold stmF; split <;> first | exact Or.inl rfl | (split <;> first | exact Or.inr rfl | (split <;> first | exact Or.inl rfl | exact Or.inr rfl))
theorem stmF_0 (σ : S3) (i m : Nat) (h : stmF σ i m = 0) : ∀ k, stmF σ i (m + k) = 0
  | 0 => h
  | k + 1 => by
    show (if stmF σ i (m + k) = 0 then (0 : Int32) else _) = 0
    rw [if_pos (stmF_0 σ i m h k)]
def stmI (σ : S3) (i : Nat) : Int32 := stmF σ i 60
theorem stmI_01 (σ : S3) (i : Nat) : stmI σ i = 0 ∨ stmI σ i = 1 := stmF_01 σ i 60
def cntM (σ : S3) (x : Int32) : Nat → Int32
  | 0 => 0
  | j + 1 => if nI (br σ j) = x ∧ ¬ stmI σ j = 0 then cntM σ x j + 1 else cntM σ x j + 0
def smF (f : Nat → Int32) : Nat → Int32
  | 0 => 0
  | k + 1 => smF f k + f k
def owM (σ : S3) (i : Nat) : Int32 := smF (σ 7 i) 60
def imc (x y : Int32) : Int32 := if y ≤ x then y else x
def mlS (σ : S3) (i m : Nat) : S3 :=
  su (su (su (su (su σ 5 i 0 (σ 5 i 0 - imc (σ 5 i 0) (σ 7 i m))) 7 i m (σ 7 i m - imc (σ 5 i 0) (σ 7 i m))) 8 i m (σ 8 i m + imc (σ 5 i 0) (σ 7 i m))) 9 (br σ i) m (σ 9 (br σ i) m + imc (σ 5 i 0) (σ 7 i m))) 19 0 0 (σ 19 0 0 + imc (σ 5 i 0) (σ 7 i m) / 5)
def mlF (σ : S3) (i : Nat) : Nat → S3
  | 0 => σ
  | m + 1 => mlS (mlF σ i m) i m
def mlA (σ : S3) (i : Nat) : S3 := mlF σ i 60
theorem nm_mlF (σ : S3) (i : Nat) : ∀ m, nm (mlF σ i m) = nm σ
  | 0 => rfl
  | m + 1 => by
    show nm (mlS (mlF σ i m) i m) = nm σ
    unfold mlS
    rw [nm_suk (by decide), nm_suk (by decide), nm_suk (by decide), nm_suk (by decide), nm_suk (by decide), nm_mlF σ i m]
theorem nw_mlF (σ : S3) (i : Nat) : ∀ m, nw (mlF σ i m) = nw σ
  | 0 => rfl
  | m + 1 => by
    show nw (mlS (mlF σ i m) i m) = nw σ
    unfold mlS
    rw [nw_suk (by decide), nw_suk (by decide), nw_suk (by decide), nw_suk (by decide), nw_suk (by decide), nw_mlF σ i m]
theorem nm_mlA (σ : S3) (i : Nat) : nm (mlA σ i) = nm σ := nm_mlF σ i 60
theorem nw_mlA (σ : S3) (i : Nat) : nw (mlA σ i) = nw σ := nw_mlF σ i 60
theorem lnm {j k : Nat} (hj : j < 2 ^ 31) (hk : k < 2 ^ 31) : ¬ nI k ≤ nI j ↔ j < k := by
  rw [nI_leI hk hj]
  omega
abbrev rmX4_in : Room := { frames := 0, cells := 0, slots := 0, locals := 0 }
set_option maxHeartbeats 1000000 in
set_option maxRecDepth 100000 in
/-- in -/
theorem c_X4_in (l : Launch) (D : va_G) (cy : Nat → ClassId) (ad : Nat → Nat) (σ : S3) (x0 x1 x2 : Int32) : MM l yX4_in wsX4_in rmX4_in D cy ad [.int x0, .int x1, .int x2] σ (xPi fun r u => u = σ ∧ r = bI (rgI x0 x1 x2)) := by
  refine xs_M (cc := cX4_in) (maxL := 3) (ret := (some .boolean)) (by decide +kernel) rfl (Nat.le_of_ble_eq_true rfl) ?_
  intro p e s m below meth c ls S hr hlocks hnm hw hX hl
  have S : CallFix p m c cX4_in 3 s [.int x0, .int x1, .int x2].toArray wsX4_in RX4 := S
  have hx := S.1
  have hb := S.2.1
  have hts := S.2.2.2.2
  have hl : lv_has ls 3 [(0, .int x0), (1, .int x1), (2, .int x2)] := hl
  have hnm16 := nm_le σ
  have hnw18 := nw_le σ
  refine lv_iload_n hx hb dX4_in_0 rfl (lv_at hl 0 rfl) ?_
  refine lv_iload_n hx hb dX4_in_1 rfl (lv_at hl 1 rfl) ?_
  refine lv_icmp_lt (tgt := 14) hx hb dX4_in_2 (by decide) (fun c1 => ?_) (fun c1 => ?_)
  · refine lv_iconst (v := 0) hx hb dX4_in_14 (by decide) ?_
    exact xe_z S.1 S.2.1 hr (Or.inl rfl) hlocks hw (⟨rfl, by simp [bI, rgI, c1]⟩) (Nat.le_of_ble_eq_true rfl) (Nat.le_of_ble_eq_true rfl) dX4_in_15
  · refine lv_iload_n hx hb dX4_in_5 rfl (lv_at hl 0 rfl) ?_
    refine lv_iload_n hx hb dX4_in_6 rfl (lv_at hl 2 rfl) ?_
    refine lv_icmp_gt (tgt := 14) hx hb dX4_in_7 (by decide) (fun c2 => ?_) (fun c2 => ?_)
    · refine lv_iconst (v := 0) hx hb dX4_in_14 (by decide) ?_
      exact xe_z S.1 S.2.1 hr (Or.inl rfl) hlocks hw (⟨rfl, by simp [bI, rgI, c1, c2]⟩) (Nat.le_of_ble_eq_true rfl) (Nat.le_of_ble_eq_true rfl) dX4_in_15
    · refine lv_iconst (v := 1) hx hb dX4_in_10 (by decide) ?_
      refine lv_goto (tgt := 15) hx hb dX4_in_11 (by decide) ?_
      exact xe_z S.1 S.2.1 hr (Or.inr rfl) hlocks hw (⟨rfl, by simp [bI, rgI, c1, c2]⟩) (Nat.le_of_ble_eq_true rfl) (Nat.le_of_ble_eq_true rfl) dX4_in_15
theorem bI_c {P P2 : Prop} [Decidable P] [Decidable P2] (h : P ↔ P2) : bI P = bI P2 := by
  unfold bI
  by_cases q : P
  · rw [if_pos q, if_pos (h.mp q)]
  · rw [if_neg q, if_neg (fun z => q (h.mpr z))]
abbrev rmX4_isMember : Room := { frames := 1, cells := 0, slots := 0, locals := 22 }
theorem inX4_isMember_X4 : (∀ w ∈ wsX40, w ∈ wsX4_isMember) := by decide +kernel
set_option maxHeartbeats 1000000 in
set_option maxRecDepth 100000 in
/-- isMember -/
theorem c_X4_isMember (l : Launch) (D : va_G) (cy : Nat → ClassId) (ad : Nat → Nat) (σ : S3) (x0 : Int32) : MM l yX4_isMember wsX4_isMember rmX4_isMember D cy ad [.ref (ad 0), .int x0] σ (xPi fun r u => u = σ ∧ r = bI (inI x0 (nm σ))) := by
  refine xs_M (cc := cX4_isMember) (maxL := 2) (ret := (some .boolean)) (by decide +kernel) rfl (Nat.le_of_ble_eq_true rfl) ?_
  intro p e s m below meth c ls S hr hlocks hnm hw hX hl
  have S : CallFix p m c cX4_isMember 2 s [.ref (ad 0), .int x0].toArray wsX4_isMember RX4 := S
  have hx := S.1
  have hb := S.2.1
  have hts := S.2.2.2.2
  have hl : lv_has ls 2 [(0, .ref (ad 0)), (1, .int x0)] := hl
  have hnm16 := nm_le σ
  have hnw18 := nw_le σ
  refine lv_iload_n hx hb dX4_isMember_0 rfl (lv_at hl 1 rfl) ?_
  refine lv_iconst (v := 0) hx hb dX4_isMember_1 (by decide) ?_
  refine lv_aload_n hx hb dX4_isMember_2 rfl (lv_at hl 0 rfl) ?_
  refine xr_get S hw (j := 5) (by decide) rfl rfl inX4_isMember_X4 (by decide) (hts (.fieldLink RX4 72 "UnionOfficeModel" "memberMany" "I") (by decide +kernel)) rfl dX4_isMember_3 ?_
  refine lv_iconst (v := 1) hx hb dX4_isMember_6 (by decide) ?_
  refine lv_isub hx hb dX4_isMember_7 ?_
  refine xc_Mi hw (va_runS (As := [.int x0, .int 0, .int ((nI (nm σ)) - 1)]) (rest := []) S (c_X4_in l D cy ad σ x0 0 ((nI (nm σ)) - 1) _) (va_cwS 3 S.2.2.2.2 gX4_isMember_X4_in rfl rfl rfl (by decide +kernel) ⟨Nat.le_of_ble_eq_true rfl, Nat.le_of_ble_eq_true rfl⟩) (xc_preS (XOK.tt _ _) hX hw _) rfl rfl hl.1 rfl (lv_room (Nat.le_of_ble_eq_true rfl)) dX4_isMember_8 ⟨Nat.le_of_ble_eq_true rfl, Nat.le_of_ble_eq_true rfl⟩) (fun r9 u H locs hp hw => ?_)
  obtain ⟨hu9, hr9⟩ := hp
  rw [hu9] at hw
  rw [hr9]
  clear hu9 hr9
  exact xe_z S.1 S.2.1 hr (bI_01 _) hlocks hw (⟨rfl, bI_c (rg_in (by omega))⟩) (Nat.le_of_ble_eq_true rfl) (Nat.le_of_ble_eq_true rfl) dX4_isMember_11
abbrev rmX4_isBranch : Room := { frames := 1, cells := 0, slots := 0, locals := 22 }
set_option maxHeartbeats 1000000 in
set_option maxRecDepth 100000 in
/-- isBranch -/
theorem c_X4_isBranch (l : Launch) (D : va_G) (cy : Nat → ClassId) (ad : Nat → Nat) (σ : S3) (x0 : Int32) : MM l yX4_isBranch wsX4_isBranch rmX4_isBranch D cy ad [.int x0] σ (xPi fun r u => u = σ ∧ r = bI (inI x0 4)) := by
  refine xs_M (cc := cX4_isBranch) (maxL := 1) (ret := (some .boolean)) (by decide +kernel) rfl (Nat.le_of_ble_eq_true rfl) ?_
  intro p e s m below meth c ls S hr hlocks hnm hw hX hl
  have S : CallFix p m c cX4_isBranch 1 s [.int x0].toArray wsX4_isBranch RX4 := S
  have hx := S.1
  have hb := S.2.1
  have hts := S.2.2.2.2
  have hl : lv_has ls 1 [(0, .int x0)] := hl
  have hnm16 := nm_le σ
  have hnw18 := nw_le σ
  refine lv_iload_n hx hb dX4_isBranch_0 rfl (lv_at hl 0 rfl) ?_
  refine lv_iconst (v := 0) hx hb dX4_isBranch_1 (by decide) ?_
  refine lv_iconst (v := 3) hx hb dX4_isBranch_2 (by decide) ?_
  refine xc_Mi hw (va_runS (As := [.int x0, .int 0, .int 3]) (rest := []) S (c_X4_in l D cy ad σ x0 0 3 _) (va_cwS 3 S.2.2.2.2 gX4_isBranch_X4_in rfl rfl rfl (by decide +kernel) ⟨Nat.le_of_ble_eq_true rfl, Nat.le_of_ble_eq_true rfl⟩) (xc_preS (XOK.tt _ _) hX hw _) rfl rfl hl.1 rfl (lv_room (Nat.le_of_ble_eq_true rfl)) dX4_isBranch_3 ⟨Nat.le_of_ble_eq_true rfl, Nat.le_of_ble_eq_true rfl⟩) (fun r9 u H locs hp hw => ?_)
  obtain ⟨hu9, hr9⟩ := hp
  rw [hu9] at hw
  rw [hr9]
  clear hu9 hr9
  exact xe_z S.1 S.2.1 hr (bI_01 _) hlocks hw (⟨rfl, bI_c (rg_in (k := 4) (by decide))⟩) (Nat.le_of_ble_eq_true rfl) (Nat.le_of_ble_eq_true rfl) dX4_isBranch_6
abbrev rmX4_isBand : Room := { frames := 1, cells := 0, slots := 0, locals := 22 }
set_option maxHeartbeats 1000000 in
set_option maxRecDepth 100000 in
/-- isBand -/
theorem c_X4_isBand (l : Launch) (D : va_G) (cy : Nat → ClassId) (ad : Nat → Nat) (σ : S3) (x0 : Int32) : MM l yX4_isBand wsX4_isBand rmX4_isBand D cy ad [.int x0] σ (xPi fun r u => u = σ ∧ r = bI (inI x0 3)) := by
  refine xs_M (cc := cX4_isBand) (maxL := 1) (ret := (some .boolean)) (by decide +kernel) rfl (Nat.le_of_ble_eq_true rfl) ?_
  intro p e s m below meth c ls S hr hlocks hnm hw hX hl
  have S : CallFix p m c cX4_isBand 1 s [.int x0].toArray wsX4_isBand RX4 := S
  have hx := S.1
  have hb := S.2.1
  have hts := S.2.2.2.2
  have hl : lv_has ls 1 [(0, .int x0)] := hl
  have hnm16 := nm_le σ
  have hnw18 := nw_le σ
  refine lv_iload_n hx hb dX4_isBand_0 rfl (lv_at hl 0 rfl) ?_
  refine lv_iconst (v := 0) hx hb dX4_isBand_1 (by decide) ?_
  refine lv_iconst (v := 2) hx hb dX4_isBand_2 (by decide) ?_
  refine xc_Mi hw (va_runS (As := [.int x0, .int 0, .int 2]) (rest := []) S (c_X4_in l D cy ad σ x0 0 2 _) (va_cwS 3 S.2.2.2.2 gX4_isBand_X4_in rfl rfl rfl (by decide +kernel) ⟨Nat.le_of_ble_eq_true rfl, Nat.le_of_ble_eq_true rfl⟩) (xc_preS (XOK.tt _ _) hX hw _) rfl rfl hl.1 rfl (lv_room (Nat.le_of_ble_eq_true rfl)) dX4_isBand_3 ⟨Nat.le_of_ble_eq_true rfl, Nat.le_of_ble_eq_true rfl⟩) (fun r9 u H locs hp hw => ?_)
  obtain ⟨hu9, hr9⟩ := hp
  rw [hu9] at hw
  rw [hr9]
  clear hu9 hr9
  exact xe_z S.1 S.2.1 hr (bI_01 _) hlocks hw (⟨rfl, bI_c (rg_in (k := 3) (by decide))⟩) (Nat.le_of_ble_eq_true rfl) (Nat.le_of_ble_eq_true rfl) dX4_isBand_6
theorem inX4_stands_X4 : (∀ w ∈ wsX40, w ∈ wsX4_stands) := by decide +kernel
set_option maxHeartbeats 1000000 in
set_option maxRecDepth 100000 in
theorem lp_X4_stands {p : Program} {l : Launch} {e : Env} {R : Room} {s : State} {m : MethodId} {args : Array Value} {below : List Frame} {meth : Method} {c : Code} {cells slots : Nat} {Q : State → Prop} (S : CallFix p m c cX4_stands 4 s args wsX4_stands RX4) {D : va_G} {cy : Nat → ClassId} {ad : Nat → Nat} {σ : S3} {i : Nat} (hi : i < 16) : ∀ (k : Nat) (j : Nat) (acc : Int32) (H : Heap) (locs : List Loc) (ls : Array Slot), 60 - j < k → j ≤ 60 → acc = stmF σ i j → MW D cy s ad σ H locs → lv_has ls 4 [(0, .ref (ad 0)), (1, .int (nI i)), (2, .int acc), (3, .int (nI j))] → (∀ (r : Int32) (H : Heap) (locs : List Loc) (ls : Array Slot), r = stmI σ i → MW D cy s ad σ H locs → lv_has ls 4 [(0, .ref (ad 0)), (2, .int r)] → W p l e R s m args below meth c H locs cells slots Q (F0 m 69 ls [])) → W p l e R s m args below meth c H locs cells slots Q (F0 m 17 ls []) := by
  have hx := S.1
  have hb := S.2.1
  have hts := S.2.2.2.2
  intro k
  induction k with
  | zero => intro j acc H locs ls hk; exact absurd hk (Nat.not_lt_zero _)
  | succ k ih =>
    intro j acc H locs ls hk hj hacc hw hl kk
    refine lv_iload_n hx hb dX4_stands_17 rfl (lv_at hl 3 rfl) ?_
    refine lv_bipush (v := 60) hx hb dX4_stands_18 (by decide) ?_
    refine lv_icmp_ge (tgt := 69) hx hb dX4_stands_20 (by decide) (fun c1 => ?_) (fun c1 => ?_)
    · have hj6 : j = 60 := by
        rcases Nat.lt_or_ge j 60 with q | q
        · exact absurd c1 ((lt60 (by omega)).mpr q)
        · omega
      exact kk acc H locs ls (by rw [hacc, hj6]; rfl) hw (lv_sub hl [0, 2] rfl)
    · have hj6 : j < 60 := (lt60 (by omega)).mp c1
      refine lv_iload_n hx hb dX4_stands_23 rfl (lv_at hl 2 rfl) ?_
      refine lv_if_eq (tgt := 69) hx hb dX4_stands_24 (by decide) (fun c2 => ?_) (fun c2 => ?_)
      · exact kk acc H locs ls (by rw [c2]; rw [hacc] at c2; unfold stmI; have h9 := stmF_0 σ i j c2 (60 - j); rw [show j + (60 - j) = 60 by omega] at h9; exact h9.symm) hw (lv_sub hl [0, 2] rfl)
      · refine lv_aload_n hx hb dX4_stands_27 rfl (lv_at hl 0 rfl) ?_
        refine xr_get S hw (j := 12) (by decide) rfl rfl inX4_stands_X4 (by decide) (hts (.fieldLink RX4 32 "UnionOfficeModel" "debts" "[I") (by decide +kernel)) rfl dX4_stands_28 ?_
        refine lv_bipush (v := 60) hx hb dX4_stands_31 (by decide) ?_
        refine lv_iload_n hx hb dX4_stands_33 rfl (lv_at hl 1 rfl) ?_
        refine lv_imul hx hb dX4_stands_34 ?_
        refine lv_iload_n hx hb dX4_stands_35 rfl (lv_at hl 3 rfl) ?_
        refine lv_iadd hx hb dX4_stands_36 ?_
        rw [show ((60 * (nI i)) + (nI j)) = nI (60 * i + j) from mulN 60 i j]
        refine xv_iald S hw (t0 := 0) (v := σ 7 i j) (by decide) rfl rfl (by omega) (by decide) (fl60 _ (by omega)) dX4_stands_37 ?_
        refine lv_if_eq (tgt := 57) hx hb dX4_stands_38 (by decide) (fun c3 => ?_) (fun c3 => ?_)
        · refine lv_iconst (v := 1) hx hb dX4_stands_57 (by decide) ?_
          refine lv_goto (tgt := 62) hx hb dX4_stands_58 (by decide) ?_
          refine lv_istore_n (lv' := [(2, .int 1), (0, .ref (ad 0)), (1, .int (nI i)), (3, .int (nI j))]) hx hb dX4_stands_62 rfl hl (by decide) rfl (fun ls hl => ?_)
          refine lv_iinc (v := nI (j + 1)) (lv' := [(3, .int (nI (j + 1))), (2, .int 1), (0, .ref (ad 0)), (1, .int (nI i))]) hx hb dX4_stands_63 hl (k := 3) rfl (nI_1 j) (by decide) rfl (fun ls hl => ?_)
          refine lv_goto (tgt := 17) hx hb dX4_stands_66 (by decide) ?_
          exact ih (j + 1) 1 H locs ls (by omega) (by omega) (by rw [hacc] at c2; exact ((if_neg c2).trans (if_pos c3)).symm) hw (lv_sub hl [2, 3, 1, 0] rfl) kk
        · refine lv_aload_n hx hb dX4_stands_41 rfl (lv_at hl 0 rfl) ?_
          refine xr_get S hw (j := 2) (by decide) rfl rfl inX4_stands_X4 (by decide) (hts (.fieldLink RX4 79 "UnionOfficeModel" "now" "I") (by decide +kernel)) rfl dX4_stands_42 ?_
          refine lv_bipush (v := 30) hx hb dX4_stands_45 (by decide) ?_
          refine lv_iload_n hx hb dX4_stands_47 rfl (lv_at hl 3 rfl) ?_
          refine lv_iconst (v := 1) hx hb dX4_stands_48 (by decide) ?_
          refine lv_iadd hx hb dX4_stands_49 ?_
          refine lv_imul hx hb dX4_stands_50 ?_
          refine lv_bipush (v := 60) hx hb dX4_stands_51 (by decide) ?_
          refine lv_iadd hx hb dX4_stands_53 ?_
          refine lv_icmp_ge (tgt := 61) hx hb dX4_stands_54 (by decide) (fun c4 => ?_) (fun c4 => ?_)
          · refine lv_iconst (v := 0) hx hb dX4_stands_61 (by decide) ?_
            refine lv_istore_n (lv' := [(2, .int 0), (0, .ref (ad 0)), (1, .int (nI i)), (3, .int (nI j))]) hx hb dX4_stands_62 rfl hl (by decide) rfl (fun ls hl => ?_)
            refine lv_iinc (v := nI (j + 1)) (lv' := [(3, .int (nI (j + 1))), (2, .int 0), (0, .ref (ad 0)), (1, .int (nI i))]) hx hb dX4_stands_63 hl (k := 3) rfl (nI_1 j) (by decide) rfl (fun ls hl => ?_)
            refine lv_goto (tgt := 17) hx hb dX4_stands_66 (by decide) ?_
            exact ih (j + 1) 0 H locs ls (by omega) (by omega) (by rw [hacc] at c2; exact (((if_neg c2).trans (if_neg c3)).trans (if_pos c4)).symm) hw (lv_sub hl [2, 3, 1, 0] rfl) kk
          · refine lv_iconst (v := 1) hx hb dX4_stands_57 (by decide) ?_
            refine lv_goto (tgt := 62) hx hb dX4_stands_58 (by decide) ?_
            refine lv_istore_n (lv' := [(2, .int 1), (0, .ref (ad 0)), (1, .int (nI i)), (3, .int (nI j))]) hx hb dX4_stands_62 rfl hl (by decide) rfl (fun ls hl => ?_)
            refine lv_iinc (v := nI (j + 1)) (lv' := [(3, .int (nI (j + 1))), (2, .int 1), (0, .ref (ad 0)), (1, .int (nI i))]) hx hb dX4_stands_63 hl (k := 3) rfl (nI_1 j) (by decide) rfl (fun ls hl => ?_)
            refine lv_goto (tgt := 17) hx hb dX4_stands_66 (by decide) ?_
            exact ih (j + 1) 1 H locs ls (by omega) (by omega) (by rw [hacc] at c2; exact (((if_neg c2).trans (if_neg c3)).trans (if_neg c4)).symm) hw (lv_sub hl [2, 3, 1, 0] rfl) kk
abbrev rmX4_stands : Room := { frames := 0, cells := 0, slots := 0, locals := 0 }
set_option maxHeartbeats 1000000 in
set_option maxRecDepth 100000 in
/-- stands -/
theorem c_X4_stands (l : Launch) (D : va_G) (cy : Nat → ClassId) (ad : Nat → Nat) (σ : S3) (i : Nat) (hi : i < 16) : MM l yX4_stands wsX4_stands rmX4_stands D cy ad [.ref (ad 0), .int (nI i)] σ (xPi fun r u => u = σ ∧ r = stmI σ i) := by
  refine xs_M (cc := cX4_stands) (maxL := 4) (ret := (some .boolean)) (by decide +kernel) rfl (Nat.le_of_ble_eq_true rfl) ?_
  intro p e s m below meth c ls S hr hlocks hnm hw hX hl
  have S : CallFix p m c cX4_stands 4 s [.ref (ad 0), .int (nI i)].toArray wsX4_stands RX4 := S
  have hx := S.1
  have hb := S.2.1
  have hts := S.2.2.2.2
  have hl : lv_has ls 4 [(0, .ref (ad 0)), (1, .int (nI i))] := hl
  have hnm16 := nm_le σ
  have hnw18 := nw_le σ
  refine lv_aload_n hx hb dX4_stands_0 rfl (lv_at hl 0 rfl) ?_
  refine xr_get S hw (j := 8) (by decide) rfl rfl inX4_stands_X4 (by decide) (hts (.fieldLink RX4 19 "UnionOfficeModel" "hasLeft" "[Z") (by decide +kernel)) rfl dX4_stands_1 ?_
  refine lv_iload_n hx hb dX4_stands_4 rfl (lv_at hl 1 rfl) ?_
  refine xv_zald S hw (t0 := 1) (v := σ 3 i 0) (by decide) rfl rfl (by omega) (by decide) rfl dX4_stands_5 ?_
  refine lv_if_ne (tgt := 13) hx hb dX4_stands_6 (by decide) (fun c1 => ?_) (fun c1 => ?_)
  · refine lv_iconst (v := 0) hx hb dX4_stands_13 (by decide) ?_
    refine lv_istore_n (lv' := [(2, .int 0), (0, .ref (ad 0)), (1, .int (nI i))]) hx hb dX4_stands_14 rfl hl (by decide) rfl (fun ls hl => ?_)
    refine lv_iconst (v := 0) hx hb dX4_stands_15 (by decide) ?_
    refine lv_istore_n (lv' := [(3, .int 0), (2, .int 0), (0, .ref (ad 0)), (1, .int (nI i))]) hx hb dX4_stands_16 rfl hl (by decide) rfl (fun ls hl => ?_)
    refine lp_X4_stands S hi 61 0 0 _ _ ls (by omega) (by omega) (if_neg c1).symm hw (lv_sub hl [2, 3, 1, 0] rfl) (fun r H locs ls hr9 hw hl => ?_)
    refine lv_iload_n hx hb dX4_stands_69 rfl (lv_at hl 1 rfl) ?_
    exact xe_z S.1 S.2.1 hr (by rw [hr9]; exact stmI_01 _ _) hlocks hw (⟨rfl, hr9⟩) (Nat.le_of_ble_eq_true rfl) (Nat.le_of_ble_eq_true rfl) dX4_stands_70
  · refine lv_iconst (v := 1) hx hb dX4_stands_9 (by decide) ?_
    refine lv_goto (tgt := 14) hx hb dX4_stands_10 (by decide) ?_
    refine lv_istore_n (lv' := [(2, .int 1), (0, .ref (ad 0)), (1, .int (nI i))]) hx hb dX4_stands_14 rfl hl (by decide) rfl (fun ls hl => ?_)
    refine lv_iconst (v := 0) hx hb dX4_stands_15 (by decide) ?_
    refine lv_istore_n (lv' := [(3, .int 0), (2, .int 1), (0, .ref (ad 0)), (1, .int (nI i))]) hx hb dX4_stands_16 rfl hl (by decide) rfl (fun ls hl => ?_)
    refine lp_X4_stands S hi 61 0 1 _ _ ls (by omega) (by omega) (if_pos c1).symm hw (lv_sub hl [2, 3, 1, 0] rfl) (fun r H locs ls hr9 hw hl => ?_)
    refine lv_iload_n hx hb dX4_stands_69 rfl (lv_at hl 1 rfl) ?_
    exact xe_z S.1 S.2.1 hr (by rw [hr9]; exact stmI_01 _ _) hlocks hw (⟨rfl, hr9⟩) (Nat.le_of_ble_eq_true rfl) (Nat.le_of_ble_eq_true rfl) dX4_stands_70
abbrev rmX4_standing : Room := { frames := 1, cells := 0, slots := 0, locals := 23 }
theorem inX4_standing_X4 : (∀ w ∈ wsX40, w ∈ wsX4_standing) := by decide +kernel
set_option maxHeartbeats 1000000 in
set_option maxRecDepth 100000 in
theorem lp_X4_standing {p : Program} {l : Launch} {e : Env} {s : State} {m : MethodId} {args : Array Value} {below : List Frame} {meth : Method} {c : Code} {Q : State → Prop} (S : CallFix p m c cX4_standing 4 s args wsX4_standing RX4) {D : va_G} {cy : Nat → ClassId} {ad : Nat → Nat} {σ : S3} {x1 : Int32} (hX : True) : ∀ (k : Nat) (j : Nat) (acc : Int32) (H : Heap) (locs : List Loc) (ls : Array Slot), nm σ - j < k → j ≤ nm σ → acc = cntM σ x1 j → MW D cy s ad σ H locs → lv_has ls 4 [(0, .ref (ad 0)), (1, .int x1), (2, .int acc), (3, .int (nI j))] → (∀ (r : Int32) (H : Heap) (locs : List Loc) (ls : Array Slot), r = cntM σ x1 (nm σ) → MW D cy s ad σ H locs → lv_has ls 4 [(0, .ref (ad 0)), (2, .int r)] → W p l e rmX4_standing s m args below meth c H locs 0 0 Q (F0 m 44 ls [])) → W p l e rmX4_standing s m args below meth c H locs 0 0 Q (F0 m 4 ls []) := by
  have hx := S.1
  have hb := S.2.1
  have hts := S.2.2.2.2
  intro k
  induction k with
  | zero => intro j acc H locs ls hk; exact absurd hk (Nat.not_lt_zero _)
  | succ k ih =>
    intro j acc H locs ls hk hj hacc hw hl kk
    refine lv_iload_n hx hb dX4_standing_4 rfl (lv_at hl 3 rfl) ?_
    refine lv_aload_n hx hb dX4_standing_5 rfl (lv_at hl 0 rfl) ?_
    refine xr_get S hw (j := 5) (by decide) rfl rfl inX4_standing_X4 (by decide) (hts (.fieldLink RX4 72 "UnionOfficeModel" "memberMany" "I") (by decide +kernel)) rfl dX4_standing_6 ?_
    refine lv_icmp_ge (tgt := 44) hx hb dX4_standing_9 (by decide) (fun c1 => ?_) (fun c1 => ?_)
    · have hj6 : j = nm σ := by
        have := nm_le σ
        have := (nI_leI (a := nm σ) (b := j) (by omega) (by omega)).mp c1
        omega
      exact kk acc H locs ls (by rw [hacc, hj6]) hw (lv_sub hl [0, 2] rfl)
    · have hnm16 := nm_le σ
      have hj6 : j < nm σ := (lnm (by omega) (by omega)).mp c1
      refine lv_iload_n hx hb dX4_standing_12 rfl (lv_at hl 2 rfl) ?_
      refine lv_aload_n hx hb dX4_standing_13 rfl (lv_at hl 0 rfl) ?_
      refine xr_get S hw (j := 6) (by decide) rfl rfl inX4_standing_X4 (by decide) (hts (.fieldLink RX4 13 "UnionOfficeModel" "branches" "[I") (by decide +kernel)) rfl dX4_standing_14 ?_
      refine lv_iload_n hx hb dX4_standing_17 rfl (lv_at hl 3 rfl) ?_
      refine xv_iald S hw (t0 := 0) (v := nI (br σ j)) (by decide) rfl rfl (by omega) (by decide) rfl dX4_standing_18 ?_
      have hql1 := br_lt σ j
      refine lv_iload_n hx hb dX4_standing_19 rfl (lv_at hl 1 rfl) ?_
      refine lv_icmp_ne (tgt := 35) hx hb dX4_standing_20 (by decide) (fun c2 => ?_) (fun c2 => ?_)
      · refine lv_iconst (v := 0) hx hb dX4_standing_35 (by decide) ?_
        refine lv_iadd hx hb dX4_standing_36 ?_
        refine lv_istore_n (lv' := [(2, .int (acc + 0)), (0, .ref (ad 0)), (1, .int x1), (3, .int (nI j))]) hx hb dX4_standing_37 rfl hl (by decide) rfl (fun ls hl => ?_)
        refine lv_iinc (v := nI (j + 1)) (lv' := [(3, .int (nI (j + 1))), (2, .int (acc + 0)), (0, .ref (ad 0)), (1, .int x1)]) hx hb dX4_standing_38 hl (k := 3) rfl (nI_1 j) (by decide) rfl (fun ls hl => ?_)
        refine lv_goto (tgt := 4) hx hb dX4_standing_41 (by decide) ?_
        exact ih (j + 1) (acc + 0) H locs ls (by omega) (by omega) (by rw [hacc]; exact (if_neg (fun q => c2 q.1)).symm) hw (lv_sub hl [2, 3, 1, 0] rfl) kk
      · refine lv_aload_n hx hb dX4_standing_23 rfl (lv_at hl 0 rfl) ?_
        refine lv_iload_n hx hb dX4_standing_24 rfl (lv_at hl 3 rfl) ?_
        refine xc_Mi hw (va_runV (As := [.int (nI j)]) (rest := [.int acc]) S (c_X4_stands l D cy ad σ j (by omega) _) (cwV 1 S.2.2.2.2 gX4_standing_X4_stands rfl rfl rfl (by decide +kernel) ⟨Nat.le_of_ble_eq_true rfl, Nat.le_of_ble_eq_true rfl⟩) (xc_preV (XOK.tt _ _) hX hw (by decide) rfl rfl rfl) rfl rfl hl.1 rfl (lv_room (Nat.le_of_ble_eq_true rfl)) dX4_standing_25 ⟨Nat.le_of_ble_eq_true rfl, Nat.le_of_ble_eq_true rfl⟩) (fun r9 u H locs hp hw => ?_)
        obtain ⟨hu9, hr9⟩ := hp
        rw [hu9] at hw
        rw [hr9]
        clear hu9 hr9
        refine lv_if_eq (tgt := 35) hx hb dX4_standing_28 (by decide) (fun c3 => ?_) (fun c3 => ?_)
        · refine lv_iconst (v := 0) hx hb dX4_standing_35 (by decide) ?_
          refine lv_iadd hx hb dX4_standing_36 ?_
          refine lv_istore_n (lv' := [(2, .int (acc + 0)), (0, .ref (ad 0)), (1, .int x1), (3, .int (nI j))]) hx hb dX4_standing_37 rfl hl (by decide) rfl (fun ls hl => ?_)
          refine lv_iinc (v := nI (j + 1)) (lv' := [(3, .int (nI (j + 1))), (2, .int (acc + 0)), (0, .ref (ad 0)), (1, .int x1)]) hx hb dX4_standing_38 hl (k := 3) rfl (nI_1 j) (by decide) rfl (fun ls hl => ?_)
          refine lv_goto (tgt := 4) hx hb dX4_standing_41 (by decide) ?_
          exact ih (j + 1) (acc + 0) H locs ls (by omega) (by omega) (by rw [hacc]; exact (if_neg (fun q => q.2 c3)).symm) hw (lv_sub hl [2, 3, 1, 0] rfl) kk
        · refine lv_iconst (v := 1) hx hb dX4_standing_31 (by decide) ?_
          refine lv_goto (tgt := 36) hx hb dX4_standing_32 (by decide) ?_
          refine lv_iadd hx hb dX4_standing_36 ?_
          refine lv_istore_n (lv' := [(2, .int (acc + 1)), (0, .ref (ad 0)), (1, .int x1), (3, .int (nI j))]) hx hb dX4_standing_37 rfl hl (by decide) rfl (fun ls hl => ?_)
          refine lv_iinc (v := nI (j + 1)) (lv' := [(3, .int (nI (j + 1))), (2, .int (acc + 1)), (0, .ref (ad 0)), (1, .int x1)]) hx hb dX4_standing_38 hl (k := 3) rfl (nI_1 j) (by decide) rfl (fun ls hl => ?_)
          refine lv_goto (tgt := 4) hx hb dX4_standing_41 (by decide) ?_
          exact ih (j + 1) (acc + 1) H locs ls (by omega) (by omega) (by rw [hacc]; exact (if_pos ⟨c2, c3⟩).symm) hw (lv_sub hl [2, 3, 1, 0] rfl) kk
set_option maxHeartbeats 1000000 in
set_option maxRecDepth 100000 in
/-- standing -/
theorem c_X4_standing (l : Launch) (D : va_G) (cy : Nat → ClassId) (ad : Nat → Nat) (σ : S3) (x1 : Int32) : MM l yX4_standing wsX4_standing rmX4_standing D cy ad [.ref (ad 0), .int x1] σ (xPi fun r u => u = σ ∧ r = cntM σ x1 (nm σ)) := by
  refine xs_M (cc := cX4_standing) (maxL := 4) (ret := (some .int)) (by decide +kernel) rfl (Nat.le_of_ble_eq_true rfl) ?_
  intro p e s m below meth c ls S hr hlocks hnm hw hX hl
  have S : CallFix p m c cX4_standing 4 s [.ref (ad 0), .int x1].toArray wsX4_standing RX4 := S
  have hx := S.1
  have hb := S.2.1
  have hts := S.2.2.2.2
  have hl : lv_has ls 4 [(0, .ref (ad 0)), (1, .int x1)] := hl
  have hnm16 := nm_le σ
  have hnw18 := nw_le σ
  refine lv_iconst (v := 0) hx hb dX4_standing_0 (by decide) ?_
  refine lv_istore_n (lv' := [(2, .int 0), (0, .ref (ad 0)), (1, .int x1)]) hx hb dX4_standing_1 rfl hl (by decide) rfl (fun ls hl => ?_)
  refine lv_iconst (v := 0) hx hb dX4_standing_2 (by decide) ?_
  refine lv_istore_n (lv' := [(3, .int 0), (2, .int 0), (0, .ref (ad 0)), (1, .int x1)]) hx hb dX4_standing_3 rfl hl (by decide) rfl (fun ls hl => ?_)
  refine lp_X4_standing S trivial 17 0 0 _ _ ls (by omega) (by omega) rfl hw (lv_sub hl [2, 3, 1, 0] rfl) (fun r H locs ls hr9 hw hl => ?_)
  refine lv_iload_n hx hb dX4_standing_44 rfl (lv_at hl 1 rfl) ?_
  exact xe_i S.1 S.2.1 hr hlocks hw (⟨rfl, hr9⟩) (Nat.le_of_ble_eq_true rfl) (Nat.le_of_ble_eq_true rfl) dX4_standing_45
theorem inX4_owedBy_X4 : (∀ w ∈ wsX40, w ∈ wsX4_owedBy) := by decide +kernel
set_option maxHeartbeats 1000000 in
set_option maxRecDepth 100000 in
theorem lp_X4_owedBy {p : Program} {l : Launch} {e : Env} {R : Room} {s : State} {m : MethodId} {args : Array Value} {below : List Frame} {meth : Method} {c : Code} {cells slots : Nat} {Q : State → Prop} (S : CallFix p m c cX4_owedBy 4 s args wsX4_owedBy RX4) {D : va_G} {cy : Nat → ClassId} {ad : Nat → Nat} {σ : S3} {i : Nat} (hi : i < 16) : ∀ (k : Nat) (j : Nat) (acc : Int32) (H : Heap) (locs : List Loc) (ls : Array Slot), 60 - j < k → j ≤ 60 → acc = smF (σ 7 i) j → MW D cy s ad σ H locs → lv_has ls 4 [(0, .ref (ad 0)), (1, .int (nI i)), (2, .int acc), (3, .int (nI j))] → (∀ (r : Int32) (H : Heap) (locs : List Loc) (ls : Array Slot), r = owM σ i → MW D cy s ad σ H locs → lv_has ls 4 [(0, .ref (ad 0)), (2, .int r)] → W p l e R s m args below meth c H locs cells slots Q (F0 m 30 ls [])) → W p l e R s m args below meth c H locs cells slots Q (F0 m 4 ls []) := by
  have hx := S.1
  have hb := S.2.1
  have hts := S.2.2.2.2
  intro k
  induction k with
  | zero => intro j acc H locs ls hk; exact absurd hk (Nat.not_lt_zero _)
  | succ k ih =>
    intro j acc H locs ls hk hj hacc hw hl kk
    refine lv_iload_n hx hb dX4_owedBy_4 rfl (lv_at hl 3 rfl) ?_
    refine lv_bipush (v := 60) hx hb dX4_owedBy_5 (by decide) ?_
    refine lv_icmp_ge (tgt := 30) hx hb dX4_owedBy_7 (by decide) (fun c1 => ?_) (fun c1 => ?_)
    · have hj6 : j = 60 := by
        rcases Nat.lt_or_ge j 60 with q | q
        · exact absurd c1 ((lt60 (by omega)).mpr q)
        · omega
      exact kk acc H locs ls (by rw [hacc, hj6]; rfl) hw (lv_sub hl [0, 2] rfl)
    · have hj6 : j < 60 := (lt60 (by omega)).mp c1
      refine lv_iload_n hx hb dX4_owedBy_10 rfl (lv_at hl 2 rfl) ?_
      refine lv_aload_n hx hb dX4_owedBy_11 rfl (lv_at hl 0 rfl) ?_
      refine xr_get S hw (j := 12) (by decide) rfl rfl inX4_owedBy_X4 (by decide) (hts (.fieldLink RX4 32 "UnionOfficeModel" "debts" "[I") (by decide +kernel)) rfl dX4_owedBy_12 ?_
      refine lv_bipush (v := 60) hx hb dX4_owedBy_15 (by decide) ?_
      refine lv_iload_n hx hb dX4_owedBy_17 rfl (lv_at hl 1 rfl) ?_
      refine lv_imul hx hb dX4_owedBy_18 ?_
      refine lv_iload_n hx hb dX4_owedBy_19 rfl (lv_at hl 3 rfl) ?_
      refine lv_iadd hx hb dX4_owedBy_20 ?_
      rw [show ((60 * (nI i)) + (nI j)) = nI (60 * i + j) from mulN 60 i j]
      refine xv_iald S hw (t0 := 0) (v := σ 7 i j) (by decide) rfl rfl (by omega) (by decide) (fl60 _ (by omega)) dX4_owedBy_21 ?_
      refine lv_iadd hx hb dX4_owedBy_22 ?_
      refine lv_istore_n (lv' := [(2, .int (acc + (σ 7 i j))), (0, .ref (ad 0)), (1, .int (nI i)), (3, .int (nI j))]) hx hb dX4_owedBy_23 rfl hl (by decide) rfl (fun ls hl => ?_)
      refine lv_iinc (v := nI (j + 1)) (lv' := [(3, .int (nI (j + 1))), (2, .int (acc + (σ 7 i j))), (0, .ref (ad 0)), (1, .int (nI i))]) hx hb dX4_owedBy_24 hl (k := 3) rfl (nI_1 j) (by decide) rfl (fun ls hl => ?_)
      refine lv_goto (tgt := 4) hx hb dX4_owedBy_27 (by decide) ?_
      exact ih (j + 1) (acc + (σ 7 i j)) H locs ls (by omega) (by omega) (by rw [hacc]; rfl) hw (lv_sub hl [2, 3, 1, 0] rfl) kk
abbrev rmX4_owedBy : Room := { frames := 0, cells := 0, slots := 0, locals := 0 }
set_option maxHeartbeats 1000000 in
set_option maxRecDepth 100000 in
/-- owedBy -/
theorem c_X4_owedBy (l : Launch) (D : va_G) (cy : Nat → ClassId) (ad : Nat → Nat) (σ : S3) (i : Nat) (hi : i < 16) : MM l yX4_owedBy wsX4_owedBy rmX4_owedBy D cy ad [.ref (ad 0), .int (nI i)] σ (xPi fun r u => u = σ ∧ r = owM σ i) := by
  refine xs_M (cc := cX4_owedBy) (maxL := 4) (ret := (some .int)) (by decide +kernel) rfl (Nat.le_of_ble_eq_true rfl) ?_
  intro p e s m below meth c ls S hr hlocks hnm hw hX hl
  have S : CallFix p m c cX4_owedBy 4 s [.ref (ad 0), .int (nI i)].toArray wsX4_owedBy RX4 := S
  have hx := S.1
  have hb := S.2.1
  have hts := S.2.2.2.2
  have hl : lv_has ls 4 [(0, .ref (ad 0)), (1, .int (nI i))] := hl
  have hnm16 := nm_le σ
  have hnw18 := nw_le σ
  refine lv_iconst (v := 0) hx hb dX4_owedBy_0 (by decide) ?_
  refine lv_istore_n (lv' := [(2, .int 0), (0, .ref (ad 0)), (1, .int (nI i))]) hx hb dX4_owedBy_1 rfl hl (by decide) rfl (fun ls hl => ?_)
  refine lv_iconst (v := 0) hx hb dX4_owedBy_2 (by decide) ?_
  refine lv_istore_n (lv' := [(3, .int 0), (2, .int 0), (0, .ref (ad 0)), (1, .int (nI i))]) hx hb dX4_owedBy_3 rfl hl (by decide) rfl (fun ls hl => ?_)
  refine lp_X4_owedBy S hi 61 0 0 _ _ ls (by omega) (by omega) rfl hw (lv_sub hl [2, 3, 1, 0] rfl) (fun r H locs ls hr9 hw hl => ?_)
  refine lv_iload_n hx hb dX4_owedBy_30 rfl (lv_at hl 1 rfl) ?_
  exact xe_i S.1 S.2.1 hr hlocks hw (⟨rfl, hr9⟩) (Nat.le_of_ble_eq_true rfl) (Nat.le_of_ble_eq_true rfl) dX4_owedBy_31
theorem inX4_lay_X4 : (∀ w ∈ wsX40, w ∈ wsX4_lay) := by decide +kernel
set_option maxHeartbeats 1000000 in
set_option maxRecDepth 100000 in
theorem lp_X4_lay {p : Program} {l : Launch} {e : Env} {R : Room} {s : State} {m : MethodId} {args : Array Value} {below : List Frame} {meth : Method} {c : Code} {cells slots : Nat} {Q : State → Prop} (S : CallFix p m c cX4_lay 5 s args wsX4_lay RX4) {D : va_G} {cy : Nat → ClassId} {ad : Nat → Nat} {σ : S3} {i : Nat} (hi : i < 16) : ∀ (k : Nat) (j : Nat) (τ : S3) (H : Heap) (locs : List Loc) (ls : Array Slot), 60 - j < k → j ≤ 60 → τ = mlF σ i j → MW D cy s ad τ H locs → lv_has ls 5 [(0, .ref (ad 0)), (1, .int (nI i)), (2, .int (nI j))] → (∀ (H : Heap) (locs : List Loc) (ls : Array Slot), MW D cy s ad (mlA σ i) H locs → lv_has ls 5 [(0, .ref (ad 0))] → W p l e R s m args below meth c H locs cells slots Q (F0 m 120 ls [])) → W p l e R s m args below meth c H locs cells slots Q (F0 m 2 ls []) := by
  have hx := S.1
  have hb := S.2.1
  have hts := S.2.2.2.2
  intro k
  induction k with
  | zero => intro j τ H locs ls hk; exact absurd hk (Nat.not_lt_zero _)
  | succ k ih =>
    intro j τ H locs ls hk hj hτ hw hl kk
    refine lv_iload_n hx hb dX4_lay_2 rfl (lv_at hl 2 rfl) ?_
    refine lv_bipush (v := 60) hx hb dX4_lay_3 (by decide) ?_
    refine lv_icmp_ge (tgt := 120) hx hb dX4_lay_5 (by decide) (fun c1 => ?_) (fun c1 => ?_)
    · have hj6 : j = 60 := by
        rcases Nat.lt_or_ge j 60 with q | q
        · exact absurd c1 ((lt60 (by omega)).mpr q)
        · omega
      exact kk H locs ls (by unfold mlA; rw [← hj6, ← hτ]; exact hw) (lv_sub hl [0] rfl)
    · have hj6 : j < 60 := (lt60 (by omega)).mp c1
      refine lv_bipush (v := 60) hx hb dX4_lay_8 (by decide) ?_
      refine lv_iload_n hx hb dX4_lay_10 rfl (lv_at hl 1 rfl) ?_
      refine lv_imul hx hb dX4_lay_11 ?_
      refine lv_iload_n hx hb dX4_lay_12 rfl (lv_at hl 2 rfl) ?_
      refine lv_iadd hx hb dX4_lay_13 ?_
      rw [show ((60 * (nI i)) + (nI j)) = nI (60 * i + j) from mulN 60 i j]
      refine lv_istore_n (lv' := [(3, .int (nI (60 * i + j))), (0, .ref (ad 0)), (1, .int (nI i)), (2, .int (nI j))]) hx hb dX4_lay_14 rfl hl (by decide) rfl (fun ls hl => ?_)
      refine lv_aload_n hx hb dX4_lay_15 rfl (lv_at hl 1 rfl) ?_
      refine xr_get S hw (j := 10) (by decide) rfl rfl inX4_lay_X4 (by decide) (hts (.fieldLink RX4 26 "UnionOfficeModel" "credits" "[I") (by decide +kernel)) rfl dX4_lay_16 ?_
      refine lv_iload_n hx hb dX4_lay_19 rfl (lv_at hl 2 rfl) ?_
      refine xv_iald S hw (t0 := 0) (v := τ 5 i 0) (by decide) rfl rfl (by omega) (by decide) rfl dX4_lay_20 ?_
      refine lv_aload_n hx hb dX4_lay_21 rfl (lv_at hl 1 rfl) ?_
      refine xr_get S hw (j := 12) (by decide) rfl rfl inX4_lay_X4 (by decide) (hts (.fieldLink RX4 32 "UnionOfficeModel" "debts" "[I") (by decide +kernel)) rfl dX4_lay_22 ?_
      refine lv_iload_n hx hb dX4_lay_25 rfl (lv_at hl 0 rfl) ?_
      refine xv_iald S hw (t0 := 0) (v := τ 7 i j) (by decide) rfl rfl (by omega) (by decide) (fl60 _ (by omega)) dX4_lay_26 ?_
      refine lv_icmp_ge (tgt := 39) hx hb dX4_lay_27 (by decide) (fun c2 => ?_) (fun c2 => ?_)
      · refine lv_aload_n hx hb dX4_lay_39 rfl (lv_at hl 1 rfl) ?_
        refine xr_get S hw (j := 12) (by decide) rfl rfl inX4_lay_X4 (by decide) (hts (.fieldLink RX4 32 "UnionOfficeModel" "debts" "[I") (by decide +kernel)) rfl dX4_lay_40 ?_
        refine lv_iload_n hx hb dX4_lay_43 rfl (lv_at hl 0 rfl) ?_
        refine xv_iald S hw (t0 := 0) (v := τ 7 i j) (by decide) rfl rfl (by omega) (by decide) (fl60 _ (by omega)) dX4_lay_44 ?_
        refine lv_istore (lv' := [(4, .int (τ 7 i j)), (3, .int (nI (60 * i + j))), (0, .ref (ad 0)), (1, .int (nI i)), (2, .int (nI j))]) hx hb dX4_lay_45 hl (by decide) rfl (fun ls hl => ?_)
        have hq : τ 7 i j = imc (τ 5 i 0) (τ 7 i j) := (if_pos c2).symm
        rw [hq] at hl
        refine lv_aload_n hx hb dX4_lay_47 rfl (lv_at hl 2 rfl) ?_
        refine xr_get S hw (j := 10) (by decide) rfl rfl inX4_lay_X4 (by decide) (hts (.fieldLink RX4 26 "UnionOfficeModel" "credits" "[I") (by decide +kernel)) rfl dX4_lay_48 ?_
        refine lv_iload_n hx hb dX4_lay_51 rfl (lv_at hl 3 rfl) ?_
        refine lv_dup2_11 hx hb dX4_lay_52 rfl rfl ?_
        refine xv_iald S hw (t0 := 0) (v := τ 5 i 0) (by decide) rfl rfl (by omega) (by decide) rfl dX4_lay_53 ?_
        refine lv_iload hx hb dX4_lay_54 (lv_at hl 0 rfl) ?_
        refine lv_isub hx hb dX4_lay_56 ?_
        obtain ⟨σ1, hσ1⟩ : ∃ y : S3, y = su τ 5 i 0 ((τ 5 i 0) - (imc (τ 5 i 0) (τ 7 i j))) := ⟨_, rfl⟩
        refine xn_iast S hw (t0 := 0) (by decide) rfl rfl (by omega) (by decide) dX4_lay_57 (mE cy ad σ1) (by rw [hσ1]; exact mu_credits _ _ _ i _) (fun H locs hw => ?_)
        refine lv_aload_n hx hb dX4_lay_58 rfl (lv_at hl 2 rfl) ?_
        refine xr_get S hw (j := 12) (by decide) rfl rfl inX4_lay_X4 (by decide) (hts (.fieldLink RX4 32 "UnionOfficeModel" "debts" "[I") (by decide +kernel)) rfl dX4_lay_59 ?_
        refine lv_iload_n hx hb dX4_lay_62 rfl (lv_at hl 1 rfl) ?_
        refine lv_dup2_11 hx hb dX4_lay_63 rfl rfl ?_
        refine xv_iald S hw (t0 := 0) (v := σ1 7 i j) (by decide) rfl rfl (by omega) (by decide) (fl60 _ (by omega)) dX4_lay_64 ?_
        refine lv_iload hx hb dX4_lay_65 (lv_at hl 0 rfl) ?_
        refine lv_isub hx hb dX4_lay_67 ?_
        obtain ⟨σ2, hσ2⟩ : ∃ y : S3, y = su σ1 7 i j ((σ1 7 i j) - (imc (τ 5 i 0) (τ 7 i j))) := ⟨_, rfl⟩
        refine xn_iast S hw (t0 := 0) (by decide) rfl rfl (by omega) (by decide) dX4_lay_68 (mE cy ad σ2) (by rw [hσ2]; exact mu_debts _ _ _ i (by omega) _) (fun H locs hw => ?_)
        refine lv_aload_n hx hb dX4_lay_69 rfl (lv_at hl 2 rfl) ?_
        refine xr_get S hw (j := 13) (by decide) rfl rfl inX4_lay_X4 (by decide) (hts (.fieldLink RX4 35 "UnionOfficeModel" "laidBy" "[I") (by decide +kernel)) rfl dX4_lay_70 ?_
        refine lv_iload_n hx hb dX4_lay_73 rfl (lv_at hl 1 rfl) ?_
        refine lv_dup2_11 hx hb dX4_lay_74 rfl rfl ?_
        refine xv_iald S hw (t0 := 0) (v := σ2 8 i j) (by decide) rfl rfl (by omega) (by decide) (fl60 _ (by omega)) dX4_lay_75 ?_
        refine lv_iload hx hb dX4_lay_76 (lv_at hl 0 rfl) ?_
        refine lv_iadd hx hb dX4_lay_78 ?_
        obtain ⟨σ3, hσ3⟩ : ∃ y : S3, y = su σ2 8 i j ((σ2 8 i j) + (imc (τ 5 i 0) (τ 7 i j))) := ⟨_, rfl⟩
        refine xn_iast S hw (t0 := 0) (by decide) rfl rfl (by omega) (by decide) dX4_lay_79 (mE cy ad σ3) (by rw [hσ3]; exact mu_laidBy _ _ _ i (by omega) _) (fun H locs hw => ?_)
        refine lv_aload_n hx hb dX4_lay_80 rfl (lv_at hl 2 rfl) ?_
        refine xr_get S hw (j := 14) (by decide) rfl rfl inX4_lay_X4 (by decide) (hts (.fieldLink RX4 38 "UnionOfficeModel" "laidOf" "[I") (by decide +kernel)) rfl dX4_lay_81 ?_
        refine lv_bipush (v := 60) hx hb dX4_lay_84 (by decide) ?_
        refine lv_aload_n hx hb dX4_lay_86 rfl (lv_at hl 2 rfl) ?_
        refine xr_get S hw (j := 6) (by decide) rfl rfl inX4_lay_X4 (by decide) (hts (.fieldLink RX4 13 "UnionOfficeModel" "branches" "[I") (by decide +kernel)) rfl dX4_lay_87 ?_
        refine lv_iload_n hx hb dX4_lay_90 rfl (lv_at hl 3 rfl) ?_
        refine xv_iald S hw (t0 := 0) (v := nI (br σ3 i)) (by decide) rfl rfl (by omega) (by decide) rfl dX4_lay_91 ?_
        have hql1 := br_lt σ3 i
        refine lv_imul hx hb dX4_lay_92 ?_
        refine lv_iload_n hx hb dX4_lay_93 rfl (lv_at hl 4 rfl) ?_
        refine lv_iadd hx hb dX4_lay_94 ?_
        rw [show ((60 * (nI (br σ3 i))) + (nI j)) = nI (60 * (br σ3 i) + j) from mulN 60 (br σ3 i) j]
        refine lv_dup2_11 hx hb dX4_lay_95 rfl rfl ?_
        refine xv_iald S hw (t0 := 0) (v := σ3 9 (br σ3 i) j) (by decide) rfl rfl (by omega) (by decide) (fl60 _ (by omega)) dX4_lay_96 ?_
        refine lv_iload hx hb dX4_lay_97 (lv_at hl 0 rfl) ?_
        refine lv_iadd hx hb dX4_lay_99 ?_
        obtain ⟨σ4, hσ4⟩ : ∃ y : S3, y = su σ3 9 (br σ3 i) j ((σ3 9 (br σ3 i) j) + (imc (τ 5 i 0) (τ 7 i j))) := ⟨_, rfl⟩
        refine xn_iast S hw (t0 := 0) (by decide) rfl rfl (by omega) (by decide) dX4_lay_100 (mE cy ad σ4) (by rw [hσ4]; exact mu_laidOf _ _ _ (br σ3 i) (by omega) _) (fun H locs hw => ?_)
        refine lv_aload_n hx hb dX4_lay_101 rfl (lv_at hl 2 rfl) ?_
        refine lv_dup hx hb dX4_lay_102 rfl ?_
        refine xr_get S hw (j := 3) (by decide) rfl rfl inX4_lay_X4 (by decide) (hts (.fieldLink RX4 100 "UnionOfficeModel" "money" "I") (by decide +kernel)) rfl dX4_lay_103 ?_
        refine lv_iload hx hb dX4_lay_106 (lv_at hl 0 rfl) ?_
        refine lv_iconst (v := 5) hx hb dX4_lay_108 (by decide) ?_
        refine lv_idiv hx hb dX4_lay_109 (by decide) ?_
        refine lv_iadd hx hb dX4_lay_110 ?_
        obtain ⟨σ5, hσ5⟩ : ∃ y : S3, y = su σ4 19 0 0 ((σ4 19 0 0) + ((imc (τ 5 i 0) (τ 7 i j)) / 5)) := ⟨_, rfl⟩
        refine xr_put S hw tyX4 tyX4_ok nmX4 (j := 3) (by decide) rfl rfl inX4_lay_X4 (by decide) (hts (.fieldLink RX4 100 "UnionOfficeModel" "money" "I") (by decide +kernel)) rfl (tyX4_ok 3 (by decide)) rfl rfl (Nat.le_of_ble_eq_true rfl) dX4_lay_111 (mE cy ad σ5) (by rw [hσ5]; exact mu_money _ _ _ _) (fun H locs hw => ?_)
        refine lv_iinc (v := nI (j + 1)) (lv' := [(2, .int (nI (j + 1))), (4, .int (imc (τ 5 i 0) (τ 7 i j))), (3, .int (nI (60 * i + j))), (0, .ref (ad 0)), (1, .int (nI i))]) hx hb dX4_lay_114 hl (k := 4) rfl (nI_1 j) (by decide) rfl (fun ls hl => ?_)
        refine lv_goto (tgt := 2) hx hb dX4_lay_117 (by decide) ?_
        have he1 : σ5 = mlS τ i j := by
          rw [hσ5, hσ4, hσ3, hσ2, hσ1]
          simp [mlS, su, br]
        exact ih (j + 1) σ5 H locs ls (by omega) (by omega) (by rw [he1, hτ]; rfl) hw (lv_sub hl [3, 4, 0] rfl) kk
      · refine lv_aload_n hx hb dX4_lay_30 rfl (lv_at hl 1 rfl) ?_
        refine xr_get S hw (j := 10) (by decide) rfl rfl inX4_lay_X4 (by decide) (hts (.fieldLink RX4 26 "UnionOfficeModel" "credits" "[I") (by decide +kernel)) rfl dX4_lay_31 ?_
        refine lv_iload_n hx hb dX4_lay_34 rfl (lv_at hl 2 rfl) ?_
        refine xv_iald S hw (t0 := 0) (v := τ 5 i 0) (by decide) rfl rfl (by omega) (by decide) rfl dX4_lay_35 ?_
        refine lv_goto (tgt := 45) hx hb dX4_lay_36 (by decide) ?_
        refine lv_istore (lv' := [(4, .int (τ 5 i 0)), (3, .int (nI (60 * i + j))), (0, .ref (ad 0)), (1, .int (nI i)), (2, .int (nI j))]) hx hb dX4_lay_45 hl (by decide) rfl (fun ls hl => ?_)
        have hq : τ 5 i 0 = imc (τ 5 i 0) (τ 7 i j) := (if_neg c2).symm
        rw [hq] at hl
        refine lv_aload_n hx hb dX4_lay_47 rfl (lv_at hl 2 rfl) ?_
        refine xr_get S hw (j := 10) (by decide) rfl rfl inX4_lay_X4 (by decide) (hts (.fieldLink RX4 26 "UnionOfficeModel" "credits" "[I") (by decide +kernel)) rfl dX4_lay_48 ?_
        refine lv_iload_n hx hb dX4_lay_51 rfl (lv_at hl 3 rfl) ?_
        refine lv_dup2_11 hx hb dX4_lay_52 rfl rfl ?_
        refine xv_iald S hw (t0 := 0) (v := τ 5 i 0) (by decide) rfl rfl (by omega) (by decide) rfl dX4_lay_53 ?_
        refine lv_iload hx hb dX4_lay_54 (lv_at hl 0 rfl) ?_
        refine lv_isub hx hb dX4_lay_56 ?_
        obtain ⟨σ6, hσ6⟩ : ∃ y : S3, y = su τ 5 i 0 ((τ 5 i 0) - (imc (τ 5 i 0) (τ 7 i j))) := ⟨_, rfl⟩
        refine xn_iast S hw (t0 := 0) (by decide) rfl rfl (by omega) (by decide) dX4_lay_57 (mE cy ad σ6) (by rw [hσ6]; exact mu_credits _ _ _ i _) (fun H locs hw => ?_)
        refine lv_aload_n hx hb dX4_lay_58 rfl (lv_at hl 2 rfl) ?_
        refine xr_get S hw (j := 12) (by decide) rfl rfl inX4_lay_X4 (by decide) (hts (.fieldLink RX4 32 "UnionOfficeModel" "debts" "[I") (by decide +kernel)) rfl dX4_lay_59 ?_
        refine lv_iload_n hx hb dX4_lay_62 rfl (lv_at hl 1 rfl) ?_
        refine lv_dup2_11 hx hb dX4_lay_63 rfl rfl ?_
        refine xv_iald S hw (t0 := 0) (v := σ6 7 i j) (by decide) rfl rfl (by omega) (by decide) (fl60 _ (by omega)) dX4_lay_64 ?_
        refine lv_iload hx hb dX4_lay_65 (lv_at hl 0 rfl) ?_
        refine lv_isub hx hb dX4_lay_67 ?_
        obtain ⟨σ7, hσ7⟩ : ∃ y : S3, y = su σ6 7 i j ((σ6 7 i j) - (imc (τ 5 i 0) (τ 7 i j))) := ⟨_, rfl⟩
        refine xn_iast S hw (t0 := 0) (by decide) rfl rfl (by omega) (by decide) dX4_lay_68 (mE cy ad σ7) (by rw [hσ7]; exact mu_debts _ _ _ i (by omega) _) (fun H locs hw => ?_)
        refine lv_aload_n hx hb dX4_lay_69 rfl (lv_at hl 2 rfl) ?_
        refine xr_get S hw (j := 13) (by decide) rfl rfl inX4_lay_X4 (by decide) (hts (.fieldLink RX4 35 "UnionOfficeModel" "laidBy" "[I") (by decide +kernel)) rfl dX4_lay_70 ?_
        refine lv_iload_n hx hb dX4_lay_73 rfl (lv_at hl 1 rfl) ?_
        refine lv_dup2_11 hx hb dX4_lay_74 rfl rfl ?_
        refine xv_iald S hw (t0 := 0) (v := σ7 8 i j) (by decide) rfl rfl (by omega) (by decide) (fl60 _ (by omega)) dX4_lay_75 ?_
        refine lv_iload hx hb dX4_lay_76 (lv_at hl 0 rfl) ?_
        refine lv_iadd hx hb dX4_lay_78 ?_
        obtain ⟨σ8, hσ8⟩ : ∃ y : S3, y = su σ7 8 i j ((σ7 8 i j) + (imc (τ 5 i 0) (τ 7 i j))) := ⟨_, rfl⟩
        refine xn_iast S hw (t0 := 0) (by decide) rfl rfl (by omega) (by decide) dX4_lay_79 (mE cy ad σ8) (by rw [hσ8]; exact mu_laidBy _ _ _ i (by omega) _) (fun H locs hw => ?_)
        refine lv_aload_n hx hb dX4_lay_80 rfl (lv_at hl 2 rfl) ?_
        refine xr_get S hw (j := 14) (by decide) rfl rfl inX4_lay_X4 (by decide) (hts (.fieldLink RX4 38 "UnionOfficeModel" "laidOf" "[I") (by decide +kernel)) rfl dX4_lay_81 ?_
        refine lv_bipush (v := 60) hx hb dX4_lay_84 (by decide) ?_
        refine lv_aload_n hx hb dX4_lay_86 rfl (lv_at hl 2 rfl) ?_
        refine xr_get S hw (j := 6) (by decide) rfl rfl inX4_lay_X4 (by decide) (hts (.fieldLink RX4 13 "UnionOfficeModel" "branches" "[I") (by decide +kernel)) rfl dX4_lay_87 ?_
        refine lv_iload_n hx hb dX4_lay_90 rfl (lv_at hl 3 rfl) ?_
        refine xv_iald S hw (t0 := 0) (v := nI (br σ8 i)) (by decide) rfl rfl (by omega) (by decide) rfl dX4_lay_91 ?_
        have hql2 := br_lt σ8 i
        refine lv_imul hx hb dX4_lay_92 ?_
        refine lv_iload_n hx hb dX4_lay_93 rfl (lv_at hl 4 rfl) ?_
        refine lv_iadd hx hb dX4_lay_94 ?_
        rw [show ((60 * (nI (br σ8 i))) + (nI j)) = nI (60 * (br σ8 i) + j) from mulN 60 (br σ8 i) j]
        refine lv_dup2_11 hx hb dX4_lay_95 rfl rfl ?_
        refine xv_iald S hw (t0 := 0) (v := σ8 9 (br σ8 i) j) (by decide) rfl rfl (by omega) (by decide) (fl60 _ (by omega)) dX4_lay_96 ?_
        refine lv_iload hx hb dX4_lay_97 (lv_at hl 0 rfl) ?_
        refine lv_iadd hx hb dX4_lay_99 ?_
        obtain ⟨σ9, hσ9⟩ : ∃ y : S3, y = su σ8 9 (br σ8 i) j ((σ8 9 (br σ8 i) j) + (imc (τ 5 i 0) (τ 7 i j))) := ⟨_, rfl⟩
        refine xn_iast S hw (t0 := 0) (by decide) rfl rfl (by omega) (by decide) dX4_lay_100 (mE cy ad σ9) (by rw [hσ9]; exact mu_laidOf _ _ _ (br σ8 i) (by omega) _) (fun H locs hw => ?_)
        refine lv_aload_n hx hb dX4_lay_101 rfl (lv_at hl 2 rfl) ?_
        refine lv_dup hx hb dX4_lay_102 rfl ?_
        refine xr_get S hw (j := 3) (by decide) rfl rfl inX4_lay_X4 (by decide) (hts (.fieldLink RX4 100 "UnionOfficeModel" "money" "I") (by decide +kernel)) rfl dX4_lay_103 ?_
        refine lv_iload hx hb dX4_lay_106 (lv_at hl 0 rfl) ?_
        refine lv_iconst (v := 5) hx hb dX4_lay_108 (by decide) ?_
        refine lv_idiv hx hb dX4_lay_109 (by decide) ?_
        refine lv_iadd hx hb dX4_lay_110 ?_
        obtain ⟨σ10, hσ10⟩ : ∃ y : S3, y = su σ9 19 0 0 ((σ9 19 0 0) + ((imc (τ 5 i 0) (τ 7 i j)) / 5)) := ⟨_, rfl⟩
        refine xr_put S hw tyX4 tyX4_ok nmX4 (j := 3) (by decide) rfl rfl inX4_lay_X4 (by decide) (hts (.fieldLink RX4 100 "UnionOfficeModel" "money" "I") (by decide +kernel)) rfl (tyX4_ok 3 (by decide)) rfl rfl (Nat.le_of_ble_eq_true rfl) dX4_lay_111 (mE cy ad σ10) (by rw [hσ10]; exact mu_money _ _ _ _) (fun H locs hw => ?_)
        refine lv_iinc (v := nI (j + 1)) (lv' := [(2, .int (nI (j + 1))), (4, .int (imc (τ 5 i 0) (τ 7 i j))), (3, .int (nI (60 * i + j))), (0, .ref (ad 0)), (1, .int (nI i))]) hx hb dX4_lay_114 hl (k := 4) rfl (nI_1 j) (by decide) rfl (fun ls hl => ?_)
        refine lv_goto (tgt := 2) hx hb dX4_lay_117 (by decide) ?_
        have he1 : σ10 = mlS τ i j := by
          rw [hσ10, hσ9, hσ8, hσ7, hσ6]
          simp [mlS, su, br]
        exact ih (j + 1) σ10 H locs ls (by omega) (by omega) (by rw [he1, hτ]; rfl) hw (lv_sub hl [3, 4, 0] rfl) kk
abbrev rmX4_lay : Room := { frames := 0, cells := 0, slots := 0, locals := 0 }
set_option maxHeartbeats 1000000 in
set_option maxRecDepth 100000 in
/-- lay -/
theorem c_X4_lay (l : Launch) (D : va_G) (cy : Nat → ClassId) (ad : Nat → Nat) (σ : S3) (i : Nat) (hi : i < 16) : MM l yX4_lay wsX4_lay rmX4_lay D cy ad [.ref (ad 0), .int (nI i)] σ (xPv fun u => u = mlA σ i) := by
  refine xs_M (cc := cX4_lay) (maxL := 5) (ret := none) (by decide +kernel) rfl (Nat.le_of_ble_eq_true rfl) ?_
  intro p e s m below meth c ls S hr hlocks hnm hw hX hl
  have S : CallFix p m c cX4_lay 5 s [.ref (ad 0), .int (nI i)].toArray wsX4_lay RX4 := S
  have hx := S.1
  have hb := S.2.1
  have hts := S.2.2.2.2
  have hl : lv_has ls 5 [(0, .ref (ad 0)), (1, .int (nI i))] := hl
  have hnm16 := nm_le σ
  have hnw18 := nw_le σ
  refine lv_iconst (v := 0) hx hb dX4_lay_0 (by decide) ?_
  refine lv_istore_n (lv' := [(2, .int 0), (0, .ref (ad 0)), (1, .int (nI i))]) hx hb dX4_lay_1 rfl hl (by decide) rfl (fun ls hl => ?_)
  refine lp_X4_lay S hi 61 0 σ _ _ ls (by omega) (by omega) rfl hw (lv_sub hl [1, 2, 0] rfl) (fun H locs ls hw hl => ?_)
  exact xe_v S.1 S.2.1 hr hlocks hw (rfl) (Nat.le_of_ble_eq_true rfl) (Nat.le_of_ble_eq_true rfl) dX4_lay_120
abbrev rmX4_payStrikes : Room := { frames := 1, cells := 0, slots := 0, locals := 23 }
abbrev psP (σ : S3) (j : Nat) : Prop := ¬ σ 14 (br σ j) 0 = 0 ∧ ¬ stmI σ j = 0 ∧ ¬ σ 19 0 0 < σ 17 0 0
def psS (σ : S3) (j : Nat) : S3 := if psP σ j then su (su σ 19 0 0 (σ 19 0 0 - σ 17 0 0)) 6 j 0 (σ 6 j 0 + σ 17 0 0) else σ
def psF (σ : S3) : Nat → S3
  | 0 => σ
  | j + 1 => psS (psF σ j) j
theorem nm_psS (σ : S3) (j : Nat) : nm (psS σ j) = nm σ := by
  unfold psS
  split
  · rw [nm_suk (by decide), nm_suk (by decide)]
  · rfl
theorem nw_psS (σ : S3) (j : Nat) : nw (psS σ j) = nw σ := by
  unfold psS
  split
  · rw [nw_suk (by decide), nw_suk (by decide)]
  · rfl
theorem nm_psF (σ : S3) : ∀ j, nm (psF σ j) = nm σ
  | 0 => rfl
  | j + 1 => (nm_psS _ _).trans (nm_psF σ j)
theorem nw_psF (σ : S3) : ∀ j, nw (psF σ j) = nw σ
  | 0 => rfl
  | j + 1 => (nw_psS _ _).trans (nw_psF σ j)
theorem inX4_payStrikes_X4 : (∀ w ∈ wsX40, w ∈ wsX4_payStrikes) := by decide +kernel
set_option maxHeartbeats 1000000 in
set_option maxRecDepth 100000 in
theorem lp_X4_payStrikes {p : Program} {l : Launch} {e : Env} {s : State} {m : MethodId} {args : Array Value} {below : List Frame} {meth : Method} {c : Code} {Q : State → Prop} (S : CallFix p m c cX4_payStrikes 2 s args wsX4_payStrikes RX4) {D : va_G} {cy : Nat → ClassId} {ad : Nat → Nat} {σ : S3} (hX : True) (hnmσ : nm σ ≤ 16) : ∀ (k : Nat) (j : Nat) (τ : S3) (H : Heap) (locs : List Loc) (ls : Array Slot), nm σ - j < k → j ≤ nm σ → τ = psF σ j → MW D cy s ad τ H locs → lv_has ls 2 [(0, .ref (ad 0)), (1, .int (nI j))] → (∀ (H : Heap) (locs : List Loc) (ls : Array Slot), MW D cy s ad (psF σ (nm σ)) H locs → lv_has ls 2 [(0, .ref (ad 0))] → W p l e rmX4_payStrikes s m args below meth c H locs 0 0 Q (F0 m 75 ls [])) → W p l e rmX4_payStrikes s m args below meth c H locs 0 0 Q (F0 m 2 ls []) := by
  have hx := S.1
  have hb := S.2.1
  have hts := S.2.2.2.2
  intro k
  induction k with
  | zero => intro j τ H locs ls hk; exact absurd hk (Nat.not_lt_zero _)
  | succ k ih =>
    intro j τ H locs ls hk hj hτ hw hl kk
    refine lv_iload_n hx hb dX4_payStrikes_2 rfl (lv_at hl 1 rfl) ?_
    refine lv_aload_n hx hb dX4_payStrikes_3 rfl (lv_at hl 0 rfl) ?_
    refine xr_get S hw (j := 5) (by decide) rfl rfl inX4_payStrikes_X4 (by decide) (hts (.fieldLink RX4 72 "UnionOfficeModel" "memberMany" "I") (by decide +kernel)) rfl dX4_payStrikes_4 ?_
    refine lv_icmp_ge (tgt := 75) hx hb dX4_payStrikes_7 (by decide) (fun c1 => ?_) (fun c1 => ?_)
    · have hj6 : j = nm σ := by
        have := nm_le τ
        have hq := (nI_leI (a := nm τ) (b := j) (by omega) (by omega)).mp c1
        rw [hτ, nm_psF] at hq
        omega
      exact kk H locs ls (by rw [← hj6, ← hτ]; exact hw) (lv_sub hl [0] rfl)
    · have hnm16 := nm_le τ
      have hnmτ : nm τ = nm σ := by rw [hτ, nm_psF]
      have hj6 : j < nm τ := (lnm (by omega) (by omega)).mp c1
      refine lv_aload_n hx hb dX4_payStrikes_10 rfl (lv_at hl 0 rfl) ?_
      refine xr_get S hw (j := 19) (by decide) rfl rfl inX4_payStrikes_X4 (by decide) (hts (.fieldLink RX4 53 "UnionOfficeModel" "isStriking" "[Z") (by decide +kernel)) rfl dX4_payStrikes_11 ?_
      refine lv_aload_n hx hb dX4_payStrikes_14 rfl (lv_at hl 0 rfl) ?_
      refine xr_get S hw (j := 6) (by decide) rfl rfl inX4_payStrikes_X4 (by decide) (hts (.fieldLink RX4 13 "UnionOfficeModel" "branches" "[I") (by decide +kernel)) rfl dX4_payStrikes_15 ?_
      refine lv_iload_n hx hb dX4_payStrikes_18 rfl (lv_at hl 1 rfl) ?_
      refine xv_iald S hw (t0 := 0) (v := nI (br τ j)) (by decide) rfl rfl (by omega) (by decide) rfl dX4_payStrikes_19 ?_
      have hql1 := br_lt τ j
      refine xv_zald S hw (t0 := 1) (v := τ 14 (br τ j) 0) (by decide) rfl rfl (by omega) (by decide) rfl dX4_payStrikes_20 ?_
      refine lv_if_eq (tgt := 69) hx hb dX4_payStrikes_21 (by decide) (fun c2 => ?_) (fun c2 => ?_)
      · refine lv_iinc (v := nI (j + 1)) (lv' := [(1, .int (nI (j + 1))), (0, .ref (ad 0))]) hx hb dX4_payStrikes_69 hl (k := 1) rfl (nI_1 j) (by decide) rfl (fun ls hl => ?_)
        refine lv_goto (tgt := 2) hx hb dX4_payStrikes_72 (by decide) ?_
        exact ih (j + 1) τ H locs ls (by omega) (by omega) (by show _ = psS (psF σ j) j; rw [← hτ]; exact (if_neg (fun q => q.1 c2)).symm) hw (lv_sub hl [1, 0] rfl) kk
      · refine lv_aload_n hx hb dX4_payStrikes_24 rfl (lv_at hl 0 rfl) ?_
        refine lv_iload_n hx hb dX4_payStrikes_25 rfl (lv_at hl 1 rfl) ?_
        refine xc_Mi hw (va_runV (As := [.int (nI j)]) (rest := []) S (c_X4_stands l D cy ad τ j (by omega) _) (cwV 1 S.2.2.2.2 gX4_payStrikes_X4_stands rfl rfl rfl (by decide +kernel) ⟨Nat.le_of_ble_eq_true rfl, Nat.le_of_ble_eq_true rfl⟩) (xc_preV (XOK.tt _ _) hX hw (by decide) rfl rfl rfl) rfl rfl hl.1 rfl (lv_room (Nat.le_of_ble_eq_true rfl)) dX4_payStrikes_26 ⟨Nat.le_of_ble_eq_true rfl, Nat.le_of_ble_eq_true rfl⟩) (fun r9 u H locs hp hw => ?_)
        obtain ⟨hu9, hr9⟩ := hp
        rw [hu9] at hw
        rw [hr9]
        clear hu9 hr9
        refine lv_if_eq (tgt := 69) hx hb dX4_payStrikes_29 (by decide) (fun c3 => ?_) (fun c3 => ?_)
        · refine lv_iinc (v := nI (j + 1)) (lv' := [(1, .int (nI (j + 1))), (0, .ref (ad 0))]) hx hb dX4_payStrikes_69 hl (k := 1) rfl (nI_1 j) (by decide) rfl (fun ls hl => ?_)
          refine lv_goto (tgt := 2) hx hb dX4_payStrikes_72 (by decide) ?_
          exact ih (j + 1) τ H locs ls (by omega) (by omega) (by show _ = psS (psF σ j) j; rw [← hτ]; exact (if_neg (fun q => q.2.1 c3)).symm) hw (lv_sub hl [1, 0] rfl) kk
        · refine lv_aload_n hx hb dX4_payStrikes_32 rfl (lv_at hl 0 rfl) ?_
          refine xr_get S hw (j := 3) (by decide) rfl rfl inX4_payStrikes_X4 (by decide) (hts (.fieldLink RX4 100 "UnionOfficeModel" "money" "I") (by decide +kernel)) rfl dX4_payStrikes_33 ?_
          refine lv_aload_n hx hb dX4_payStrikes_36 rfl (lv_at hl 0 rfl) ?_
          refine xr_get S hw (j := 1) (by decide) rfl rfl inX4_payStrikes_X4 (by decide) (hts (.fieldLink RX4 62 "UnionOfficeModel" "pay" "I") (by decide +kernel)) rfl dX4_payStrikes_37 ?_
          refine lv_icmp_lt (tgt := 69) hx hb dX4_payStrikes_40 (by decide) (fun c4 => ?_) (fun c4 => ?_)
          · refine lv_iinc (v := nI (j + 1)) (lv' := [(1, .int (nI (j + 1))), (0, .ref (ad 0))]) hx hb dX4_payStrikes_69 hl (k := 1) rfl (nI_1 j) (by decide) rfl (fun ls hl => ?_)
            refine lv_goto (tgt := 2) hx hb dX4_payStrikes_72 (by decide) ?_
            exact ih (j + 1) τ H locs ls (by omega) (by omega) (by show _ = psS (psF σ j) j; rw [← hτ]; exact (if_neg (fun q => q.2.2 c4)).symm) hw (lv_sub hl [1, 0] rfl) kk
          · refine lv_aload_n hx hb dX4_payStrikes_43 rfl (lv_at hl 0 rfl) ?_
            refine lv_dup hx hb dX4_payStrikes_44 rfl ?_
            refine xr_get S hw (j := 3) (by decide) rfl rfl inX4_payStrikes_X4 (by decide) (hts (.fieldLink RX4 100 "UnionOfficeModel" "money" "I") (by decide +kernel)) rfl dX4_payStrikes_45 ?_
            refine lv_aload_n hx hb dX4_payStrikes_48 rfl (lv_at hl 0 rfl) ?_
            refine xr_get S hw (j := 1) (by decide) rfl rfl inX4_payStrikes_X4 (by decide) (hts (.fieldLink RX4 62 "UnionOfficeModel" "pay" "I") (by decide +kernel)) rfl dX4_payStrikes_49 ?_
            refine lv_isub hx hb dX4_payStrikes_52 ?_
            obtain ⟨σ1, hσ1⟩ : ∃ y : S3, y = su τ 19 0 0 ((τ 19 0 0) - (τ 17 0 0)) := ⟨_, rfl⟩
            refine xr_put S hw tyX4 tyX4_ok nmX4 (j := 3) (by decide) rfl rfl inX4_payStrikes_X4 (by decide) (hts (.fieldLink RX4 100 "UnionOfficeModel" "money" "I") (by decide +kernel)) rfl (tyX4_ok 3 (by decide)) rfl rfl (Nat.le_of_ble_eq_true rfl) dX4_payStrikes_53 (mE cy ad σ1) (by rw [hσ1]; exact mu_money _ _ _ _) (fun H locs hw => ?_)
            refine lv_aload_n hx hb dX4_payStrikes_56 rfl (lv_at hl 0 rfl) ?_
            refine xr_get S hw (j := 11) (by decide) rfl rfl inX4_payStrikes_X4 (by decide) (hts (.fieldLink RX4 29 "UnionOfficeModel" "strikePays" "[I") (by decide +kernel)) rfl dX4_payStrikes_57 ?_
            refine lv_iload_n hx hb dX4_payStrikes_60 rfl (lv_at hl 1 rfl) ?_
            refine lv_dup2_11 hx hb dX4_payStrikes_61 rfl rfl ?_
            refine xv_iald S hw (t0 := 0) (v := σ1 6 j 0) (by decide) rfl rfl (by omega) (by decide) rfl dX4_payStrikes_62 ?_
            refine lv_aload_n hx hb dX4_payStrikes_63 rfl (lv_at hl 0 rfl) ?_
            refine xr_get S hw (j := 1) (by decide) rfl rfl inX4_payStrikes_X4 (by decide) (hts (.fieldLink RX4 62 "UnionOfficeModel" "pay" "I") (by decide +kernel)) rfl dX4_payStrikes_64 ?_
            refine lv_iadd hx hb dX4_payStrikes_67 ?_
            obtain ⟨σ2, hσ2⟩ : ∃ y : S3, y = su σ1 6 j 0 ((σ1 6 j 0) + (σ1 17 0 0)) := ⟨_, rfl⟩
            refine xn_iast S hw (t0 := 0) (by decide) rfl rfl (by omega) (by decide) dX4_payStrikes_68 (mE cy ad σ2) (by rw [hσ2]; exact mu_spays _ _ _ j _) (fun H locs hw => ?_)
            refine lv_iinc (v := nI (j + 1)) (lv' := [(1, .int (nI (j + 1))), (0, .ref (ad 0))]) hx hb dX4_payStrikes_69 hl (k := 1) rfl (nI_1 j) (by decide) rfl (fun ls hl => ?_)
            refine lv_goto (tgt := 2) hx hb dX4_payStrikes_72 (by decide) ?_
            exact ih (j + 1) σ2 H locs ls (by omega) (by omega) (by show _ = psS (psF σ j) j; rw [← hτ, show psS τ j = _ from if_pos ⟨c2, c3, c4⟩, hσ2, hσ1]; simp [su]) hw (lv_sub hl [1, 0] rfl) kk
set_option maxHeartbeats 1000000 in
set_option maxRecDepth 100000 in
/-- payStrikes -/
theorem c_X4_payStrikes (l : Launch) (D : va_G) (cy : Nat → ClassId) (ad : Nat → Nat) (σ : S3)  : MM l yX4_payStrikes wsX4_payStrikes rmX4_payStrikes D cy ad [.ref (ad 0)] σ (xPv fun u => u = psF σ (nm σ)) := by
  refine xs_M (cc := cX4_payStrikes) (maxL := 2) (ret := none) (by decide +kernel) rfl (Nat.le_of_ble_eq_true rfl) ?_
  intro p e s m below meth c ls S hr hlocks hnm hw hX hl
  have S : CallFix p m c cX4_payStrikes 2 s [.ref (ad 0)].toArray wsX4_payStrikes RX4 := S
  have hx := S.1
  have hb := S.2.1
  have hts := S.2.2.2.2
  have hl : lv_has ls 2 [(0, .ref (ad 0))] := hl
  have hnm16 := nm_le σ
  have hnw18 := nw_le σ
  refine lv_iconst (v := 0) hx hb dX4_payStrikes_0 (by decide) ?_
  refine lv_istore_n (lv' := [(1, .int 0), (0, .ref (ad 0))]) hx hb dX4_payStrikes_1 rfl hl (by decide) rfl (fun ls hl => ?_)
  refine lp_X4_payStrikes S trivial hnm16 17 0 σ _ _ ls (by omega) (by omega) rfl hw (lv_sub hl [1, 0] rfl) (fun H locs ls hw hl => ?_)
  exact xe_v S.1 S.2.1 hr hlocks hw (rfl) (Nat.le_of_ble_eq_true rfl) (Nat.le_of_ble_eq_true rfl) dX4_payStrikes_75
abbrev rmX4_takeDues : Room := { frames := 1, cells := 0, slots := 0, locals := 24 }
abbrev tdP (σ : S3) (j : Nat) : Prop := σ 3 j 0 = 0 ∧ σ 4 j 0 = 0
def tdS (σ : S3) (m j : Nat) : S3 := if tdP σ j then mlA (su σ 7 j m (σ 7 j m + σ 0 (bd σ j) 0)) j else σ
def tdF (σ : S3) (m : Nat) : Nat → S3
  | 0 => σ
  | j + 1 => tdS (tdF σ m j) m j
theorem nm_tdS (σ : S3) (m j : Nat) : nm (tdS σ m j) = nm σ := by
  unfold tdS
  split
  · rw [nm_mlA, nm_suk (by decide)]
  · rfl
theorem nw_tdS (σ : S3) (m j : Nat) : nw (tdS σ m j) = nw σ := by
  unfold tdS
  split
  · rw [nw_mlA, nw_suk (by decide)]
  · rfl
theorem nm_tdF (σ : S3) (m : Nat) : ∀ j, nm (tdF σ m j) = nm σ
  | 0 => rfl
  | j + 1 => (nm_tdS _ _ _).trans (nm_tdF σ m j)
theorem nw_tdF (σ : S3) (m : Nat) : ∀ j, nw (tdF σ m j) = nw σ
  | 0 => rfl
  | j + 1 => (nw_tdS _ _ _).trans (nw_tdF σ m j)
theorem inX4_takeDues_X4 : (∀ w ∈ wsX40, w ∈ wsX4_takeDues) := by decide +kernel
set_option maxHeartbeats 1000000 in
set_option maxRecDepth 100000 in
theorem lp_X4_takeDues {p : Program} {l : Launch} {e : Env} {s : State} {m : MethodId} {args : Array Value} {below : List Frame} {meth : Method} {c : Code} {Q : State → Prop} (S : CallFix p m c cX4_takeDues 3 s args wsX4_takeDues RX4) {D : va_G} {cy : Nat → ClassId} {ad : Nat → Nat} {σ : S3} {mm : Nat} (hmm : mm < 60) (hX : True) (hnmσ : nm σ ≤ 16) : ∀ (k : Nat) (j : Nat) (τ : S3) (H : Heap) (locs : List Loc) (ls : Array Slot), nm σ - j < k → j ≤ nm σ → τ = tdF σ mm j → MW D cy s ad τ H locs → lv_has ls 3 [(0, .ref (ad 0)), (1, .int (nI mm)), (2, .int (nI j))] → (∀ (H : Heap) (locs : List Loc) (ls : Array Slot), MW D cy s ad (tdF σ mm (nm σ)) H locs → lv_has ls 3 [(0, .ref (ad 0))] → W p l e rmX4_takeDues s m args below meth c H locs 0 0 Q (F0 m 72 ls [])) → W p l e rmX4_takeDues s m args below meth c H locs 0 0 Q (F0 m 10 ls []) := by
  have hx := S.1
  have hb := S.2.1
  have hts := S.2.2.2.2
  intro k
  induction k with
  | zero => intro j τ H locs ls hk; exact absurd hk (Nat.not_lt_zero _)
  | succ k ih =>
    intro j τ H locs ls hk hj hτ hw hl kk
    refine lv_iload_n hx hb dX4_takeDues_10 rfl (lv_at hl 2 rfl) ?_
    refine lv_aload_n hx hb dX4_takeDues_11 rfl (lv_at hl 0 rfl) ?_
    refine xr_get S hw (j := 5) (by decide) rfl rfl inX4_takeDues_X4 (by decide) (hts (.fieldLink RX4 72 "UnionOfficeModel" "memberMany" "I") (by decide +kernel)) rfl dX4_takeDues_12 ?_
    refine lv_icmp_ge (tgt := 72) hx hb dX4_takeDues_15 (by decide) (fun c1 => ?_) (fun c1 => ?_)
    · have hj6 : j = nm σ := by
        have := nm_le τ
        have hq := (nI_leI (a := nm τ) (b := j) (by omega) (by omega)).mp c1
        rw [hτ, nm_tdF] at hq
        omega
      exact kk H locs ls (by rw [← hj6, ← hτ]; exact hw) (lv_sub hl [0] rfl)
    · have hnm16 := nm_le τ
      have hnmτ : nm τ = nm σ := by rw [hτ, nm_tdF]
      have hj6 : j < nm τ := (lnm (by omega) (by omega)).mp c1
      refine lv_aload_n hx hb dX4_takeDues_18 rfl (lv_at hl 0 rfl) ?_
      refine xr_get S hw (j := 8) (by decide) rfl rfl inX4_takeDues_X4 (by decide) (hts (.fieldLink RX4 19 "UnionOfficeModel" "hasLeft" "[Z") (by decide +kernel)) rfl dX4_takeDues_19 ?_
      refine lv_iload_n hx hb dX4_takeDues_22 rfl (lv_at hl 2 rfl) ?_
      refine xv_zald S hw (t0 := 1) (v := τ 3 j 0) (by decide) rfl rfl (by omega) (by decide) rfl dX4_takeDues_23 ?_
      refine lv_if_ne (tgt := 66) hx hb dX4_takeDues_24 (by decide) (fun c2 => ?_) (fun c2 => ?_)
      · refine lv_iinc (v := nI (j + 1)) (lv' := [(2, .int (nI (j + 1))), (0, .ref (ad 0)), (1, .int (nI mm))]) hx hb dX4_takeDues_66 hl (k := 2) rfl (nI_1 j) (by decide) rfl (fun ls hl => ?_)
        refine lv_goto (tgt := 10) hx hb dX4_takeDues_69 (by decide) ?_
        exact ih (j + 1) (τ) H locs ls (by omega) (by omega) (by show _ = tdS (tdF σ mm j) mm j; rw [← hτ]; exact (if_neg (fun q => c2 q.1)).symm) hw (lv_sub hl [1, 2, 0] rfl) kk
      · refine lv_aload_n hx hb dX4_takeDues_27 rfl (lv_at hl 0 rfl) ?_
        refine xr_get S hw (j := 9) (by decide) rfl rfl inX4_takeDues_X4 (by decide) (hts (.fieldLink RX4 23 "UnionOfficeModel" "isAway" "[Z") (by decide +kernel)) rfl dX4_takeDues_28 ?_
        refine lv_iload_n hx hb dX4_takeDues_31 rfl (lv_at hl 2 rfl) ?_
        refine xv_zald S hw (t0 := 1) (v := τ 4 j 0) (by decide) rfl rfl (by omega) (by decide) rfl dX4_takeDues_32 ?_
        refine lv_if_ne (tgt := 66) hx hb dX4_takeDues_33 (by decide) (fun c3 => ?_) (fun c3 => ?_)
        · refine lv_iinc (v := nI (j + 1)) (lv' := [(2, .int (nI (j + 1))), (0, .ref (ad 0)), (1, .int (nI mm))]) hx hb dX4_takeDues_66 hl (k := 2) rfl (nI_1 j) (by decide) rfl (fun ls hl => ?_)
          refine lv_goto (tgt := 10) hx hb dX4_takeDues_69 (by decide) ?_
          exact ih (j + 1) (τ) H locs ls (by omega) (by omega) (by show _ = tdS (tdF σ mm j) mm j; rw [← hτ]; exact (if_neg (fun q => c3 q.2)).symm) hw (lv_sub hl [1, 2, 0] rfl) kk
        · refine lv_aload_n hx hb dX4_takeDues_36 rfl (lv_at hl 0 rfl) ?_
          refine xr_get S hw (j := 12) (by decide) rfl rfl inX4_takeDues_X4 (by decide) (hts (.fieldLink RX4 32 "UnionOfficeModel" "debts" "[I") (by decide +kernel)) rfl dX4_takeDues_37 ?_
          refine lv_bipush (v := 60) hx hb dX4_takeDues_40 (by decide) ?_
          refine lv_iload_n hx hb dX4_takeDues_42 rfl (lv_at hl 2 rfl) ?_
          refine lv_imul hx hb dX4_takeDues_43 ?_
          refine lv_iload_n hx hb dX4_takeDues_44 rfl (lv_at hl 1 rfl) ?_
          refine lv_iadd hx hb dX4_takeDues_45 ?_
          rw [show ((60 * (nI j)) + (nI mm)) = nI (60 * j + mm) from mulN 60 j mm]
          refine lv_dup2_11 hx hb dX4_takeDues_46 rfl rfl ?_
          refine xv_iald S hw (t0 := 0) (v := τ 7 j mm) (by decide) rfl rfl (by omega) (by decide) (fl60 _ (by omega)) dX4_takeDues_47 ?_
          refine lv_aload_n hx hb dX4_takeDues_48 rfl (lv_at hl 0 rfl) ?_
          refine xr_get S hw (j := 0) (by decide) rfl rfl inX4_takeDues_X4 (by decide) (hts (.fieldLink RX4 7 "UnionOfficeModel" "duesOf" "[I") (by decide +kernel)) rfl dX4_takeDues_49 ?_
          refine lv_aload_n hx hb dX4_takeDues_52 rfl (lv_at hl 0 rfl) ?_
          refine xr_get S hw (j := 7) (by decide) rfl rfl inX4_takeDues_X4 (by decide) (hts (.fieldLink RX4 16 "UnionOfficeModel" "bands" "[I") (by decide +kernel)) rfl dX4_takeDues_53 ?_
          refine lv_iload_n hx hb dX4_takeDues_56 rfl (lv_at hl 2 rfl) ?_
          refine xv_iald S hw (t0 := 0) (v := nI (bd τ j)) (by decide) rfl rfl (by omega) (by decide) rfl dX4_takeDues_57 ?_
          have hql1 := bd_lt τ j
          refine xv_iald S hw (t0 := 0) (v := τ 0 (bd τ j) 0) (by decide) rfl rfl (by omega) (by decide) rfl dX4_takeDues_58 ?_
          refine lv_iadd hx hb dX4_takeDues_59 ?_
          obtain ⟨σ1, hσ1⟩ : ∃ y : S3, y = su τ 7 j mm ((τ 7 j mm) + (τ 0 (bd τ j) 0)) := ⟨_, rfl⟩
          refine xn_iast S hw (t0 := 0) (by decide) rfl rfl (by omega) (by decide) dX4_takeDues_60 (mE cy ad σ1) (by rw [hσ1]; exact mu_debts _ _ _ j (by omega) _) (fun H locs hw => ?_)
          refine lv_aload_n hx hb dX4_takeDues_61 rfl (lv_at hl 0 rfl) ?_
          refine lv_iload_n hx hb dX4_takeDues_62 rfl (lv_at hl 2 rfl) ?_
          refine xc_Mv hw (va_runV (As := [.int (nI j)]) (rest := []) S (c_X4_lay l D cy ad σ1 j (by omega) _) (cwV 1 S.2.2.2.2 gX4_takeDues_X4_lay rfl rfl rfl (by decide +kernel) ⟨Nat.le_of_ble_eq_true rfl, Nat.le_of_ble_eq_true rfl⟩) (xc_preV (XOK.tt _ _) hX hw (by decide) rfl rfl rfl) rfl rfl hl.1 rfl (lv_room (Nat.le_of_ble_eq_true rfl)) dX4_takeDues_63 ⟨Nat.le_of_ble_eq_true rfl, Nat.le_of_ble_eq_true rfl⟩) (fun u H locs hp hw => ?_)
          obtain rfl := hp
          refine lv_iinc (v := nI (j + 1)) (lv' := [(2, .int (nI (j + 1))), (0, .ref (ad 0)), (1, .int (nI mm))]) hx hb dX4_takeDues_66 hl (k := 2) rfl (nI_1 j) (by decide) rfl (fun ls hl => ?_)
          refine lv_goto (tgt := 10) hx hb dX4_takeDues_69 (by decide) ?_
          exact ih (j + 1) (mlA σ1 j) H locs ls (by omega) (by omega) (by show _ = tdS (tdF σ mm j) mm j; rw [← hτ, show tdS τ mm j = _ from if_pos ⟨c2, c3⟩, hσ1]) hw (lv_sub hl [1, 2, 0] rfl) kk
set_option maxHeartbeats 1000000 in
set_option maxRecDepth 100000 in
/-- takeDues -/
theorem c_X4_takeDues (l : Launch) (D : va_G) (cy : Nat → ClassId) (ad : Nat → Nat) (σ : S3) (hnw : nw σ < 1800) : MM l yX4_takeDues wsX4_takeDues rmX4_takeDues D cy ad [.ref (ad 0)] σ (xPv fun u => u = tdF σ (nw σ / 30) (nm σ)) := by
  refine xs_M (cc := cX4_takeDues) (maxL := 3) (ret := none) (by decide +kernel) rfl (Nat.le_of_ble_eq_true rfl) ?_
  intro p e s m below meth c ls S hr hlocks hnm hw hX hl
  have S : CallFix p m c cX4_takeDues 3 s [.ref (ad 0)].toArray wsX4_takeDues RX4 := S
  have hx := S.1
  have hb := S.2.1
  have hts := S.2.2.2.2
  have hl : lv_has ls 3 [(0, .ref (ad 0))] := hl
  have hnm16 := nm_le σ
  have hnw18 := nw_le σ
  refine lv_aload_n hx hb dX4_takeDues_0 rfl (lv_at hl 0 rfl) ?_
  refine xr_get S hw (j := 2) (by decide) rfl rfl inX4_takeDues_X4 (by decide) (hts (.fieldLink RX4 79 "UnionOfficeModel" "now" "I") (by decide +kernel)) rfl dX4_takeDues_1 ?_
  refine lv_bipush (v := 30) hx hb dX4_takeDues_4 (by decide) ?_
  refine lv_idiv hx hb dX4_takeDues_6 (by decide) ?_
  rw [show nI (nw σ) / 30 = nI (nw σ / 30) from pk_div (by omega) (by decide) (by decide)]
  refine lv_istore_n (lv' := [(1, .int (nI (nw σ / 30))), (0, .ref (ad 0))]) hx hb dX4_takeDues_7 rfl hl (by decide) rfl (fun ls hl => ?_)
  refine lv_iconst (v := 0) hx hb dX4_takeDues_8 (by decide) ?_
  refine lv_istore_n (lv' := [(2, .int 0), (1, .int (nI (nw σ / 30))), (0, .ref (ad 0))]) hx hb dX4_takeDues_9 rfl hl (by decide) rfl (fun ls hl => ?_)
  refine lp_X4_takeDues S (mm := nw σ / 30) (by omega) trivial hnm16 17 0 σ _ _ ls (by omega) (by omega) rfl hw (lv_sub hl [2, 1, 0] rfl) (fun H locs ls hw hl => ?_)
  exact xe_v S.1 S.2.1 hr hlocks hw (rfl) (Nat.le_of_ble_eq_true rfl) (Nat.le_of_ble_eq_true rfl) dX4_takeDues_72
abbrev ehP (σ : S3) (x : Int32) : Prop := ¬ x < 0 ∧ ¬ nI (nw σ) < 30 * (x + 1)
abbrev rmX4_hasEnded : Room := { frames := 0, cells := 0, slots := 0, locals := 0 }
theorem inX4_hasEnded_X4 : (∀ w ∈ wsX40, w ∈ wsX4_hasEnded) := by decide +kernel
set_option maxHeartbeats 1000000 in
set_option maxRecDepth 100000 in
/-- hasEnded -/
theorem c_X4_hasEnded (l : Launch) (D : va_G) (cy : Nat → ClassId) (ad : Nat → Nat) (σ : S3) (x0 : Int32) : MM l yX4_hasEnded wsX4_hasEnded rmX4_hasEnded D cy ad [.ref (ad 0), .int x0] σ (xPi fun r u => u = σ ∧ r = bI (ehP σ x0)) := by
  refine xs_M (cc := cX4_hasEnded) (maxL := 2) (ret := (some .boolean)) (by decide +kernel) rfl (Nat.le_of_ble_eq_true rfl) ?_
  intro p e s m below meth c ls S hr hlocks hnm hw hX hl
  have S : CallFix p m c cX4_hasEnded 2 s [.ref (ad 0), .int x0].toArray wsX4_hasEnded RX4 := S
  have hx := S.1
  have hb := S.2.1
  have hts := S.2.2.2.2
  have hl : lv_has ls 2 [(0, .ref (ad 0)), (1, .int x0)] := hl
  have hnm16 := nm_le σ
  have hnw18 := nw_le σ
  refine lv_iload_n hx hb dX4_hasEnded_0 rfl (lv_at hl 1 rfl) ?_
  refine lv_if_lt (tgt := 21) hx hb dX4_hasEnded_1 (by decide) (fun c1 => ?_) (fun c1 => ?_)
  · refine lv_iconst (v := 0) hx hb dX4_hasEnded_21 (by decide) ?_
    exact xe_z S.1 S.2.1 hr (Or.inl rfl) hlocks hw (⟨rfl, by simp [bI, ehP, c1]⟩) (Nat.le_of_ble_eq_true rfl) (Nat.le_of_ble_eq_true rfl) dX4_hasEnded_22
  · refine lv_aload_n hx hb dX4_hasEnded_4 rfl (lv_at hl 0 rfl) ?_
    refine xr_get S hw (j := 2) (by decide) rfl rfl inX4_hasEnded_X4 (by decide) (hts (.fieldLink RX4 79 "UnionOfficeModel" "now" "I") (by decide +kernel)) rfl dX4_hasEnded_5 ?_
    refine lv_bipush (v := 30) hx hb dX4_hasEnded_8 (by decide) ?_
    refine lv_iload_n hx hb dX4_hasEnded_10 rfl (lv_at hl 1 rfl) ?_
    refine lv_iconst (v := 1) hx hb dX4_hasEnded_11 (by decide) ?_
    refine lv_iadd hx hb dX4_hasEnded_12 ?_
    refine lv_imul hx hb dX4_hasEnded_13 ?_
    refine lv_icmp_lt (tgt := 21) hx hb dX4_hasEnded_14 (by decide) (fun c2 => ?_) (fun c2 => ?_)
    · refine lv_iconst (v := 0) hx hb dX4_hasEnded_21 (by decide) ?_
      exact xe_z S.1 S.2.1 hr (Or.inl rfl) hlocks hw (⟨rfl, by simp [bI, ehP, c1, c2]⟩) (Nat.le_of_ble_eq_true rfl) (Nat.le_of_ble_eq_true rfl) dX4_hasEnded_22
    · refine lv_iconst (v := 1) hx hb dX4_hasEnded_17 (by decide) ?_
      refine lv_goto (tgt := 22) hx hb dX4_hasEnded_18 (by decide) ?_
      exact xe_z S.1 S.2.1 hr (Or.inr rfl) hlocks hw (⟨rfl, by simp [bI, ehP, c1, c2]⟩) (Nat.le_of_ble_eq_true rfl) (Nat.le_of_ble_eq_true rfl) dX4_hasEnded_22
abbrev rmX4_thrown : Room := { frames := 0, cells := 0, slots := 0, locals := 0 }
theorem inX4_thrown_X4 : (∀ w ∈ wsX40, w ∈ wsX4_thrown) := by decide +kernel
set_option maxHeartbeats 1000000 in
set_option maxRecDepth 100000 in
/-- thrown -/
theorem c_X4_thrown (l : Launch) (D : va_G) (cy : Nat → ClassId) (ad : Nat → Nat) (σ : S3)  : MM l yX4_thrown wsX4_thrown rmX4_thrown D cy ad [.ref (ad 0)] σ (xPi fun r u => u = σ ∧ r = σ 23 0 0) := by
  refine xs_M (cc := cX4_thrown) (maxL := 1) (ret := (some .int)) (by decide +kernel) rfl (Nat.le_of_ble_eq_true rfl) ?_
  intro p e s m below meth c ls S hr hlocks hnm hw hX hl
  have S : CallFix p m c cX4_thrown 1 s [.ref (ad 0)].toArray wsX4_thrown RX4 := S
  have hx := S.1
  have hb := S.2.1
  have hts := S.2.2.2.2
  have hl : lv_has ls 1 [(0, .ref (ad 0))] := hl
  have hnm16 := nm_le σ
  have hnw18 := nw_le σ
  refine lv_aload_n hx hb dX4_thrown_0 rfl (lv_at hl 0 rfl) ?_
  refine xr_get S hw (j := 22) (by decide) rfl rfl inX4_thrown_X4 (by decide) (hts (.fieldLink RX4 69 "UnionOfficeModel" "thrown" "I") (by decide +kernel)) rfl dX4_thrown_1 ?_
  exact xe_i S.1 S.2.1 hr hlocks hw (⟨rfl, rfl⟩) (Nat.le_of_ble_eq_true rfl) (Nat.le_of_ble_eq_true rfl) dX4_thrown_4
end
