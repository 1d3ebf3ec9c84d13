/-! ===== what a method of the class asks of the state beside the store: links to nest mates, texts, the two statics of Throwable ===== -/
def pm_ws : List Cond := [.fieldLinkNest RX3 56 "UnionOffice$Band" "monthlyDues" "I" "UnionOffice", .fieldLinkNest RX2 46 "UnionOffice$Band" "monthlyDues" "I" "UnionOffice", .fieldLinkNest RX2 61 "UnionOffice$Branch" "laidOn" "[I" "UnionOffice", .fieldLinkNest RX3 179 "UnionOffice$Branch" "laidOn" "[I" "UnionOffice", .fieldLinkNest RX3 105 "UnionOffice$Branch" "hasBallot" "Z" "UnionOffice", .fieldLinkNest RX3 142 "UnionOffice$Branch" "mayStrike" "Z" "UnionOffice", .fieldLinkNest RX3 108 "UnionOffice$Branch" "isOnStrike" "Z" "UnionOffice", .fieldLinkNest RX3 183 "UnionOffice$Branch" "delegatesOfYear" "I" "UnionOffice", .fieldLinkNest RX3 175 "UnionOffice$Member" "laidOn" "[I" "UnionOffice", .fieldLinkNest RX3 81 "UnionOffice$Member" "branch" "LUnionOffice$Branch;" "UnionOffice", .fieldLinkNest RX3 85 "UnionOffice$Member" "band" "LUnionOffice$Band;" "UnionOffice", .fieldLinkNest RX3 89 "UnionOffice$Member" "isOnLeave" "Z" "UnionOffice", .fieldLinkNest RX3 93 "UnionOffice$Member" "hasLeft" "Z" "UnionOffice", .fieldLinkNest RX3 167 "UnionOffice$Member" "leftOver" "I" "UnionOffice", .fieldLinkNest RX3 180 "UnionOffice$Member" "strikePayHad" "I" "UnionOffice", .methodLinkNest RX3 11 yX0_init "UnionOffice", .methodLinkNest RX3 20 yX1_init "UnionOffice", .methodLinkNest RX3 70 yX2_init "UnionOffice", .methodLinkNest RX3 96 yX2_sumOwed "UnionOffice", .methodLinkNest RX3 101 yX2_takeIn "UnionOffice", .methodLinkNest RX3 113 yX1_beginBallot "UnionOffice", .methodLinkNest RX3 120 yX2_standsOn "UnionOffice", .methodLinkNest RX3 124 yX1_hasVoteOf "UnionOffice", .methodLinkNest RX1 35 yX2_bit "UnionOffice", .methodLinkNest RX3 130 yX1_takeVote "UnionOffice", .methodLinkNest RX3 134 yX1_countVotes "UnionOffice", .methodLinkNest RX3 139 yX1_endBallot "UnionOffice", .methodLinkNest RX3 145 yX1_canBeCalledOut "UnionOffice", .methodLinkNest RX3 210 yX2_charge "UnionOffice", .castable "java/lang/IndexOutOfBoundsException" "java/lang/IndexOutOfBoundsException", .castable "java/lang/IllegalArgumentException" "java/lang/IllegalArgumentException", .castable "java/lang/IllegalStateException" "java/lang/IllegalStateException", .declares (Bundle.initS "java/lang/Throwable"), .declares (Bundle.initS "java/lang/Exception"), .declares (Bundle.initS "java/lang/RuntimeException")]
def pm_st : List (Nat × String) := [(188, "no such band"), (197, "out of range"), (191, "no such branch"), (65, "the union has all its members"), (193, "no such member"), (195, "the member has left"), (111, "the branch has a ballot or is on strike"), (128, "the member can't vote"), (137, "the branch has no ballot"), (149, "the branch can't be called out, or is not on strike"), (151, "the day would be above the last one"), (161, "the month has not ended, or is folded"), (199, "the month has not ended"), (173, "the month is folded")]
def pm_ok : Cond → Bool
  | .fieldLinkNest .. => true
  | .methodLinkNest .. => true
  | .castable .. => true
  | .declares _ => true
  | _ => false
theorem pm_ok_all : ∀ w ∈ pm_ws, pm_ok w = true := by decide +kernel
theorem pm_warm {w : Cond} {s U : State} (hk : pm_ok w = true) (hW : s.WarmedH U.vm) (h : va_Nw w s) : va_Nw w U := by
  cases w <;> first | exact va_Nw.warmF hW h | exact va_Nw.warmM hW h | exact va_Nw.warmC hW h | exact va_Nw.warmD hW h | (simp [pm_ok] at hk)
theorem pm_tab {w : Cond} (hk : pm_ok w = true) : w.onTables = true := by
  cases w <;> first | rfl | (simp [pm_ok] at hk)
def PM (U : State) : Prop := (∀ w ∈ pm_ws, va_Nw w U) ∧ ∀ q ∈ pm_st, ∃ sa : Nat, vk_R "UnionOffice" q.1 q.2 sa U
theorem PM.warm {s U : State} (hW : s.WarmedH U.vm) (h : PM s) : PM U :=
  ⟨fun w hw => pm_warm (pm_ok_all w hw) hW (h.1 w hw), fun q hq => by obtain ⟨sa, h1⟩ := h.2 q hq; exact ⟨sa, vk_R.warm hW h1⟩⟩
theorem PM.same {u U : State} (hv : U.vm = u.vm) (h : PM u) : PM U :=
  ⟨fun w hw => va_Nw.same (pm_tab (pm_ok_all w hw)) hv.symm (h.1 w hw), fun q hq => by obtain ⟨sa, h1⟩ := h.2 q hq; exact ⟨sa, vk_R.same hv h1⟩⟩
theorem PM.w {s : State} (h : PM s) {w : Cond} (hw : w ∈ pm_ws) : va_Nw w s := h.1 w hw
def PZ (A : Nat → Prop) (U : State) (H : Heap) : Prop := vx_Zq Bundle.tN "UNASSIGNED_STACK" Bundle.steD A U H ∧ vx_Zq Bundle.tN "SUPPRESSED_SENTINEL" Bundle.listD A U H
theorem PZ.moved {A : Nat → Prop} {u U : State} {H : Heap} (hvm : u.vm.Alike U.vm) (h : PZ A u H) : PZ A U H := ⟨h.1.moved hvm, h.2.moved hvm⟩
theorem PZ.kept {A : Nat → Prop} {U : State} {H H1 : Heap} (h : PZ A U H) (hq : ∀ a : Nat, a < H.size → ¬ A a → H1[a]? = H[a]?) : PZ A U H1 := ⟨h.1.kept hq, h.2.kept hq⟩
theorem PZ.narrow {A B : Nat → Prop} {U : State} {H : Heap} (h : PZ A U H) (hAB : ∀ q, B q → A q) : PZ B U H := ⟨h.1.narrow hAB, h.2.narrow hAB⟩
def cX (ad : Nat → Nat) (N : Nat) : Nat → State → Prop := fun sz U => PM U ∧ PZ (xA ad N sz) U U.heap
theorem cX_ok (ad : Nat → Nat) (N : Nat) : XOK ad N (cX ad N) := by
  refine ⟨fun sz a U g mk h => ⟨PM.same (u := U) (U := U.calling g mk a) rfl h.1, PZ.moved (u := U) (U := U.calling g mk a) (Vm.Alike.refl U.vm) h.2⟩, fun s U hW h hz hq => ⟨h.1.warm hW, ?_⟩⟩
  exact ((h.2.moved hW.alike).kept hq).narrow (xA_mono hz)
abbrev nm2 : List String := ["java/lang/RuntimeException", "java/lang/Exception"]
abbrev xIO : String := "java/lang/IndexOutOfBoundsException"
abbrev xIA : String := "java/lang/IllegalArgumentException"
abbrev xIS : String := "java/lang/IllegalStateException"
theorem tg_IO : (∀ w ∈ (vx_atS RX3 190 xIO nm2).filter (fun w => !goodWord w), w ∈ pm_ws) ∧ ∀ w ∈ Cond.classLink RX3 186 xIO :: Cond.initialized xIO :: vx_atS RX3 190 xIO nm2, vx_ot w = true := ⟨by decide +kernel, by decide +kernel⟩
theorem tg_IA : (∀ w ∈ (vx_atS RX3 163 xIA nm2).filter (fun w => !goodWord w), w ∈ pm_ws) ∧ ∀ w ∈ Cond.classLink RX3 159 xIA :: Cond.initialized xIA :: vx_atS RX3 163 xIA nm2, vx_ot w = true := ⟨by decide +kernel, by decide +kernel⟩
theorem tg_IS : (∀ w ∈ (vx_atS RX3 67 xIS nm2).filter (fun w => !goodWord w), w ∈ pm_ws) ∧ ∀ w ∈ Cond.classLink RX3 63 xIS :: Cond.initialized xIS :: vx_atS RX3 67 xIS nm2, vx_ot w = true := ⟨by decide +kernel, by decide +kernel⟩
section XS
variable {p : Program} {l : Launch} {e : Env} {R rm : Room} {s : State} {m : MethodId} {args : Array Value} {below : List Frame} {meth : Method} {c : Code} {H : Heap} {locs : List Loc} {cells slots mc ms : Nat} {Q : State → Prop}
variable {cc : ByteArray} {pc : Nat} {ls : Array Slot} {rest st : List Value} {D : va_G} {tys : List (ClassId × FieldType)} {ad : Nat → Nat} {N nL : Nat} {g : Nat → va_E} {a : Array Value} {Ts : List Cond} {own : String} {S : Type} {E : S → Nat → va_E} {σ τ : S} {X : Nat → State → Prop}
/-- a text thrown in the class: nothing has changed -/
theorem xt_throw {post : Option Value → S → Prop} {err : String → Prop} {cls text : String} {ik is ic : Nat} (S0 : CallFix p m c cc nL s args Ts RX3) (hl : l.stackTraces = false) (hlocks : meth.locks = false) (htb : ∀ x ∈ c.exceptionTable.toList, False)
    (hw : XW D tys (xA ad N s.heap.size) s ad N (E σ) H locs) (hX : cX ad N s.heap.size s) (hsize : ls.size = nL) (hcls : Bundle.fit cls = true) (hk : Cond.classLink RX3 ik cls ∈ Ts) (hini : Cond.initialized cls ∈ Ts) (hat : ∀ w ∈ (vx_atS RX3 ic cls nm2).filter goodWord, w ∈ Ts)
    (tg : (∀ w ∈ (vx_atS RX3 ic cls nm2).filter (fun w => !goodWord w), w ∈ pm_ws) ∧ ∀ w ∈ Cond.classLink RX3 ik cls :: Cond.initialized cls :: vx_atS RX3 ic cls nm2, vx_ot w = true) (hstr : (is, text) ∈ pm_st)
    (d0 : decode cc pc = .ok (.new ik, 3)) (d3 : decode cc (pc + 3) = .ok (.dup, 1)) (d4 : decode cc (pc + 4) = .ok (.ldc is, 2)) (d6 : decode cc (pc + 6) = .ok (.invokespecial ic, 3)) (d9 : decode cc (pc + 9) = .ok (.athrow, 1))
    (hRf : 5 < rm.frames) (hRl : (rest.map fun v => v.category).sum + 82 ≤ rm.locals) (hc : cells + 1 ≤ rm.cells) (hs : slots + 6 ≤ rm.slots) (herr : err cls) :
    W p l e rm s m args below meth c H locs cells slots (vx_MQ below (xQ post (xB D ad N E (xA ad N s.heap.size)) (xA ad N s.heap.size)) (xX D ad N s.heap.size E σ err) args s rm.cells rm.slots (xA ad N s.heap.size)) (F0 m pc ls rest) := by
  obtain ⟨hx, hb, hml, hown, hts⟩ := S0
  obtain ⟨sa, hsa⟩ := hX.1.2 _ hstr
  refine vx_throwS (names := nm2) (A := xA ad N s.heap.size) hx hb hl hown hcls (by decide) (hts _ hk) (hts _ hini) hsa (vx_hat (B := pm_ws) (fun w h => hts w (hat w h)) tg.1 (fun w h => va_Nw.use (pm_tab (pm_ok_all w h)) (hX.1.w h))) tg.2 hX.2.1 hX.2.2 hw.2.2.2.1 (hsize.trans hml.symm) d0 d3 d4 d6 d9 (fun x h => (htb x h).elim) hRf hRl (by omega) (by omega) hlocks (fun t hvm hz hq => ?_) hw.2.2.2.1.2.2 hc hs
  have hS := hw.2.2.2.1
  refine ⟨(), trivial, ⟨herr, hw.2.1.kept (fun k q hk => hq q.1 (hw.2.1 k q hk).lt), hw.2.2.1⟩, Nat.le_trans hS.1 hz, fun q h1 h2 => ?_⟩
  rw [hq q (Nat.lt_of_lt_of_le h1 hS.1)]
  exact hS.2.1 q h1 h2
/-! ends -/
theorem xe_i {pi : Int32 → S → Prop} {v : Int32} (hx : p.tables.exec = Jvm.exec) (hb : c.code = cc) (hr : meth.sig.returnType = some .int) (hlocks : meth.locks = false) (hw : XW D tys (xA ad N s.heap.size) s ad N (E τ) H locs) (hp : pi v τ) (hc : cells ≤ mc) (hs : slots ≤ ms) (hdg : decode cc pc = .ok (.ireturn, 1)) :
    W p l e R s m args below meth c H locs cells slots (MQ below (xQ (xPi pi) (xB D ad N E (xA ad N s.heap.size)) (xA ad N s.heap.size)) args s mc ms (xA ad N s.heap.size)) (F0 m pc ls [.int v]) := by
  refine W.widen hc hs ?_
  exact W.iret hx hb hr (fun t ht hW => ⟨⟨_, τ, rfl, ⟨v, rfl, hp⟩, by rw [ht]; exact hw.2.1, hw.2.2.1⟩, hw.2.2.2.1.F ht⟩) hw.2.2.2.1.2.2 hdg hlocks
theorem xe_z {pi : Int32 → S → Prop} {v : Int32} (hx : p.tables.exec = Jvm.exec) (hb : c.code = cc) (hr : meth.sig.returnType = some .boolean) (hv : v = 0 ∨ v = 1) (hlocks : meth.locks = false) (hw : XW D tys (xA ad N s.heap.size) s ad N (E τ) H locs) (hp : pi v τ) (hc : cells ≤ mc) (hs : slots ≤ ms) (hdg : decode cc pc = .ok (.ireturn, 1)) :
    W p l e R s m args below meth c H locs cells slots (MQ below (xQ (xPi pi) (xB D ad N E (xA ad N s.heap.size)) (xA ad N s.heap.size)) args s mc ms (xA ad N s.heap.size)) (F0 m pc ls [.int v]) := by
  refine W.widen hc hs ?_
  exact W.zret hx hb hr (by rcases hv with rfl | rfl <;> rfl) (fun t ht hW => ⟨⟨_, τ, rfl, ⟨v, rfl, hp⟩, by rw [ht]; exact hw.2.1, hw.2.2.1⟩, hw.2.2.2.1.F ht⟩) hw.2.2.2.1.2.2 hdg hlocks
theorem xe_v {pv : S → Prop} (hx : p.tables.exec = Jvm.exec) (hb : c.code = cc) (hr : meth.sig.returnType = none) (hlocks : meth.locks = false) (hw : XW D tys (xA ad N s.heap.size) s ad N (E τ) H locs) (hp : pv τ) (hc : cells ≤ mc) (hs : slots ≤ ms) (hdg : decode cc pc = .ok (.return_, 1)) :
    W p l e R s m args below meth c H locs cells slots (MQ below (xQ (xPv pv) (xB D ad N E (xA ad N s.heap.size)) (xA ad N s.heap.size)) args s mc ms (xA ad N s.heap.size)) (F0 m pc ls []) := by
  refine W.widen hc hs ?_
  exact W.vret hx hb hr (fun t ht hW => ⟨⟨_, τ, rfl, ⟨rfl, hp⟩, by rw [ht]; exact hw.2.1, hw.2.2.1⟩, hw.2.2.2.1.F ht⟩) hw.2.2.2.1.2.2 hdg hlocks
theorem xe_r {pr : Nat → S → Prop} {v : Nat} {nm : String} (hx : p.tables.exec = Jvm.exec) (hb : c.code = cc) (hr : meth.sig.returnType = some (.object nm)) (hlocks : meth.locks = false) (hw : XW D tys (xA ad N s.heap.size) s ad N (E τ) H locs) (hp : pr v τ) (hc : cells ≤ mc) (hs : slots ≤ ms) (hdg : decode cc pc = .ok (.areturn, 1)) :
    W p l e R s m args below meth c H locs cells slots (MQ below (xQ (xPr pr) (xB D ad N E (xA ad N s.heap.size)) (xA ad N s.heap.size)) args s mc ms (xA ad N s.heap.size)) (F0 m pc ls [.ref v]) := by
  refine W.widen hc hs ?_
  exact W.aret hx hb hr (Or.inl ⟨nm, rfl⟩) (Or.inr ⟨v, rfl⟩) (fun t ht hW => ⟨⟨_, τ, rfl, ⟨v, rfl, hp⟩, by rw [ht]; exact hw.2.1, hw.2.2.1⟩, hw.2.2.2.1.F ht⟩) hw.2.2.2.1.2.2 hdg hlocks
/-! starts -/
theorem xs_M {y : MethodName} {ws ws' : List Cond} {maxL : Nat} {ret : Option FieldType} {av : List Value} {post : Option Value → S → Prop} (hy : plainName y.cls = true) (hws : ws = Cond.code y cc maxL ret :: ws') (hlen : (lg_sl av).length ≤ maxL)
    (body : ∀ (p : Program) (e : Env) (s : State) (m : MethodId) (below : List Frame) (meth : Method) (c : Code) (ls : Array Slot), CallFix p m c cc maxL s av.toArray ws y.cls → meth.sig.returnType = ret → meth.locks = false → meth.name = y.name → XW D tys (xA ad N s.heap.size) s ad N (E σ) s.heap [] → X s.heap.size s → lv_has ls maxL (lv_args 0 av) →
      W p l e rm s m av.toArray below meth c s.heap [] 0 0 (MQ below (xQ post (xB D ad N E (xA ad N s.heap.size)) (xA ad N s.heap.size)) av.toArray s rm.cells rm.slots (xA ad N s.heap.size)) (F0 m 0 ls [])) : XM l y ws rm D tys ad N X E av σ post := by
  intro sz
  refine Met.ofW (cc := cc) (maxL := maxL) (ret := ret) hy hws ?_
  intro p e s m args below meth c s₁ B hml hv
  obtain ⟨rfl, hsz, hK, hP, hD, hX⟩ := hv
  subst hsz
  rw [lg_entry_eq]
  exact body p e s m below meth c _ ⟨B.exec, B.bytes, hml, findClass_of_methodNamed B.named, atoms_spec (ws := ws) B.pre⟩ B.returns B.notSynchronized (name_of_methodNamed B.named B.method).1
    ⟨hK, hP, xD_any hD (fun k h => xA_in h), va_S.rf, fun q h => Or.inr h⟩ hX (lv_entry av hlen)
theorem xs_T {y : MethodName} {ws ws' : List Cond} {maxL : Nat} {ret : Option FieldType} {av : List Value} {post : Option Value → S → Prop} {err : String → Prop} (hy : plainName y.cls = true) (hws : ws = Cond.code y cc maxL ret :: ws') (hlen : (lg_sl av).length ≤ maxL)
    (body : ∀ (p : Program) (e : Env) (s : State) (m : MethodId) (below : List Frame) (meth : Method) (c : Code) (ls : Array Slot), CallFix p m c cc maxL s av.toArray ws y.cls → meth.sig.returnType = ret → meth.locks = false → (∀ x ∈ c.exceptionTable.toList, False) → XW D tys (xA ad N s.heap.size) s ad N (E σ) s.heap [] → X s.heap.size s → lv_has ls maxL (lv_args 0 av) →
      W p l e rm s m av.toArray below meth c s.heap [] 0 0 (vx_MQ below (xQ post (xB D ad N E (xA ad N s.heap.size)) (xA ad N s.heap.size)) (xX D ad N s.heap.size E σ err) av.toArray s rm.cells rm.slots (xA ad N s.heap.size)) (F0 m 0 ls [])) : XT l y ws rm D tys ad N X E av σ post err := by
  intro sz
  refine vx_ofW (cc := cc) (maxL := maxL) (ret := ret) hy hws ?_
  intro p e s m args below meth c s₁ B hml htb hv
  obtain ⟨rfl, hsz, hK, hP, hD, hX⟩ := hv
  subst hsz
  rw [lg_entry_eq]
  exact body p e s m below meth c _ ⟨B.exec, B.bytes, hml, findClass_of_methodNamed B.named, atoms_spec (ws := ws) B.pre⟩ B.returns B.notSynchronized htb
    ⟨hK, hP, xD_any hD (fun k h => xA_in h), va_S.rf, fun q h => Or.inr h⟩ hX (lv_entry av hlen)
/-! calls -/
theorem xc_pre (hX : XOK ad N X) (hXs : X s.heap.size s) (hw : XW D tys (xA ad N s.heap.size) s ad N g H locs) (av : List Value) : FrameBlind (xPre D tys ad N g (X H.size) H.size av) ∧ ∀ U : State, U.heap = H → s.WarmedH U.vm → xPre D tys ad N g (X H.size) H.size av av.toArray U := by
  refine ⟨fun a U g mk q => ?_, fun U hU hW => ?_⟩
  · obtain ⟨q0, q1, qK, qP, qD, qX⟩ := q
    exact ⟨q0, q1, va_K.moved (u := U) (U := U.calling g mk a) (Vm.Alike.refl U.vm) qK, qP, qD, hX.1 _ _ _ _ _ qX⟩
  · subst hU
    exact ⟨rfl, rfl, va_K.moved hW.alike hw.1, hw.2.1, hw.2.2.1.weaken (fun _ _ _ _ => trivial), hX.2 s U hW hXs hw.2.2.2.1.1 hw.2.2.2.1.2.1⟩
theorem xc_preV (hX : XOK ad N X) (hXs : X s.heap.size s) (hw : XW D tys (xA ad N s.heap.size) s ad N g H locs) {k ci : Nat} {fs : List Value} {q : vw_C} {C : String} {As : List Value} (hk : k < N) (hg : g k = .inr (ci, fs)) (hc : vwCl[ci]? = some q) (hC : q.1 = C) : PreV s H C (ad k) (xPre D tys ad N g (X H.size) H.size (.ref (ad k) :: As)) As := by
  obtain ⟨h1, h2⟩ := xc_pre hX hXs hw (.ref (ad k) :: As)
  subst hC
  exact ⟨h1, va_recv hw.1 hw.2.1 hc ((st_get hk).trans (by rw [hg])), h2⟩
theorem xc_preS (hX : XOK ad N X) (hXs : X s.heap.size s) (hw : XW D tys (xA ad N s.heap.size) s ad N g H locs) (As : List Value) : PreS s H (xPre D tys ad N g (X H.size) H.size As) As := xc_pre hX hXs hw As
theorem xc_M {post : Option Value → S → Prop} (hw : XW D tys (xA ad N s.heap.size) s ad N g H locs) (hr : va_Run p l e R s m args below meth c H locs cells slots mc ms (F0 m pc ls st) rest (xQ post (xB D ad N E (xA ad N H.size)) (xA ad N H.size) a) (xA ad N H.size))
    (kk : ∀ (v : Option Value) (u : S) (H1 : Heap) (locs1 : List Loc), post v u → XW D tys (xA ad N s.heap.size) s ad N (E u) H1 locs1 → W p l e R s m args below meth c H1 locs1 (cells + mc) (slots + ms) Q (F0 m (pc + 3) ls (v.toList ++ rest))) : W p l e R s m args below meth c H locs cells slots Q (F0 m pc ls st) := by
  have hm := xA_mono (ad := ad) (N := N) hw.2.2.2.1.1
  refine xc_go hr hw.2.2.2.1 (fun q _ h => hm q h) hm (fun v u t H1 locs1 ht hvm hp hb hz hk hS => ?_)
  rw [← ht] at hS ⊢
  exact kk v u t.heap locs1 hp ⟨hw.1, hb.1, xD_any hb.2 (fun k h => xA_in h), hS, hw.2.2.2.2⟩
theorem xc_Mi {pi : Int32 → S → Prop} (hw : XW D tys (xA ad N s.heap.size) s ad N g H locs) (hr : va_Run p l e R s m args below meth c H locs cells slots mc ms (F0 m pc ls st) rest (xQ (xPi pi) (xB D ad N E (xA ad N H.size)) (xA ad N H.size) a) (xA ad N H.size))
    (kk : ∀ (r : Int32) (u : S) (H1 : Heap) (locs1 : List Loc), pi r u → XW D tys (xA ad N s.heap.size) s ad N (E u) H1 locs1 → W p l e R s m args below meth c H1 locs1 (cells + mc) (slots + ms) Q (F0 m (pc + 3) ls (.int r :: rest))) : W p l e R s m args below meth c H locs cells slots Q (F0 m pc ls st) := by
  refine xc_M hw hr (fun v u H1 locs1 hp hw1 => ?_)
  obtain ⟨r, rfl, hp⟩ := hp
  exact kk r u H1 locs1 hp hw1
theorem xc_Mv {pv : S → Prop} (hw : XW D tys (xA ad N s.heap.size) s ad N g H locs) (hr : va_Run p l e R s m args below meth c H locs cells slots mc ms (F0 m pc ls st) rest (xQ (xPv pv) (xB D ad N E (xA ad N H.size)) (xA ad N H.size) a) (xA ad N H.size))
    (kk : ∀ (u : S) (H1 : Heap) (locs1 : List Loc), pv u → XW D tys (xA ad N s.heap.size) s ad N (E u) H1 locs1 → W p l e R s m args below meth c H1 locs1 (cells + mc) (slots + ms) Q (F0 m (pc + 3) ls rest)) : W p l e R s m args below meth c H locs cells slots Q (F0 m pc ls st) := by
  refine xc_M hw hr (fun v u H1 locs1 hp hw1 => ?_)
  obtain ⟨rfl, hp⟩ := hp
  exact kk u H1 locs1 hp hw1
/-- a call that may throw, uncaught here; till then nothing has been changed -/
theorem xc_T {post : Option Value → S → Prop} {postC : Option Value → S → Prop} {err errC : String → Prop} (htb : ∀ x ∈ c.exceptionTable.toList, False) (hlocks : meth.locks = false) (hw : XW D tys (xA ad N s.heap.size) s ad N (E σ) H locs)
    (hr : vx_Run p l e R s m args below meth c H locs cells slots mc ms (F0 m pc ls st) rest (xQ post (xB D ad N E (xA ad N H.size)) (xA ad N H.size) a) (xX D ad N H.size E σ err) (xA ad N H.size)) (hce : ∀ E9, err E9 → errC E9) (hmc : cells + mc ≤ rm.cells) (hms : slots + ms ≤ rm.slots)
    (kk : ∀ (v : Option Value) (u : S) (H1 : Heap) (locs1 : List Loc), post v u → XW D tys (xA ad N s.heap.size) s ad N (E u) H1 locs1 → W p l e R s m args below meth c H1 locs1 (cells + mc) (slots + ms) (vx_MQ below (xQ postC (xB D ad N E (xA ad N s.heap.size)) (xA ad N s.heap.size)) (xX D ad N s.heap.size E σ errC) args s rm.cells rm.slots (xA ad N s.heap.size)) (F0 m (pc + 3) ls (v.toList ++ rest))) :
    W p l e R s m args below meth c H locs cells slots (vx_MQ below (xQ postC (xB D ad N E (xA ad N s.heap.size)) (xA ad N s.heap.size)) (xX D ad N s.heap.size E σ errC) args s rm.cells rm.slots (xA ad N s.heap.size)) (F0 m pc ls st) := by
  have hm := xA_mono (ad := ad) (N := N) hw.2.2.2.1.1
  refine xc_goX hr hw.2.2.2.1 (fun q _ h => hm q h) hm (fun q _ h => hm q h) (fun E9 ce q9 u t H1 locs1 ht hvm _ hb hz hk hS hce9 hcv hcl => ?_) (fun v u t H1 locs1 ht hvm hp hb hz hk hS => ?_)
  · refine vx_out (fun x h => (htb x h).elim) hlocks hce9 hcv hcl (fun t' ht' hvm' => ?_) hS.2.2 hmc hms
    rw [← ht] at ht' hS
    exact ⟨(), trivial, ⟨hce E9 hb.1, by rw [ht']; exact hb.2.1, xD_any hb.2.2 (fun k h => xA_in h)⟩, hS.F ht'⟩
  · rw [← ht] at hS ⊢
    exact kk v u t.heap locs1 hp ⟨hw.1, hb.1, xD_any hb.2 (fun k h => xA_in h), hS, hw.2.2.2.2⟩
end XS
