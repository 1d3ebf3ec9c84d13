/-! ===== a method that makes cells: the same rows, whatever it answers ===== -/
section XG
variable {p : Program} {l : Launch} {e : Env} {R rm : Room} {s : State} {m : MethodId} {args : Array Value} {below : List Frame} {meth : Method} {c : Code} {H : Heap} {locs : List Loc} {cells slots mc ms : Nat} {Q : State → Prop}
variable {cc : ByteArray} {pc : Nat} {ls : Array Slot} {rest st : List Value} {D : va_G} {tys : List (ClassId × FieldType)} {ad : Nat → Nat} {N nL : Nat} {g : Nat → va_E} {a : Array Value} {Ts : List Cond} {own : String} {S : Type} {E : S → Nat → va_E} {σ τ : S} {X : Nat → State → Prop}
theorem xt_throwG {Qr : Array Value → State → Outcome → State → Prop} {err : String → Prop} {cls text : String} {ik is ic : Nat} (S0 : CallFix p m c cc nL s args Ts RX3) (hl : l.stackTraces = false) (hlocks : meth.locks = false) (htb : ∀ x ∈ c.exceptionTable.toList, False)
    (hw : XW D tys (xA ad N s.heap.size) s ad N (E σ) H locs) (hX : cX ad N s.heap.size s) (hsize : ls.size = nL) (hcls : Bundle.fit cls = true) (hk : Cond.classLink RX3 ik cls ∈ Ts) (hini : Cond.initialized cls ∈ Ts) (hat : ∀ w ∈ (vx_atS RX3 ic cls nm2).filter goodWord, w ∈ Ts)
    (tg : (∀ w ∈ (vx_atS RX3 ic cls nm2).filter (fun w => !goodWord w), w ∈ pm_ws) ∧ ∀ w ∈ Cond.classLink RX3 ik cls :: Cond.initialized cls :: vx_atS RX3 ic cls nm2, vx_ot w = true) (hstr : (is, text) ∈ pm_st)
    (d0 : decode cc pc = .ok (.new ik, 3)) (d3 : decode cc (pc + 3) = .ok (.dup, 1)) (d4 : decode cc (pc + 4) = .ok (.ldc is, 2)) (d6 : decode cc (pc + 6) = .ok (.invokespecial ic, 3)) (d9 : decode cc (pc + 9) = .ok (.athrow, 1))
    (hRf : 5 < rm.frames) (hRl : (rest.map fun v => v.category).sum + 82 ≤ rm.locals) (hc : cells + 1 ≤ rm.cells) (hs : slots + 6 ≤ rm.slots) (herr : err cls) :
    W p l e rm s m args below meth c H locs cells slots (vx_MQ below Qr (xX D ad N s.heap.size E σ err) args s rm.cells rm.slots (xA ad N s.heap.size)) (F0 m pc ls rest) := by
  obtain ⟨hx, hb, hml, hown, hts⟩ := S0
  obtain ⟨sa, hsa⟩ := hX.1.2 _ hstr
  refine vx_throwS (names := nm2) (A := xA ad N s.heap.size) hx hb hl hown hcls (by decide) (hts _ hk) (hts _ hini) hsa (vx_hat (B := pm_ws) (fun w h => hts w (hat w h)) tg.1 (fun w h => va_Nw.use (pm_tab (pm_ok_all w h)) (hX.1.w h))) tg.2 hX.2.1 hX.2.2 hw.2.2.2.1 (hsize.trans hml.symm) d0 d3 d4 d6 d9 (fun x h => (htb x h).elim) hRf hRl (by omega) (by omega) hlocks (fun t hvm hz hq => ?_) hw.2.2.2.1.2.2 hc hs
  have hS := hw.2.2.2.1
  refine ⟨(), trivial, ⟨herr, hw.2.1.kept (fun k q hk => hq q.1 (hw.2.1 k q hk).lt), hw.2.2.1⟩, Nat.le_trans hS.1 hz, fun q h1 h2 => ?_⟩
  rw [hq q (Nat.lt_of_lt_of_le h1 hS.1)]
  exact hS.2.1 q h1 h2
theorem xc_TG {Qr : Array Value → State → Outcome → State → Prop} {post : Option Value → S → Prop} {err errC : String → Prop} (htb : ∀ x ∈ c.exceptionTable.toList, False) (hlocks : meth.locks = false) (hw : XW D tys (xA ad N s.heap.size) s ad N (E σ) H locs)
    (hr : vx_Run p l e R s m args below meth c H locs cells slots mc ms (F0 m pc ls st) rest (xQ post (xB D ad N E (xA ad N H.size)) (xA ad N H.size) a) (xX D ad N H.size E σ err) (xA ad N H.size)) (hce : ∀ E9, err E9 → errC E9) (hmc : cells + mc ≤ rm.cells) (hms : slots + ms ≤ rm.slots)
    (kk : ∀ (v : Option Value) (u : S) (H1 : Heap) (locs1 : List Loc), post v u → XW D tys (xA ad N s.heap.size) s ad N (E u) H1 locs1 → W p l e R s m args below meth c H1 locs1 (cells + mc) (slots + ms) (vx_MQ below Qr (xX D ad N s.heap.size E σ errC) args s rm.cells rm.slots (xA ad N s.heap.size)) (F0 m (pc + 3) ls (v.toList ++ rest))) :
    W p l e R s m args below meth c H locs cells slots (vx_MQ below Qr (xX D ad N s.heap.size E σ errC) args s rm.cells rm.slots (xA ad N s.heap.size)) (F0 m pc ls st) := by
  have hm := xA_mono (ad := ad) (N := N) hw.2.2.2.1.1
  refine xc_goX hr hw.2.2.2.1 (fun q _ h => hm q h) hm (fun q _ h => hm q h) (fun E9 ce q9 u t H1 locs1 ht hvm _ hb hz hk hS hce9 hcv hcl => ?_) (fun v u t H1 locs1 ht hvm hp hb hz hk hS => ?_)
  · refine vx_out (fun x h => (htb x h).elim) hlocks hce9 hcv hcl (fun t' ht' hvm' => ?_) hS.2.2 hmc hms
    rw [← ht] at ht' hS
    exact ⟨(), trivial, ⟨hce E9 hb.1, by rw [ht']; exact hb.2.1, xD_any hb.2.2 (fun k h => xA_in h)⟩, hS.F ht'⟩
  · rw [← ht] at hS ⊢
    exact kk v u t.heap locs1 hp ⟨hw.1, hb.1, xD_any hb.2 (fun k h => xA_in h), hS, hw.2.2.2.2⟩
theorem xs_TG {QQ : Nat → Array Value → State → Outcome → State → Prop} {y : MethodName} {ws ws' : List Cond} {maxL : Nat} {ret : Option FieldType} {av : List Value} {err : String → Prop} (hy : plainName y.cls = true) (hws : ws = Cond.code y cc maxL ret :: ws') (hlen : (lg_sl av).length ≤ maxL)
    (body : ∀ (p : Program) (e : Env) (s : State) (m : MethodId) (below : List Frame) (meth : Method) (c : Code) (ls : Array Slot), CallFix p m c cc maxL s av.toArray ws y.cls → meth.sig.returnType = ret → meth.locks = false → (∀ x ∈ c.exceptionTable.toList, False) → XW D tys (xA ad N s.heap.size) s ad N (E σ) s.heap [] → X s.heap.size s → lv_has ls maxL (lv_args 0 av) →
      W p l e rm s m av.toArray below meth c s.heap [] 0 0 (vx_MQ below (QQ s.heap.size) (xX D ad N s.heap.size E σ err) av.toArray s rm.cells rm.slots (xA ad N s.heap.size)) (F0 m 0 ls [])) : ∀ sz : Nat, vx_Met l y ws rm (xPre D tys ad N (E σ) (X sz) sz av) (QQ sz) (xX D ad N sz E σ err) rm.cells rm.slots (xA ad N sz) := by
  intro sz
  refine vx_ofW (cc := cc) (maxL := maxL) (ret := ret) hy hws ?_
  intro p e s m args below meth c s₁ B hml htb hv
  obtain ⟨rfl, hsz, hK, hP, hD, hX⟩ := hv
  subst hsz
  rw [lg_entry_eq]
  exact body p e s m below meth c _ ⟨B.exec, B.bytes, hml, findClass_of_methodNamed B.named, atoms_spec (ws := ws) B.pre⟩ B.returns B.notSynchronized htb
    ⟨hK, hP, xD_any hD (fun k h => xA_in h), va_S.rf, fun q h => Or.inr h⟩ hX (lv_entry av hlen)
end XG
