/-! ===== the law's worlds: parts of a world side by side ===== -/
theorem wd_l (w1 w2 : va_W) : (List.range w1.length).map (fun i => (w1 ++ w2)[i]?) = w1.map some := by
  apply List.ext_getElem?
  intro k
  rw [List.getElem?_map, List.getElem?_map]
  by_cases h : k < w1.length
  · rw [List.getElem?_range h, List.getElem?_eq_getElem h]
    show some ((w1 ++ w2)[k]?) = some (some w1[k])
    rw [List.getElem?_append_left h, List.getElem?_eq_getElem h]
  · rw [List.getElem?_eq_none (by rw [List.length_range]; omega), List.getElem?_eq_none (by omega)]
    rfl
theorem wd_r (w1 w2 : va_W) : ((List.range w2.length).map (fun j => w1.length + j)).map (fun i => (w1 ++ w2)[i]?) = w2.map some := by
  rw [List.map_map]
  apply List.ext_getElem?
  intro k
  rw [List.getElem?_map, List.getElem?_map]
  by_cases h : k < w2.length
  · rw [List.getElem?_range h, List.getElem?_eq_getElem h]
    show some ((w1 ++ w2)[w1.length + k]?) = some (some w2[k])
    rw [List.getElem?_append_right (by omega), Nat.add_sub_cancel_left, List.getElem?_eq_getElem h]
  · rw [List.getElem?_eq_none (by rw [List.length_range]; omega), List.getElem?_eq_none (by omega)]
    rfl
theorem wd_nd (a n : Nat) : va_nd ((List.range n).map (fun j => a + j)) = true :=
  nd_of _ (List.pairwise_map.mpr ((List.nodup_range (n := n)).imp (fun h e => h (by omega))))
theorem wd_join {A0 : Nat → Prop} {D : va_G} {w1 w2 w3 : va_W} {H H1 : Heap} (hP : va_P D vwCl (w1 ++ w2) H) (hD : va_D A0 (w1 ++ w2)) (hk : ∀ q : Nat, q < H.size → ¬ va_A w1 H.size q → H1[q]? = H[q]?) (hF : ∀ q, va_A w1 H.size q → A0 q) (hP1 : va_P D vwCl w3 H1) (hD1 : va_D (va_A w1 H.size) w3) : va_P D vwCl (w2 ++ w3) H1 ∧ va_D A0 (w2 ++ w3) := by
  refine va_join (wc := w1) hP hD (List.range w1.length) ((List.range w2.length).map (fun j => w1.length + j)) (wd_l w1 w2) (wd_r w1 w2) (wd_nd _ _) (fun i hi hm => ?_) hk hF hP1 hD1
  obtain ⟨j, hj, rfl⟩ := List.mem_map.mp hi
  have := List.mem_range.mp hm
  omega
theorem wd_gl {w1 w2 : va_W} {k : Nat} {q : Nat × va_E} (h : w1[k]? = some q) : (w1 ++ w2)[k]? = some q := by
  rw [List.getElem?_append_left (List.getElem?_eq_some_iff.mp h).1]
  exact h
theorem wd_gr {w1 w2 : va_W} {k : Nat} {q : Nat × va_E} (h : w2[k]? = some q) : (w1 ++ w2)[w1.length + k]? = some q := by
  rw [List.getElem?_append_right (by omega), Nat.add_sub_cancel_left]
  exact h
theorem wd_Pl {D : va_G} {w1 w2 : va_W} {H : Heap} (h : va_P D vwCl (w1 ++ w2) H) : va_P D vwCl w1 H := fun k q hk => h k q (wd_gl hk)
theorem wd_Pr {D : va_G} {w1 w2 : va_W} {H : Heap} (h : va_P D vwCl (w1 ++ w2) H) : va_P D vwCl w2 H := fun k q hk => h (w1.length + k) q (wd_gr hk)
theorem wd_Dl {A : Nat → Prop} {w1 w2 : va_W} (h : va_D A (w1 ++ w2)) : va_D A w1 := ⟨fun i j p q hi hj e => h.1 i j p q (wd_gl hi) (wd_gl hj) e, fun k q hk => h.2 k q (wd_gl hk)⟩
theorem wd_Dr {A : Nat → Prop} {w1 w2 : va_W} (h : va_D A (w1 ++ w2)) : va_D A w2 := ⟨fun i j p q hi hj e => by have := h.1 (w1.length + i) (w1.length + j) p q (wd_gr hi) (wd_gr hj) e; omega, fun k q hk => h.2 _ q (wd_gr hk)⟩
theorem wd_ne {A : Nat → Prop} {w1 w2 : va_W} (h : va_D A (w1 ++ w2)) {i j : Nat} {p q : Nat × va_E} (hi : w1[i]? = some p) (hj : w2[j]? = some q) : p.1 ≠ q.1 := fun e => by
  have h1 := h.1 i (w1.length + j) p q (wd_gl hi) (wd_gr hj) e
  have h2 := (List.getElem?_eq_some_iff.mp hi).1
  omega
theorem wd_rotP {D : va_G} {w1 w2 : va_W} {H : Heap} (h : va_P D vwCl (w1 ++ w2) H) : va_P D vwCl (w2 ++ w1) H := (wd_Pr h).app (wd_Pl h)
theorem wd_rotD {A : Nat → Prop} {w1 w2 : va_W} (h : va_D A (w1 ++ w2)) : va_D A (w2 ++ w1) := (wd_Dr h).app (wd_Dl h) (fun _ _ _ _ hi hj e => wd_ne h hj hi e.symm)
theorem wd_sub {w1 w2 : va_W} {sz : Nat} (q : Nat) (h : va_A w1 sz q) : va_A (w1 ++ w2) sz q := h.elim (fun ⟨k, e, hk⟩ => Or.inl ⟨k, e, wd_gl hk⟩) Or.inr
theorem wd_subr {w1 w2 : va_W} {sz : Nat} (q : Nat) (h : va_A w2 sz q) : va_A (w1 ++ w2) sz q := h.elim (fun ⟨k, e, hk⟩ => Or.inl ⟨w1.length + k, e, wd_gr hk⟩) Or.inr
theorem wd_F {A0 : Nat → Prop} {w : va_W} {H0 H : Heap} {locs : List Loc} (hD : va_D A0 w) (hS : va_S A0 H0 H locs) (hA : ∀ q, H0.size ≤ q → A0 q) : ∀ q, va_A w H.size q → A0 q := fun q h => h.elim (fun ⟨k, e, hk⟩ => hD.2 k (q, e) hk) (fun h => hA q (Nat.le_trans hS.1 h))
theorem xA_of {ad : Nat → Nat} {N sz : Nat} {g : Nat → va_E} (q : Nat) : va_A (st_L ad N g) sz q ↔ xA ad N sz q := by
  refine ⟨fun h => h.elim (fun ⟨k, e, hk⟩ => ?_) Or.inr, fun h => h.elim (fun ⟨k, hk, e⟩ => ?_) Or.inr⟩
  · obtain ⟨h1, h2⟩ := st_inv hk
    exact Or.inl ⟨k, h1, congrArg Prod.fst h2⟩
  · subst e
    exact Or.inl ⟨k, g k, st_get hk⟩
theorem xA_eq (ad : Nat → Nat) (N sz : Nat) (g : Nat → va_E) : va_A (st_L ad N g) sz = xA ad N sz := funext fun q => propext (xA_of q)
/-! ===== the law's static methods: the class's store and the cell for its answer ===== -/
theorem lx_asg (vm : Vm) (c : ClassId) : vm.assignable c c = true := by
  show vm.assignableAux (255 + 1) c c = true
  rw [Vm.assignableAux]
  simp only [beq_self_eq_true, Bool.true_or]
abbrev LSt : Type := (Nat → Int64) × (Nat → Nat) × Nat × S3
abbrev eOut (cy : Nat → ClassId) (f : Nat → Int64) : va_E := .inl (cy 5, 1, .inr (.inl f))
abbrev lwC (cy : Nat → ClassId) (u : LSt) : va_W := st_L u.2.1 (15 + 3 * u.2.2.1) (cE cy u.2.1 u.2.2.1 u.2.2.2)
abbrev lwW (cy : Nat → ClassId) (o : Nat) (u : LSt) : va_W := [(o, eOut cy u.1)] ++ lwC cy u
def NC (U : State) : Prop := va_Nc xIA xIO U ∧ va_Nc xIS xIO U ∧ va_Nc xIS xIA U
theorem NC.moved {u U : State} (hvm : u.vm.Alike U.vm) (h : NC u) : NC U := ⟨h.1.moved hvm, h.2.1.moved hvm, h.2.2.moved hvm⟩
def lPre (D : va_G) (cy : Nat → ClassId) (o : Nat) (τ : LSt) (sz : Nat) (av : List Value) : Array Value → State → Prop :=
  va_Pc av (fun U => U.heap.size = sz ∧ va_K D vwCl (tyL cy) U ∧ va_P D vwCl (lwW cy o τ) U.heap ∧ va_D (fun _ => True) (lwW cy o τ) ∧ PM U ∧ PZ (va_A (lwW cy o τ) sz) U U.heap ∧ NC U)
def lB (D : va_G) (cy : Nat → ClassId) (o : Nat) (A : Nat → Prop) : LSt → State → Prop := fun u t => va_P D vwCl (lwW cy o u) t.heap ∧ va_D A (lwW cy o u)
def lX (A : Nat → Prop) : String → State → State → Prop := vx_X (fun _ : Unit => False) (fun _ _ _ => True) A
/-- a contract of one of the law's static methods: it returns -/
def LM (l : Launch) (y : MethodName) (ws : List Cond) (rm : Room) (D : va_G) (cy : Nat → ClassId) (o : Nat) (τ : LSt) (av : List Value) (post : Int32 → LSt → Prop) : Prop :=
  ∀ sz : Nat, vx_Met l y ws rm (lPre D cy o τ sz av) (va_Qi post (lB D cy o (va_A (lwW cy o τ) sz)) (va_A (lwW cy o τ) sz)) (lX (va_A (lwW cy o τ) sz)) rm.cells rm.slots (va_A (lwW cy o τ) sz)
def LW (D : va_G) (cy : Nat → ClassId) (A : Nat → Prop) (s : State) (o : Nat) (u : LSt) (H : Heap) (locs : List Loc) : Prop :=
  va_K D vwCl (tyL cy) s ∧ va_P D vwCl (lwW cy o u) H ∧ va_D A (lwW cy o u) ∧ va_S A s.heap H locs ∧ ∀ q : Nat, s.heap.size ≤ q → A q
abbrev lMQ (below : List Frame) (D : va_G) (cy : Nat → ClassId) (o : Nat) (τ : LSt) (post : Int32 → LSt → Prop) (s : State) (args : Array Value) (mc ms : Nat) : State → Prop :=
  vx_MQ below (va_Qi post (lB D cy o (va_A (lwW cy o τ) s.heap.size)) (va_A (lwW cy o τ) s.heap.size)) (lX (va_A (lwW cy o τ) s.heap.size)) args s mc ms (va_A (lwW cy o τ) s.heap.size)
section LWX
variable {p : Program} {l : Launch} {e : Env} {R rm : Room} {s : State} {m : MethodId} {args : Array Value} {below : List Frame} {meth : Method} {c : Code} {H : Heap} {locs : List Loc} {cells slots mc ms : Nat} {Q : State → Prop}
variable {cc : ByteArray} {pc : Nat} {ls : Array Slot} {rest st : List Value} {D : va_G} {cy : Nat → ClassId} {o : Nat} {τ : LSt} {a : Array Value}
theorem ls_T {y : MethodName} {ws ws' : List Cond} {maxL : Nat} {hh : List (Nat × Nat × Nat × Nat)} {av : List Value} {post : Int32 → LSt → Prop} (hy : plainName y.cls = true) (hws : ws = Cond.codeWith y cc maxL (some .int) hh :: ws') (hlen : (lg_sl av).length ≤ maxL)
    (body : ∀ (p : Program) (e : Env) (s : State) (m : MethodId) (below : List Frame) (meth : Method) (c : Code) (ls : Array Slot), CallFix p m c cc maxL s av.toArray ws y.cls → meth.sig.returnType = some .int → meth.locks = false → c.exceptionTable.toList = tableOf hh → LW D cy (va_A (lwW cy o τ) s.heap.size) s o τ s.heap [] → PM s → PZ (va_A (lwW cy o τ) s.heap.size) s s.heap → NC s → lv_has ls maxL (lv_args 0 av) →
      W p l e rm s m av.toArray below meth c s.heap [] 0 0 (lMQ below D cy o τ post s av.toArray rm.cells rm.slots) (F0 m 0 ls [])) : LM l y ws rm D cy o τ av post := by
  intro sz
  refine vx_ofWH (cc := cc) (maxL := maxL) (ret := some .int) (hh := hh) hy hws ?_
  intro p e s m args below meth c s₁ B hml hv
  obtain ⟨rfl, hsz, hK, hP, hD, hM, hZ, hN⟩ := hv
  subst hsz
  have htb : c.exceptionTable.toList = tableOf hh := vx_table (x := y) B (atoms_spec (ws := ws) B.pre (.codeWith y cc maxL (some .int) hh) (by rw [hws]; exact List.mem_cons_self))
  rw [lg_entry_eq]
  exact body p e s m below meth c _ ⟨B.exec, B.bytes, hml, findClass_of_methodNamed B.named, atoms_spec (ws := ws) B.pre⟩ B.returns B.notSynchronized htb
    ⟨hK, hP, hD.self (sz := s.heap.size), va_S.rf, fun q h => Or.inr h⟩ hM hZ hN (lv_entry av hlen)
/-- the class's own world, at the entry of a static method -/
theorem lw_X {f : Nat → Int64} {ad : Nat → Nat} {n : Nat} {σ : S3} {A : Nat → Prop} (hw : LW D cy A s o (f, ad, n, σ) s.heap []) : XW D (tyL cy) (xA ad (15 + 3 * n) s.heap.size) s ad (15 + 3 * n) (cE cy ad n σ) s.heap [] :=
  ⟨hw.1, wd_Pr hw.2.1, xD_any (wd_Dr hw.2.2.1) (fun k h => xA_in h), va_S.rf, fun q h => Or.inr h⟩
theorem lw_cX {f : Nat → Int64} {ad : Nat → Nat} {n : Nat} {σ : S3} (hM : PM s) (hZ : PZ (va_A (lwW cy o (f, ad, n, σ)) s.heap.size) s s.heap) : cX ad (15 + 3 * n) s.heap.size s :=
  ⟨hM, hZ.narrow (fun q h => wd_subr q ((xA_of q).mpr h))⟩
/-- the call of a method of the class, first thing in a static method -/
theorem lc_T {S9 : Type} {post : Option Value → S9 → Prop} {err : String → Prop} (F : S9 → LSt) {f : Nat → Int64} {ad : Nat → Nat} {n : Nat} {σ : S3} {A : Nat → Prop} (hw : LW D cy A s o (f, ad, n, σ) s.heap [])
    (hr : vx_Run p l e R s m args below meth c s.heap [] cells slots mc ms (F0 m pc ls st) rest (xQ post (fun u t => va_P D vwCl (lwC cy (F u)) t.heap ∧ va_D (xA ad (15 + 3 * n) s.heap.size) (lwC cy (F u))) (xA ad (15 + 3 * n) s.heap.size) a) (xX D ad (15 + 3 * n) s.heap.size (cE cy ad n) σ err) (xA ad (15 + 3 * n) s.heap.size)) (hF : ∀ u, (F u).1 = f)
    (kx : ∀ (E9 : String) (ce : Cell) (q9 : Addr) (H1 : Heap) (locs1 : List Loc), err E9 → LW D cy A s o (f, ad, n, σ) H1 locs1 → H1[q9]? = some ce → ce.vm = .none → s.vm.findClass E9 = some ce.cls → vx_W p l e R s m args below meth c H1 locs1 (cells + mc) (slots + ms) Q (F0 m pc ls rest) q9)
    (kk : ∀ (v : Option Value) (u : S9) (H1 : Heap) (locs1 : List Loc), post v u → LW D cy A s o (F u) H1 locs1 → W p l e R s m args below meth c H1 locs1 (cells + mc) (slots + ms) Q (F0 m (pc + 3) ls (v.toList ++ rest))) : W p l e R s m args below meth c s.heap [] cells slots Q (F0 m pc ls st) := by
  obtain ⟨hK, hP, hD, hS, hA⟩ := hw
  have hsub : ∀ q, va_A (st_L ad (15 + 3 * n) (cE cy ad n σ)) s.heap.size q → A q := wd_F (wd_Dr hD) hS hA
  have hsb : ∀ q, xA ad (15 + 3 * n) s.heap.size q → A q := fun q h => hsub q ((xA_of q).mpr h)
  refine xc_goX hr hS (fun q _ h => hsb q h) hsb (fun q _ h => hsb q h) (fun E9 ce q9 u t H1 locs1 ht hvm _ hb hz hk hS1 hce9 hcv hcl => ?_) (fun v u t H1 locs1 ht hvm hp hb hz hk hS1 => ?_)
  · obtain ⟨hb1, hb2, hb3⟩ := hb
    rw [ht] at hb2
    have hj := wd_join (wd_rotP hP) (wd_rotD hD) (fun q h1 h2 => hk q h1 (fun h => h2 ((xA_of q).mpr h))) hsub hb2 (by rw [xA_eq]; exact hb3)
    exact kx E9 ce q9 H1 locs1 hb1 ⟨hK, hj.1, hj.2, hS1, hA⟩ hce9 hcv hcl
  · obtain ⟨hb2, hb3⟩ := hb
    rw [ht] at hb2
    have hj := wd_join (wd_rotP hP) (wd_rotD hD) (fun q h1 h2 => hk q h1 (fun h => h2 ((xA_of q).mpr h))) hsub hb2 (by rw [xA_eq]; exact hb3)
    have hfu := hF u
    refine kk v u H1 locs1 hp ⟨hK, ?_, ?_, hS1, hA⟩
    · show va_P D vwCl ([(o, eOut cy (F u).1)] ++ lwC cy (F u)) H1
      rw [hfu]
      exact hj.1
    · show va_D A ([(o, eOut cy (F u).1)] ++ lwC cy (F u))
      rw [hfu]
      exact hj.2
/-- a handler for the very class that was thrown -/
theorem lx_catch {own : String} {E : String} {ce : Cell} {q : Addr} (hown : s.vm.findClass own = some m.cls) (pre : List ExceptionTableEntry) (x : ExceptionTableEntry) (suf : List ExceptionTableEntry) (hsplit : c.exceptionTable.toList = pre ++ x :: suf)
    (hpass : ∀ z ∈ pre, covers z pc = false ∨ (z.catchType ≠ 0 ∧ ∃ nm : String, (Cond.classLink own z.catchType nm).before args s = true ∧ va_Nc E nm s)) (hx : covers x pc = true) (h0 : x.catchType ≠ 0)
    (hlink : (Cond.classLink own x.catchType E).before args s = true) (hcell : H[q]? = some ce) (hv : ce.vm = .none) (hcl : s.vm.findClass E = some ce.cls)
    (kk : W p l e R s m args below meth c H locs cells slots Q (F0 m x.handlerPc ls [.ref q])) : vx_W p l e R s m args below meth c H locs cells slots Q (F0 m pc ls rest) q := by
  intro T hT X
  have hpl : e.platform.magicAccessors = ({} : Platform).magicAccessors := by rw [X.admits.platform]
  obtain ⟨c5, hc5, hcl5⟩ := Cond.classLink_spec hown hlink e.platform hpl
  cases Option.some.inj (hcl.symm.trans hc5)
  obtain ⟨vm', X', st⟩ := X.thenCaughtThrough q (g := F0 m pc ls rest) rfl (Steps.refl _) (by rw [hT]; exact hcell) (by rw [hv]; rfl) (by obtain ⟨k9, h9, -⟩ := Vm.findClass_spec hcl; exact ⟨k9, h9⟩) pre x suf hsplit
    (fun z hz => by
      rcases hpass z hz with h | ⟨hz0, nm, hl1, hn1⟩
      · exact Or.inl h
      · obtain ⟨c6, hc6, hcl6⟩ := Cond.classLink_spec hown hl1 e.platform hpl
        obtain ⟨a8, b8, h1, h2, h3⟩ := hn1
        cases Option.some.inj (h1.symm.trans hcl)
        cases Option.some.inj (h2.symm.trans hc6)
        exact Or.inr ⟨hz0, _, hcl6, h3⟩) hx (Or.inr ⟨h0, _, hcl5, lx_asg _ _⟩)
  obtain ⟨t, a1, b1⟩ := kk (T.setVm vm') hT X'
  exact ⟨t, st.trans a1, b1⟩
theorem l_ret {post : Int32 → LSt → Prop} {r : Int32} {u : LSt} (hx : p.tables.exec = Jvm.exec) (hb : c.code = cc) (hr : meth.sig.returnType = some .int) (hlocks : meth.locks = false) (hw : LW D cy (va_A (lwW cy o τ) s.heap.size) s o u H locs) (hp : post r u) (hc : cells ≤ mc) (hs : slots ≤ ms) (hdg : decode cc pc = .ok (.ireturn, 1)) :
    W p l e R s m args below meth c H locs cells slots (lMQ below D cy o τ post s args mc ms) (F0 m pc ls [.int r]) :=
  vx_ret (W.widen hc hs (W.iret hx hb hr (fun t ht hW => ⟨⟨r, u, rfl, hp, by rw [ht]; exact hw.2.1, hw.2.2.1⟩, hw.2.2.2.1.F ht⟩) hw.2.2.2.1.2.2 hdg hlocks))
theorem l_out {u : LSt} {A : Nat → Prop} {v : Int64} (hx : p.tables.exec = Jvm.exec) (hb : c.code = cc) (hw : LW D cy A s o u H locs) (hdg : decode cc pc = .ok (.lastore, 1))
    (kk : ∀ (H1 : Heap) (locs1 : List Loc), LW D cy A s o (vp_updL u.1 (0 : Int32).toNatClampNeg v, u.2) H1 locs1 → W p l e R s m args below meth c H1 locs1 cells slots Q (F0 m (pc + 1) ls rest)) : W p l e R s m args below meth c H locs cells slots Q (F0 m pc ls (.long v :: .int 0 :: .ref o :: rest)) :=
  va_last hx hb hw.1 hw.2.1 hw.2.2.1 hw.2.2.2.1 0 5 rfl rfl (show ¬ ((0 : Int32) < 0 ∨ 1 ≤ (0 : Int32).toNatClampNeg) by decide +kernel) hdg (fun H1 locs1 hP hD hS => kk H1 locs1 ⟨hw.1, hP, hD, hS, hw.2.2.2.2⟩)
end LWX
abbrev lU (f : Nat → Int64) (ad : Nat → Nat) (n : Nat) (σ : S3) (v : Int64) : LSt := (vp_updL f (0 : Int32).toNatClampNeg v, ad, n, σ)
abbrev z64 (r : Int32) : Int64 := if r = 0 then 0 else 1
/-- what a static method answers: its number, and the class's own answer in the long cell -/
abbrev lP1 (f : Nat → Int64) (ad : Nat → Nat) (n : Nat) (σ : S3) (E1 : String) (err : String → Prop) (g : Int32 → Int64) (pi : Int32 → S3 → Prop) : Int32 → LSt → Prop := fun r u => (r = 0 ∧ ∃ v σ1, pi v σ1 ∧ u = lU f ad n σ1 (g v)) ∨ (r = 1 ∧ err E1 ∧ u = (f, ad, n, σ))
abbrev lP2 (f : Nat → Int64) (ad : Nat → Nat) (n : Nat) (σ : S3) (E1 E2 : String) (err : String → Prop) (g : Int32 → Int64) (pi : Int32 → S3 → Prop) : Int32 → LSt → Prop := fun r u => (r = 0 ∧ ∃ v σ1, pi v σ1 ∧ u = lU f ad n σ1 (g v)) ∨ (r = 1 ∧ err E1 ∧ u = (f, ad, n, σ)) ∨ (r = 2 ∧ err E2 ∧ u = (f, ad, n, σ))
abbrev lV2 (f : Nat → Int64) (ad : Nat → Nat) (n : Nat) (σ : S3) (E1 E2 : String) (err : String → Prop) (pv : S3 → Prop) : Int32 → LSt → Prop := fun r u => (r = 0 ∧ ∃ σ1, pv σ1 ∧ u = (f, ad, n, σ1)) ∨ (r = 1 ∧ err E1 ∧ u = (f, ad, n, σ)) ∨ (r = 2 ∧ err E2 ∧ u = (f, ad, n, σ))
abbrev lJ2 (f : Nat → Int64) (ad : Nat → Nat) (n : Nat) (σ : S3) (err : String → Prop) (pj : Option Value → ((Nat → Nat) × S3) → Prop) : Int32 → LSt → Prop := fun r u => (r = 0 ∧ ∃ v q, pj (some (.int v)) q ∧ u = lU f q.1 (n + 1) q.2 v.toInt64) ∨ (r = 1 ∧ err xIO ∧ u = (f, ad, n, σ)) ∨ (r = 2 ∧ err xIS ∧ u = (f, ad, n, σ))
