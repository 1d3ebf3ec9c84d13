/-! THE CLAIM OUT OF ONE WALK OF THE LAW'S BODY. Your part is whole_start (and what it stands on); all else here is the same for every law, but numbers. -/
def R_law : String := "UnionOfficeLaw"
def lw_P (b : Addr) (xs : List Int32) (args : Array Value) (s : State) : Prop := args = #[.ref b] ∧ s.IntsAt b xs ∧ xs.length ≤ 2048 ∧ (Jvm.Cond.and given_1 narrow_1).before args s = true
def lw_Q (_ : Array Value) (s : State) (o : Outcome) (t : State) : Prop := o = .returned (some (.int 1)) ∧ Framed s o t [] 601024 7293034
def lw_Z (below : List Frame) (a : Array Value) (s : State) : State → Prop := fun t => ∃ o, t.status = .running ∧ Ended t below o ∧ lw_Q a s o t
/-- the law's own end, with 1 on the stack, nothing written that was there before, its room as the claim has it -/
theorem lw_ret {p : Program} {l : Launch} {e : Env} {s : State} {m : MethodId} {below : List Frame} {meth : Method} {c : Code} {b : Nat} (hx : p.tables.exec = Jvm.exec) (hb : c.code = code) (hr : meth.sig.returnType = ret) (hlocks : meth.locks = false) {pc : Nat} {H : Heap} {ls : Array Slot} (hdg : decode code pc = .ok (.ireturn, 1)) : W p l e room_1 s m #[Value.ref b] below meth c H [] 601024 7293034 (lw_Z below #[Value.ref b] s) (F0 m pc ls [.int 1]) := by
  intro T hT X
  obtain ⟨fs, hret, hrun, hended, hW, hframe⟩ := X.leave (v := some (.int 1)) (hlocks := hlocks) (fun h => by rw [hr] at h; cases h)
  have hmeth' : T.vm.method? m = some meth := X.method'
  refine ⟨T.setFrames fs, ?_, .returned (some (.int 1)), hrun, hended, rfl, ⟨_, rfl⟩, hW, hframe⟩
  jvm_step X.here [X.here.top, hx, hb, hdg, hmeth', hr, ret, narrow_b1]
  (try refine ⟨rfl, ?_⟩); (try refine ⟨rfl, ?_⟩)
  first | (intro acts; rw [hret _ acts rfl rfl rfl]) | rw [hret _ _ rfl rfl rfl]
  exact Steps.refl _
/-- what holds at the law's entry: the machine, the code, the tables' words (any of lw_tbl by 'hts w (by decide +kernel)'), the script of L ints xs at the cell b, what the Statement gives of the start (any of its parts by flat_of_before) -/
def lw_At (p : Program) (s : State) (m : MethodId) (meth : Method) (c : Code) (b L : Nat) (xs : Nat → Int32) : Prop :=
  p.tables.exec = Jvm.exec ∧ c.code = code ∧ meth.sig.returnType = ret ∧ c.maxLocals = 7 ∧ s.vm.findClass R_law = some m.cls ∧ (∀ w ∈ lw_tbl, w.before #[Value.ref b] s = true) ∧ va_X b L xs s s.heap ∧ b < s.heap.size ∧ meth.locks = false ∧ (Jvm.Cond.and given_1 narrow_1).before #[Value.ref b] s = true
/-! ===== the law's world: the cell for answers, the class's store, the model's store ===== -/
abbrev lA9 (s : State) : Nat → Prop := fun q => s.heap.size ≤ q
abbrev gwW (cy : Nat → ClassId) (o : Nat) (am : Nat → Nat) (u : LSt) (μ : S3) : va_W := lwW cy o u ++ st_L am 18 (mE cy am μ)
def GW (D : va_G) (cy : Nat → ClassId) (s : State) (o : Nat) (am : Nat → Nat) (u : LSt) (μ : S3) (H : Heap) (locs : List Loc) : Prop :=
  va_K D vwCl (tyL cy) s ∧ va_P D vwCl (gwW cy o am u μ) H ∧ va_D (lA9 s) (gwW cy o am u μ) ∧ va_S (lA9 s) s.heap H locs
def GX (s : State) : Prop := PM s ∧ PZ (lA9 s) s s.heap ∧ NC s
theorem k_1l {x a d r : Nat} (h : x + d ≤ r) (h1 : a ≤ d) : x + a ≤ r := by omega
theorem k_2l {x a b d r : Nat} (h : x + d ≤ r) (h1 : a + b ≤ d) : x + a + b ≤ r := by omega
theorem k_3l {x a b c d r : Nat} (h : x + d ≤ r) (h1 : a + b + c ≤ d) : x + a + b + c ≤ r := by omega
theorem k_2e {x a b d : Nat} (h1 : a + b ≤ d) : x + a + b ≤ x + d := by omega
theorem k_3e {x a b c d : Nat} (h1 : a + b + c ≤ d) : x + a + b + c ≤ x + d := by omega
theorem lg_self (x : Int64) : lg_cmp x x = 0 := by
  unfold lg_cmp
  rw [if_neg (fun h => Int64.lt_irrefl h), if_pos rfl]
def SimI (postL : Int32 → LSt → Prop) (postM : Int32 → S3 → Prop) (g : Int32 → Int64) (J : LSt → S3 → Prop) : Prop := ∀ r u b μ, postL r u → postM b μ → μ 23 0 0 = r ∧ (r = 0 → u.1 (0 : Int32).toNatClampNeg = g b) ∧ J u μ
def SimV (postL : Int32 → LSt → Prop) (postM : S3 → Prop) (J : LSt → S3 → Prop) : Prop := ∀ r u μ, postL r u → postM μ → μ 23 0 0 = r ∧ J u μ
section GWX
variable {p : Program} {l : Launch} {e : Env} {R rm : Room} {s : State} {m : MethodId} {args : Array Value} {below : List Frame} {meth : Method} {c : Code} {H : Heap} {locs : List Loc} {cells slots mc ms : Nat} {Q : State → Prop}
variable {cc : ByteArray} {pc : Nat} {ls : Array Slot} {rest st : List Value} {D : va_G} {cy : Nat → ClassId} {o : Nat} {am : Nat → Nat} {u : LSt} {μ : S3} {a : Array Value}
theorem gw_FL (hw : GW D cy s o am u μ H locs) : ∀ q, va_A (lwW cy o u) H.size q → lA9 s q := wd_F (wd_Dl hw.2.2.1) hw.2.2.2 (fun _ h => h)
theorem gw_FM (hw : GW D cy s o am u μ H locs) : ∀ q, xA am 18 H.size q → lA9 s q := fun q h => wd_F (wd_Dr hw.2.2.1) hw.2.2.2 (fun _ h => h) q ((xA_of q).mpr h)
theorem gl_preS (hw : GW D cy s o am u μ H locs) (hg : GX s) (As : List Value) : PreS s H (lPre D cy o u H.size As) As := by
  refine ⟨fun a U g mk q => ?_, fun U hU hW => ?_⟩
  · obtain ⟨q0, q1, qK, qP, qD, qM, qZ, qN⟩ := q
    exact ⟨q0, q1, va_K.moved (u := U) (U := U.calling g mk a) (Vm.Alike.refl U.vm) qK, qP, qD, PM.same (u := U) (U := U.calling g mk a) rfl qM, PZ.moved (u := U) (U := U.calling g mk a) (Vm.Alike.refl U.vm) qZ, NC.moved (u := U) (U := U.calling g mk a) (Vm.Alike.refl U.vm) qN⟩
  · subst hU
    exact ⟨rfl, rfl, va_K.moved hW.alike hw.1, wd_Pl hw.2.1, (wd_Dl hw.2.2.1).weaken (fun _ _ _ _ => trivial), hg.1.warm hW, ((hg.2.1.moved hW.alike).kept hw.2.2.2.2.1).narrow (gw_FL hw), hg.2.2.moved hW.alike⟩
/-- the call of one of the law's static methods -/
theorem gl_T {post : Int32 → LSt → Prop} (hw : GW D cy s o am u μ H locs)
    (hr : vx_Run p l e R s m args below meth c H locs cells slots mc ms (F0 m pc ls st) rest (va_Qi post (lB D cy o (va_A (lwW cy o u) H.size)) (va_A (lwW cy o u) H.size) a) (lX (va_A (lwW cy o u) H.size)) (va_A (lwW cy o u) H.size))
    (kk : ∀ (r : Int32) (u1 : LSt) (H1 : Heap) (locs1 : List Loc), post r u1 → GW D cy s o am u1 μ H1 locs1 → W p l e R s m args below meth c H1 locs1 (cells + mc) (slots + ms) Q (F0 m (pc + 3) ls (.int r :: rest))) : W p l e R s m args below meth c H locs cells slots Q (F0 m pc ls st) := by
  have hF := gw_FL hw
  refine vx_calli hr hw.2.2.2 (fun q _ h => hF q h) hF (fun q _ h => hF q h) (fun E9 ce q9 u9 t H1 locs1 ht hvm hf => hf.elim) (fun r u1 t H1 locs1 ht hvm hp hb hz hk hS1 => ?_)
  obtain ⟨hb2, hb3⟩ := hb
  rw [ht] at hb2
  have hj := wd_join hw.2.1 hw.2.2.1 hk hF hb2 hb3
  exact kk r u1 H1 locs1 hp ⟨hw.1, wd_rotP hj.1, wd_rotD hj.2, hS1⟩
theorem gm_preV (hw : GW D cy s o am u μ H locs) (As : List Value) : PreV s H RX4 (am 0) (xPre D (tyL cy) am 18 (mE cy am μ) (fun _ => True) H.size (.ref (am 0) :: As)) As := by
  refine ⟨fun a U g mk q => ?_, va_recv (ci := 4) (q := (RX4, TX4, 23)) (q0 := 0) hw.1 (wd_Pr hw.2.1) rfl (st_get (by decide)), fun U hU hW => ?_⟩
  · obtain ⟨q0, q1, qK, qP, qD, qX⟩ := q
    exact ⟨q0, q1, va_K.moved (u := U) (U := U.calling g mk a) (Vm.Alike.refl U.vm) qK, qP, qD, trivial⟩
  · subst hU
    exact ⟨rfl, rfl, va_K.moved hW.alike hw.1, wd_Pr hw.2.1, (wd_Dr hw.2.2.1).weaken (fun _ _ _ _ => trivial), trivial⟩
/-- the call of a method of the model -/
theorem gm_T {post : Option Value → S3 → Prop} (hw : GW D cy s o am u μ H locs)
    (hr : va_Run p l e R s m args below meth c H locs cells slots mc ms (F0 m pc ls st) rest (xQ post (xB D am 18 (mE cy am) (xA am 18 H.size)) (xA am 18 H.size) a) (xA am 18 H.size))
    (kk : ∀ (v : Option Value) (μ1 : S3) (H1 : Heap) (locs1 : List Loc), post v μ1 → GW D cy s o am u μ1 H1 locs1 → W p l e R s m args below meth c H1 locs1 (cells + mc) (slots + ms) Q (F0 m (pc + 3) ls (v.toList ++ rest))) : W p l e R s m args below meth c H locs cells slots Q (F0 m pc ls st) := by
  have hF := gw_FM hw
  refine xc_go hr hw.2.2.2 (fun q _ h => hF q h) hF (fun v μ1 t H1 locs1 ht hvm hp hb hz hk hS1 => ?_)
  obtain ⟨hb2, hb3⟩ := hb
  rw [ht] at hb2
  have hj := wd_join (wd_rotP hw.2.1) (wd_rotD hw.2.2.1) (fun q h1 h2 => hk q h1 (fun h => h2 ((xA_of q).mpr h))) (fun q h => hF q ((xA_of q).mp h)) hb2 (by rw [xA_eq]; exact hb3)
  exact kk v μ1 H1 locs1 hp ⟨hw.1, hj.1, hj.2, hS1⟩
theorem gc_FC (hw : GW D cy s o am u μ H locs) : ∀ q, xA u.2.1 (15 + 3 * u.2.2.1) H.size q → lA9 s q := fun q h => wd_F (wd_Dr (wd_Dl hw.2.2.1)) hw.2.2.2 (fun _ h => h) q ((xA_of q).mpr h)
theorem gc_preV {f : Nat → Int64} {ad : Nat → Nat} {n : Nat} {σ : S3} (hw : GW D cy s o am (f, ad, n, σ) μ H locs) (hg : GX s) (As : List Value) : PreV s H RX3 (ad 0) (xPre D (tyL cy) ad (15 + 3 * n) (cE cy ad n σ) (cX ad (15 + 3 * n) H.size) H.size (.ref (ad 0) :: As)) As := by
  refine ⟨fun a U g mk q => ?_, va_recv (ci := 3) (q := (RX3, TX3, 8)) (q0 := 0) hw.1 (wd_Pr (wd_Pl hw.2.1)) rfl (st_get (by omega)), fun U hU hW => ?_⟩
  · obtain ⟨q0, q1, qK, qP, qD, qX⟩ := q
    exact ⟨q0, q1, va_K.moved (u := U) (U := U.calling g mk a) (Vm.Alike.refl U.vm) qK, qP, qD, (cX_ok _ _).1 _ _ _ _ _ qX⟩
  · subst hU
    exact ⟨rfl, rfl, va_K.moved hW.alike hw.1, wd_Pr (wd_Pl hw.2.1), (wd_Dr (wd_Dl hw.2.2.1)).weaken (fun _ _ _ _ => trivial), hg.1.warm hW, ((hg.2.1.moved hW.alike).kept hw.2.2.2.2.1).narrow (gc_FC hw)⟩
/-- the call of a method of the class that does not throw -/
theorem gc_T {f : Nat → Int64} {ad : Nat → Nat} {n : Nat} {σ : S3} {post : Option Value → S3 → Prop} (hw : GW D cy s o am (f, ad, n, σ) μ H locs)
    (hr : va_Run p l e R s m args below meth c H locs cells slots mc ms (F0 m pc ls st) rest (xQ post (xB D ad (15 + 3 * n) (cE cy ad n) (xA ad (15 + 3 * n) H.size)) (xA ad (15 + 3 * n) H.size) a) (xA ad (15 + 3 * n) H.size))
    (kk : ∀ (v : Option Value) (τ : S3) (H1 : Heap) (locs1 : List Loc), post v τ → GW D cy s o am (f, ad, n, τ) μ H1 locs1 → W p l e R s m args below meth c H1 locs1 (cells + mc) (slots + ms) Q (F0 m (pc + 3) ls (v.toList ++ rest))) : W p l e R s m args below meth c H locs cells slots Q (F0 m pc ls st) := by
  have hF := gc_FC hw
  refine xc_go hr hw.2.2.2 (fun q _ h => hF q h) hF (fun v τ t H1 locs1 ht hvm hp hb hz hk hS1 => ?_)
  obtain ⟨hb2, hb3⟩ := hb
  rw [ht] at hb2
  have hP0 : va_P D vwCl (st_L ad (15 + 3 * n) (cE cy ad n σ) ++ (st_L am 18 (mE cy am μ) ++ [(o, eOut cy f)])) H := by
    have h := wd_rotP (w1 := [(o, eOut cy f)]) (w2 := st_L ad (15 + 3 * n) (cE cy ad n σ) ++ st_L am 18 (mE cy am μ)) (by rw [← List.append_assoc]; exact hw.2.1)
    rw [List.append_assoc] at h
    exact h
  have hD0 : va_D (lA9 s) (st_L ad (15 + 3 * n) (cE cy ad n σ) ++ (st_L am 18 (mE cy am μ) ++ [(o, eOut cy f)])) := by
    have h := wd_rotD (w1 := [(o, eOut cy f)]) (w2 := st_L ad (15 + 3 * n) (cE cy ad n σ) ++ st_L am 18 (mE cy am μ)) (by rw [← List.append_assoc]; exact hw.2.2.1)
    rw [List.append_assoc] at h
    exact h
  have hj := wd_join hP0 hD0 (fun q h1 h2 => hk q h1 (fun h => h2 ((xA_of q).mpr h))) (fun q h => hF q ((xA_of q).mp h)) hb2 (by rw [xA_eq]; exact hb3)
  have hjP : va_P D vwCl (st_L am 18 (mE cy am μ) ++ ([(o, eOut cy f)] ++ st_L ad (15 + 3 * n) (cE cy ad n τ))) H1 := by
    have h := hj.1
    rw [List.append_assoc] at h
    exact h
  have hjD : va_D (lA9 s) (st_L am 18 (mE cy am μ) ++ ([(o, eOut cy f)] ++ st_L ad (15 + 3 * n) (cE cy ad n τ))) := by
    have h := hj.2
    rw [List.append_assoc] at h
    exact h
  exact kk v τ H1 locs1 hp ⟨hw.1, wd_rotP hjP, wd_rotD hjD, hS1⟩
theorem g_out (hx : p.tables.exec = Jvm.exec) (hb : c.code = cc) (hw : GW D cy s o am u μ H locs) (hdg : decode cc pc = .ok (.laload, 1))
    (kk : W p l e R s m args below meth c H locs cells slots Q (F0 m (pc + 1) ls (.long (u.1 (0 : Int32).toNatClampNeg) :: rest))) : W p l e R s m args below meth c H locs cells slots Q (F0 m pc ls (.int 0 :: .ref o :: rest)) :=
  va_lald hx hb hw.1 hw.2.1 0 5 rfl rfl (show ¬ ((0 : Int32) < 0 ∨ 1 ≤ (0 : Int32).toNatClampNeg) by decide +kernel) hdg kk
end GWX
