/-! ===== my own rows: a store of N cells, cell k at the address ad k, holding g k ===== -/
def st_L (ad : Nat → Nat) (N : Nat) (g : Nat → va_E) : va_W := (List.range N).map (fun k => (ad k, g k))
theorem st_len (ad : Nat → Nat) (N : Nat) (g : Nat → va_E) : (st_L ad N g).length = N := by simp [st_L]
theorem st_get {ad : Nat → Nat} {N : Nat} {g : Nat → va_E} {k : Nat} (h : k < N) : (st_L ad N g)[k]? = some (ad k, g k) := by
  simp [st_L, h]
theorem st_inv {ad : Nat → Nat} {N : Nat} {g : Nat → va_E} {k : Nat} {q : Nat × va_E} (h : (st_L ad N g)[k]? = some q) : k < N ∧ q = (ad k, g k) := by
  have hk : k < N := by
    have h1 := (List.getElem?_eq_some_iff.mp h).1
    rw [st_len] at h1
    exact h1
  rw [st_get hk] at h
  exact ⟨hk, (Option.some.inj h).symm⟩
theorem st_set {ad : Nat → Nat} {N : Nat} {g : Nat → va_E} {k : Nat} (h : k < N) (e : va_E) : (st_L ad N g).set k (ad k, e) = st_L ad N (va_up g k e) := by
  apply List.ext_getElem?
  intro j
  by_cases hj : j = k
  · subst hj
    rw [List.getElem?_set_self (by rw [st_len]; exact h), st_get h, va_up_self]
  · rw [List.getElem?_set_ne (Ne.symm hj)]
    by_cases hN : j < N
    · rw [st_get hN, st_get hN, va_up_ne _ _ hj]
    · rw [List.getElem?_eq_none (by rw [st_len]; omega), List.getElem?_eq_none (by rw [st_len]; omega)]
theorem st_push (ad : Nat → Nat) (N : Nat) (g : Nat → va_E) (q : Nat) (e : va_E) : st_L ad N g ++ [(q, e)] = st_L (va_up ad N q) (N + 1) (va_up g N e) := by
  apply List.ext_getElem?
  intro j
  by_cases hN : j < N
  · rw [List.getElem?_append_left (by rw [st_len]; exact hN), st_get hN, st_get (by omega), va_up_ne _ _ (by omega), va_up_ne _ _ (by omega)]
  · by_cases hE : j = N
    · subst hE
      rw [List.getElem?_append_right (by rw [st_len]; omega), st_len, Nat.sub_self, st_get (by omega), va_up_self, va_up_self]
      rfl
    · rw [List.getElem?_eq_none (by rw [List.length_append, st_len, List.length_singleton]; omega), List.getElem?_eq_none (by rw [st_len]; omega)]
theorem st_congr {ad : Nat → Nat} {N : Nat} {g g' : Nat → va_E} (h : ∀ k, k < N → g k = g' k) : st_L ad N g = st_L ad N g' := by
  apply List.ext_getElem?
  intro j
  by_cases hN : j < N
  · rw [st_get hN, st_get hN, h j hN]
  · rw [List.getElem?_eq_none (by rw [st_len]; omega), List.getElem?_eq_none (by rw [st_len]; omega)]
/-- which cells a method may change: its store's, and those that it makes -/
def xA (ad : Nat → Nat) (N sz : Nat) : Nat → Prop := fun q => (∃ k, k < N ∧ q = ad k) ∨ sz ≤ q
theorem xA_in {ad : Nat → Nat} {N sz k : Nat} (h : k < N) : xA ad N sz (ad k) := Or.inl ⟨k, h, rfl⟩
theorem xA_mono {ad : Nat → Nat} {N sz sz' : Nat} (h : sz ≤ sz') : ∀ q, xA ad N sz' q → xA ad N sz q := fun _ hq => hq.elim Or.inl (fun z => Or.inr (Nat.le_trans h z))
theorem xD_any {A B : Nat → Prop} {ad : Nat → Nat} {N : Nat} {g : Nat → va_E} (h : va_D A (st_L ad N g)) (hB : ∀ k, k < N → B (ad k)) : va_D B (st_L ad N g) :=
  ⟨h.1, fun k q hk => by obtain ⟨h1, h2⟩ := st_inv hk; rw [h2]; exact hB k h1⟩
/-- the store in the heap, seen from a method's body -/
def XW (D : va_G) (tys : List (ClassId × FieldType)) (A : Nat → Prop) (s : State) (ad : Nat → Nat) (N : Nat) (g : Nat → va_E) (H : Heap) (locs : List Loc) : Prop :=
  va_K D vwCl tys s ∧ va_P D vwCl (st_L ad N g) H ∧ va_D A (st_L ad N g) ∧ va_S A s.heap H locs ∧ ∀ q : Nat, s.heap.size ≤ q → A q
theorem XW.inj {D : va_G} {tys : List (ClassId × FieldType)} {A : Nat → Prop} {s : State} {ad : Nat → Nat} {N : Nat} {g : Nat → va_E} {H : Heap} {locs : List Loc} (h : XW D tys A s ad N g H locs) {i j : Nat} (hi : i < N) (hj : j < N) (e : ad i = ad j) : i = j :=
  h.2.2.1.1 i j _ _ (st_get hi) (st_get hj) e
section XR
variable {p : Program} {l : Launch} {e : Env} {R : Room} {s : State} {m : MethodId} {args : Array Value} {below : List Frame} {meth : Method} {c : Code} {H : Heap} {locs : List Loc} {cells slots : Nat} {Q : State → Prop}
variable {cc : ByteArray} {pc : Nat} {ls : Array Slot} {rest : List Value} {D : va_G} {tys : List (ClassId × FieldType)} {A : Nat → Prop} {ad : Nat → Nat} {N : Nat} {g : Nat → va_E} {nL : Nat} {Ts : List Cond} {own : String}
theorem xr_get (S : CallFix p m c cc nL s args Ts own) (hw : XW D tys A s ad N g H locs) {k ci j index n : Nat} {fs : List Value} {C : String} {T : u_T} {v : Value} (hk : k < N) (hg : g k = .inr (ci, fs)) (hc : vwCl[ci]? = some (C, T, n)) (hin : ∀ w ∈ u_ws C T n, w ∈ Ts) (hj : j < n)
    (hlink : (Cond.fieldLink own index (T j).1 (T j).2.1 (T j).2.2.1).before args s = true) (hv : fs[j]? = some v) (hdg : decode cc pc = .ok (.getfield index, 3))
    (kk : W p l e R s m args below meth c H locs cells slots Q (F0 m (pc + 3) ls (v :: rest))) : W p l e R s m args below meth c H locs cells slots Q (F0 m pc ls (.ref (ad k) :: rest)) :=
  va_get (cl := vwCl) (ws := st_L ad N g) S.1 S.2.1 S.2.2.2.2 hin S.2.2.2.1 hw.1 hw.2.1 k ((st_get hk).trans (by rw [hg])) hc j hj hlink (fun _ h => h) hv hdg kk
theorem xr_getN (S : CallFix p m c cc nL s args Ts own) (hw : XW D tys A s ad N g H locs) {k ci j index n : Nat} {fs : List Value} {C host : String} {T : u_T} {v : Value} (hk : k < N) (hg : g k = .inr (ci, fs)) (hc : vwCl[ci]? = some (C, T, n)) (hin : ∀ w ∈ u_ws C T n, w ∈ Ts) (hj : j < n)
    (hlink : va_Nw (.fieldLinkNest own index (T j).1 (T j).2.1 (T j).2.2.1 host) s) (hv : fs[j]? = some v) (hdg : decode cc pc = .ok (.getfield index, 3))
    (kk : W p l e R s m args below meth c H locs cells slots Q (F0 m (pc + 3) ls (v :: rest))) : W p l e R s m args below meth c H locs cells slots Q (F0 m pc ls (.ref (ad k) :: rest)) :=
  va_getN (cl := vwCl) (ws := st_L ad N g) S.1 S.2.1 S.2.2.2.2 hin S.2.2.2.1 hw.1 hw.2.1 k ((st_get hk).trans (by rw [hg])) hc j hj (va_Nw.use rfl hlink) (fun _ h => h) hv hdg kk
theorem xr_put (S : CallFix p m c cc nL s args Ts own) (hw : XW D tys A s ad N g H locs) {k ci j index n : Nat} {fs : List Value} {C : String} {T : u_T} {v : Value} {ty : FieldType} (ty0 : Nat → FieldType) (hty : ∀ k, k < n → parseFieldDescriptor (T k).2.2.1 = some (ty0 k)) (hnm : ∀ a, a < n → ∀ b, b < n → a ≠ b → (T a).2.1 ≠ (T b).2.1)
    (hk : k < N) (hg : g k = .inr (ci, fs)) (hc : vwCl[ci]? = some (C, T, n)) (hin : ∀ w ∈ u_ws C T n, w ∈ Ts) (hj : j < n) (hlink : (Cond.fieldLink own index (T j).1 (T j).2.1 (T j).2.2.1).before args s = true) (hfin : (T j).2.2.2 = false) (hd : parseFieldDescriptor (T j).2.2.1 = some ty) (hn : narrow ty v = v) (hfit : fits ty v = true) (hl : j < fs.length)
    (hdg : decode cc pc = .ok (.putfield index, 3)) (g' : Nat → va_E) (he : va_up g k (.inr (ci, fs.set j v)) = g')
    (kk : ∀ (H1 : Heap) (locs1 : List Loc), XW D tys A s ad N g' H1 locs1 → W p l e R s m args below meth c H1 locs1 cells slots Q (F0 m (pc + 3) ls rest)) : W p l e R s m args below meth c H locs cells slots Q (F0 m pc ls (v :: .ref (ad k) :: rest)) := by
  subst he
  refine va_put (cl := vwCl) (ws := st_L ad N g) S.1 S.2.1 S.2.2.2.2 hin ty0 hty hnm S.2.2.2.1 hw.1 hw.2.1 hw.2.2.1 hw.2.2.2.1 k ((st_get hk).trans (by rw [hg])) hc j hj hlink (fun _ h => h) hfin hd hn hfit hl hdg (fun H1 locs1 hP hD hS => ?_)
  rw [st_set hk] at hP hD
  exact kk H1 locs1 ⟨hw.1, hP, hD, hS, hw.2.2.2.2⟩
theorem xr_putN (S : CallFix p m c cc nL s args Ts own) (hw : XW D tys A s ad N g H locs) {k ci j index n : Nat} {fs : List Value} {C host : String} {T : u_T} {v : Value} {ty : FieldType} (ty0 : Nat → FieldType) (hty : ∀ k, k < n → parseFieldDescriptor (T k).2.2.1 = some (ty0 k)) (hnm : ∀ a, a < n → ∀ b, b < n → a ≠ b → (T a).2.1 ≠ (T b).2.1)
    (hk : k < N) (hg : g k = .inr (ci, fs)) (hc : vwCl[ci]? = some (C, T, n)) (hin : ∀ w ∈ u_ws C T n, w ∈ Ts) (hj : j < n) (hlink : va_Nw (.fieldLinkNest own index (T j).1 (T j).2.1 (T j).2.2.1 host) s) (hfin : (T j).2.2.2 = false) (hd : parseFieldDescriptor (T j).2.2.1 = some ty) (hn : narrow ty v = v) (hfit : fits ty v = true) (hl : j < fs.length)
    (hdg : decode cc pc = .ok (.putfield index, 3)) (g' : Nat → va_E) (he : va_up g k (.inr (ci, fs.set j v)) = g')
    (kk : ∀ (H1 : Heap) (locs1 : List Loc), XW D tys A s ad N g' H1 locs1 → W p l e R s m args below meth c H1 locs1 cells slots Q (F0 m (pc + 3) ls rest)) : W p l e R s m args below meth c H locs cells slots Q (F0 m pc ls (v :: .ref (ad k) :: rest)) := by
  subst he
  refine va_putN (cl := vwCl) (ws := st_L ad N g) S.1 S.2.1 S.2.2.2.2 hin ty0 hty hnm S.2.2.2.1 hw.1 hw.2.1 hw.2.2.1 hw.2.2.2.1 k ((st_get hk).trans (by rw [hg])) hc j hj (va_Nw.use rfl hlink) (fun _ h => h) hfin hd hn hfit hl hdg (fun H1 locs1 hP hD hS => ?_)
  rw [st_set hk] at hP hD
  exact kk H1 locs1 ⟨hw.1, hP, hD, hS, hw.2.2.2.2⟩
theorem xr_putF (S : CallFix p m c cc nL s args Ts own) (hw : XW D tys A s ad N g H locs) (hin2 : meth.name = "<init>") {k ci j index n : Nat} {fs : List Value} {C : String} {T : u_T} {v : Value} {ty : FieldType} (ty0 : Nat → FieldType) (hty : ∀ k, k < n → parseFieldDescriptor (T k).2.2.1 = some (ty0 k)) (hnm : ∀ a, a < n → ∀ b, b < n → a ≠ b → (T a).2.1 ≠ (T b).2.1)
    (hk : k < N) (hg : g k = .inr (ci, fs)) (hc : vwCl[ci]? = some (C, T, n)) (hin : ∀ w ∈ u_ws C T n, w ∈ Ts) (hj : j < n) (hlink : (Cond.fieldLink own index (T j).1 (T j).2.1 (T j).2.2.1).before args s = true) (hfin : (T j).2.2.2 = true) (hdecl : (T j).1 = own) (hd : parseFieldDescriptor (T j).2.2.1 = some ty) (hn : narrow ty v = v) (hfit : fits ty v = true) (hl : j < fs.length)
    (hdg : decode cc pc = .ok (.putfield index, 3)) (g' : Nat → va_E) (he : va_up g k (.inr (ci, fs.set j v)) = g')
    (kk : ∀ (H1 : Heap) (locs1 : List Loc), XW D tys A s ad N g' H1 locs1 → W p l e R s m args below meth c H1 locs1 cells slots Q (F0 m (pc + 3) ls rest)) : W p l e R s m args below meth c H locs cells slots Q (F0 m pc ls (v :: .ref (ad k) :: rest)) := by
  subst he
  refine va_putF (cl := vwCl) (ws := st_L ad N g) S.1 S.2.1 S.2.2.2.2 hin ty0 hty hnm S.2.2.2.1 hw.1 hw.2.1 hw.2.2.1 hw.2.2.2.1 k ((st_get hk).trans (by rw [hg])) hc j hj hlink (fun _ h => h) hfin hin2 hdecl hd hn hfit hl hdg (fun H1 locs1 hP hD hS => ?_)
  rw [st_set hk] at hP hD
  exact kk H1 locs1 ⟨hw.1, hP, hD, hS, hw.2.2.2.2⟩
theorem xr_iald (S : CallFix p m c cc nL s args Ts own) (hw : XW D tys A s ad N g H locs) {k n t0 : Nat} {cA : ClassId} {f : Nat → Int32} (hk : k < N) (hg : g k = .inl (cA, n, .inl f)) (ht : tys[t0]? = some (cA, .int)) {i : Int32} (hin : vp_in i n) (hdg : decode cc pc = .ok (.iaload, 1))
    (kk : W p l e R s m args below meth c H locs cells slots Q (F0 m (pc + 1) ls (.int (f i.toNatClampNeg) :: rest))) : W p l e R s m args below meth c H locs cells slots Q (F0 m pc ls (.int i :: .ref (ad k) :: rest)) :=
  va_iald (cl := vwCl) (ws := st_L ad N g) S.1 S.2.1 hw.1 hw.2.1 k t0 ((st_get hk).trans (by rw [hg])) ht hin hdg kk
theorem xr_zald (S : CallFix p m c cc nL s args Ts own) (hw : XW D tys A s ad N g H locs) {k n t0 : Nat} {cA : ClassId} {f : Nat → Int32} (hk : k < N) (hg : g k = .inl (cA, n, .inl f)) (ht : tys[t0]? = some (cA, .boolean)) {i : Int32} (hin : vp_in i n) (hdg : decode cc pc = .ok (.baload, 1))
    (kk : W p l e R s m args below meth c H locs cells slots Q (F0 m (pc + 1) ls (.int (f i.toNatClampNeg) :: rest))) : W p l e R s m args below meth c H locs cells slots Q (F0 m pc ls (.int i :: .ref (ad k) :: rest)) :=
  va_zald (cl := vwCl) (ws := st_L ad N g) S.1 S.2.1 hw.1 hw.2.1 k t0 ((st_get hk).trans (by rw [hg])) ht hin hdg kk
theorem xr_aald (S : CallFix p m c cc nL s args Ts own) (hw : XW D tys A s ad N g H locs) {k n t0 : Nat} {cA : ClassId} {C : String} {f : Nat → Option Nat} (hk : k < N) (hg : g k = .inl (cA, n, .inr (.inr (.inr (.inr f))))) (ht : tys[t0]? = some (cA, .object C)) {i : Int32} (hin : vp_in i n) (hdg : decode cc pc = .ok (.aaload, 1))
    (kk : W p l e R s m args below meth c H locs cells slots Q (F0 m (pc + 1) ls (va_rf (f i.toNatClampNeg) :: rest))) : W p l e R s m args below meth c H locs cells slots Q (F0 m pc ls (.int i :: .ref (ad k) :: rest)) :=
  va_aldq (cl := vwCl) (ws := st_L ad N g) S.1 S.2.1 hw.1 hw.2.1 k t0 ((st_get hk).trans (by rw [hg])) ht hin hdg kk
theorem xr_iast (S : CallFix p m c cc nL s args Ts own) (hw : XW D tys A s ad N g H locs) {k n t0 : Nat} {cA : ClassId} {f : Nat → Int32} (hk : k < N) (hg : g k = .inl (cA, n, .inl f)) (ht : tys[t0]? = some (cA, .int)) {i x : Int32} (hin : vp_in i n) (hdg : decode cc pc = .ok (.iastore, 1))
    (g' : Nat → va_E) (he : va_up g k (.inl (cA, n, .inl (upd f i.toNatClampNeg x))) = g')
    (kk : ∀ (H1 : Heap) (locs1 : List Loc), XW D tys A s ad N g' H1 locs1 → W p l e R s m args below meth c H1 locs1 cells slots Q (F0 m (pc + 1) ls rest)) : W p l e R s m args below meth c H locs cells slots Q (F0 m pc ls (.int x :: .int i :: .ref (ad k) :: rest)) := by
  subst he
  refine va_iast (cl := vwCl) (ws := st_L ad N g) S.1 S.2.1 hw.1 hw.2.1 hw.2.2.1 hw.2.2.2.1 k t0 ((st_get hk).trans (by rw [hg])) ht hin hdg (fun H1 locs1 hP hD hS => ?_)
  rw [st_set hk] at hP hD
  exact kk H1 locs1 ⟨hw.1, hP, hD, hS, hw.2.2.2.2⟩
theorem xr_zast (S : CallFix p m c cc nL s args Ts own) (hw : XW D tys A s ad N g H locs) {k n t0 : Nat} {cA : ClassId} {f : Nat → Int32} (hk : k < N) (hg : g k = .inl (cA, n, .inl f)) (ht : tys[t0]? = some (cA, .boolean)) {i x : Int32} (hin : vp_in i n) (hx01 : vp_nar .boolean x = x) (hdg : decode cc pc = .ok (.bastore, 1))
    (g' : Nat → va_E) (he : va_up g k (.inl (cA, n, .inl (upd f i.toNatClampNeg x))) = g')
    (kk : ∀ (H1 : Heap) (locs1 : List Loc), XW D tys A s ad N g' H1 locs1 → W p l e R s m args below meth c H1 locs1 cells slots Q (F0 m (pc + 1) ls rest)) : W p l e R s m args below meth c H locs cells slots Q (F0 m pc ls (.int x :: .int i :: .ref (ad k) :: rest)) := by
  subst he
  refine va_zast (cl := vwCl) (ws := st_L ad N g) S.1 S.2.1 hw.1 hw.2.1 hw.2.2.1 hw.2.2.2.1 k t0 ((st_get hk).trans (by rw [hg])) ht hin hdg (fun H1 locs1 hP hD hS => ?_)
  rw [hx01, st_set hk] at hP hD
  exact kk H1 locs1 ⟨hw.1, hP, hD, hS, hw.2.2.2.2⟩
theorem xr_aast (S : CallFix p m c cc nL s args Ts own) (hw : XW D tys A s ad N g H locs) {k n t0 kv ci : Nat} {cA : ClassId} {q : vw_C} {vs : List Value} {f : Nat → Option Nat} (hk : k < N) (hg : g k = .inl (cA, n, .inr (.inr (.inr (.inr f))))) (ht : tys[t0]? = some (cA, .object q.1)) (hkv : kv < N) (hgv : g kv = .inr (ci, vs)) (hc : vwCl[ci]? = some q) {i : Int32} (hin : vp_in i n) (hdg : decode cc pc = .ok (.aastore, 1))
    (g' : Nat → va_E) (he : va_up g k (.inl (cA, n, .inr (.inr (.inr (.inr (va_up f i.toNatClampNeg (some (ad kv)))))))) = g')
    (kk : ∀ (H1 : Heap) (locs1 : List Loc), XW D tys A s ad N g' H1 locs1 → W p l e R s m args below meth c H1 locs1 cells slots Q (F0 m (pc + 1) ls rest)) : W p l e R s m args below meth c H locs cells slots Q (F0 m pc ls (.ref (ad kv) :: .int i :: .ref (ad k) :: rest)) := by
  subst he
  refine va_astq (cl := vwCl) (ws := st_L ad N g) S.1 S.2.1 hw.1 hw.2.1 hw.2.2.1 hw.2.2.2.1 k t0 kv ci ((st_get hk).trans (by rw [hg])) ht ((st_get hkv).trans (by rw [hgv])) hc hin hdg (fun H1 locs1 hP hD hS => ?_)
  rw [st_set hk] at hP hD
  exact kk H1 locs1 ⟨hw.1, hP, hD, hS, hw.2.2.2.2⟩
theorem xr_alen (S : CallFix p m c cc nL s args Ts own) (hw : XW D tys A s ad N g H locs) {k t0 : Nat} {cA : ClassId} {x : vp_A} {ty : FieldType} (hk : k < N) (hg : g k = .inl (cA, x)) (ht : tys[t0]? = some (cA, ty)) {v : Int32} (hv : Int32.ofNat x.1 = v) (hdg : decode cc pc = .ok (.arraylength, 1))
    (kk : W p l e R s m args below meth c H locs cells slots Q (F0 m (pc + 1) ls (.int v :: rest))) : W p l e R s m args below meth c H locs cells slots Q (F0 m pc ls (.ref (ad k) :: rest)) :=
  va_alen (cl := vwCl) (ws := st_L ad N g) S.1 S.2.1 hw.1 hw.2.1 k t0 ((st_get hk).trans (by rw [hg])) ht hv hdg kk
end XR
/-! contracts over a store -/
def xQ {S : Type} (post : Option Value → S → Prop) (B : S → State → Prop) (A : Nat → Prop) : Array Value → State → Outcome → State → Prop := fun _ st oc t => (∃ (v : Option Value) (u : S), oc = .returned v ∧ post v u ∧ B u t) ∧ va_F A st t
def xPi {S : Type} (pi : Int32 → S → Prop) : Option Value → S → Prop := fun v u => ∃ r : Int32, v = some (.int r) ∧ pi r u
def xPv {S : Type} (pv : S → Prop) : Option Value → S → Prop := fun v u => v = none ∧ pv u
def xPr {S : Type} (pr : Nat → S → Prop) : Option Value → S → Prop := fun v u => ∃ r : Nat, v = some (.ref r) ∧ pr r u
def xPre (D : va_G) (tys : List (ClassId × FieldType)) (ad : Nat → Nat) (N : Nat) (g : Nat → va_E) (X : State → Prop) (sz : Nat) (av : List Value) : Array Value → State → Prop :=
  va_Pc av (fun U => U.heap.size = sz ∧ va_K D vwCl tys U ∧ va_P D vwCl (st_L ad N g) U.heap ∧ va_D (fun _ => True) (st_L ad N g) ∧ X U)
def xB {S : Type} (D : va_G) (ad : Nat → Nat) (N : Nat) (E : S → Nat → va_E) (A : Nat → Prop) : S → State → Prop := fun u t => va_P D vwCl (st_L ad N (E u)) t.heap ∧ va_D A (st_L ad N (E u))
/-- a contract of a method that returns -/
def XM {S : Type} (l : Launch) (y : MethodName) (ws : List Cond) (rm : Room) (D : va_G) (tys : List (ClassId × FieldType)) (ad : Nat → Nat) (N : Nat) (X : Nat → State → Prop) (E : S → Nat → va_E) (av : List Value) (σ : S) (post : Option Value → S → Prop) : Prop :=
  ∀ sz : Nat, Met l y ws rm (xPre D tys ad N (E σ) (X sz) sz av) (xQ post (xB D ad N E (xA ad N sz)) (xA ad N sz)) rm.cells rm.slots (xA ad N sz)
def xX {S : Type} (D : va_G) (ad : Nat → Nat) (N sz : Nat) (E : S → Nat → va_E) (σ : S) (err : String → Prop) : String → State → State → Prop :=
  vx_X (fun _ : Unit => True) (fun E9 _ t => err E9 ∧ xB D ad N E (xA ad N sz) σ t) (xA ad N sz)
/-- a contract of a method that returns or throws; when it throws nothing has changed -/
def XT {S : Type} (l : Launch) (y : MethodName) (ws : List Cond) (rm : Room) (D : va_G) (tys : List (ClassId × FieldType)) (ad : Nat → Nat) (N : Nat) (X : Nat → State → Prop) (E : S → Nat → va_E) (av : List Value) (σ : S) (post : Option Value → S → Prop) (err : String → Prop) : Prop :=
  ∀ sz : Nat, vx_Met l y ws rm (xPre D tys ad N (E σ) (X sz) sz av) (xQ post (xB D ad N E (xA ad N sz)) (xA ad N sz)) (xX D ad N sz E σ err) rm.cells rm.slots (xA ad N sz)
/-- what a contract may ask of the state beside the store -/
def XOK (ad : Nat → Nat) (N : Nat) (X : Nat → State → Prop) : Prop :=
  (∀ (sz : Nat) (a : Array Value) (U : State) (g : JFrame) (mk : MethodId), X sz U → X sz (U.calling g mk a)) ∧
  ∀ s U : State, s.WarmedH U.vm → X s.heap.size s → s.heap.size ≤ U.heap.size → (∀ q : Nat, q < s.heap.size → ¬ xA ad N s.heap.size q → U.heap[q]? = s.heap[q]?) → X U.heap.size U
theorem XOK.tt (ad : Nat → Nat) (N : Nat) : XOK ad N (fun _ _ => True) := ⟨fun _ _ _ _ _ _ => trivial, fun _ _ _ _ _ _ => trivial⟩
section XC
variable {p : Program} {l : Launch} {e : Env} {R : Room} {s : State} {m : MethodId} {args : Array Value} {below : List Frame} {meth : Method} {c : Code} {H : Heap} {locs : List Loc} {cells slots mc ms : Nat} {Q : State → Prop}
variable {cc : ByteArray} {pc : Nat} {ls : Array Slot} {rest st0 : List Value} {D : va_G} {tys : List (ClassId × FieldType)} {A0 A1 AX free : Nat → Prop} {H0 : Heap} {ad : Nat → Nat} {N : Nat} {g : Nat → va_E} {a : Array Value}
theorem xc_go {S : Type} {post : Option Value → S → Prop} {B : S → State → Prop} (hr : va_Run p l e R s m args below meth c H locs cells slots mc ms (F0 m pc ls st0) rest (xQ post B A1 a) free) (hS : va_S A0 H0 H locs) (hA : ∀ q, q < H.size → A1 q → A0 q) (hf : ∀ q, free q → A0 q)
    (kk : ∀ (v : Option Value) (u : S) (t : State) (H1 : Heap) (locs1 : List Loc), t.heap = H1 → s.vm.Alike t.vm → post v u → B u t → H.size ≤ H1.size → (∀ q : Nat, q < H.size → ¬ A1 q → H1[q]? = H[q]?) → va_S A0 H0 H1 locs1 → W p l e R s m args below meth c H1 locs1 (cells + mc) (slots + ms) Q (F0 m (pc + 3) ls (v.toList ++ rest))) : W p l e R s m args below meth c H locs cells slots Q (F0 m pc ls st0) := by
  intro T hT X
  obtain ⟨v9, st₀, t, T', L, h0, X', hL, e1, e2, ⟨⟨v, u, hv, hp, hb⟩, hz, hk⟩, st⟩ := hr T hT X
  cases hv
  rw [h0] at hz hk
  obtain ⟨t2, a1, b1⟩ := kk v9 u t T'.heap (locs ++ L) e1.symm (by rw [← e2]; exact X'.warmed.alike) hp hb (by rw [e1]; exact hz) (fun q h1 h2 => by rw [e1]; exact hk q h1 h2)
    ⟨Nat.le_trans hS.1 (by rw [e1]; exact hz), fun q h1 h2 => by rw [e1, hk q (Nat.lt_of_lt_of_le h1 hS.1) (fun z => h2 (hA q (Nat.lt_of_lt_of_le h1 hS.1) z))]; exact hS.2.1 q h1 h2, fun q hq => by
      rcases List.mem_append.mp hq with h | h
      · exact hS.2.2 q h
      · exact hf _ (hL q h)⟩ T' rfl X'
  exact ⟨t2, st t2 a1, b1⟩
theorem xc_goX {S SX : Type} {post : Option Value → S → Prop} {px : SX → Prop} {B : S → State → Prop} {BX : String → SX → State → Prop} (hr : vx_Run p l e R s m args below meth c H locs cells slots mc ms (F0 m pc ls st0) rest (xQ post B A1 a) (vx_X px BX AX) free) (hS : va_S A0 H0 H locs) (hA : ∀ q, q < H.size → A1 q → A0 q) (hf : ∀ q, free q → A0 q) (hAX : ∀ q, q < H.size → AX q → A0 q)
    (kx : ∀ (E : String) (ce : Cell) (q9 : Addr) (u : SX) (t : State) (H1 : Heap) (locs1 : List Loc), t.heap = H1 → s.vm.Alike t.vm → px u → BX E u t → H.size ≤ H1.size → (∀ q : Nat, q < H.size → ¬ AX q → H1[q]? = H[q]?) → va_S A0 H0 H1 locs1 → H1[q9]? = some ce → ce.vm = .none → s.vm.findClass E = some ce.cls → vx_W p l e R s m args below meth c H1 locs1 (cells + mc) (slots + ms) Q (F0 m pc ls rest) q9)
    (kk : ∀ (v : Option Value) (u : S) (t : State) (H1 : Heap) (locs1 : List Loc), t.heap = H1 → s.vm.Alike t.vm → post v u → B u t → H.size ≤ H1.size → (∀ q : Nat, q < H.size → ¬ A1 q → H1[q]? = H[q]?) → va_S A0 H0 H1 locs1 → W p l e R s m args below meth c H1 locs1 (cells + mc) (slots + ms) Q (F0 m (pc + 3) ls (v.toList ++ rest))) : W p l e R s m args below meth c H locs cells slots Q (F0 m pc ls st0) := by
  intro T hT X
  rcases hr T hT X with ⟨v9, st₀, t, T', L, h0, X', hL, e1, e2, ⟨⟨v, u, hv, hp, hb⟩, hF⟩, st⟩ | ⟨q9, st₀, t, T', L, E, ce, h0, X', hL, e1, e2, ⟨u, hp, hb, hF⟩, hce, hcv, hcl, st⟩
  · cases hv
    obtain ⟨z1, k1, hS1⟩ := vx_keep h0 e1 hS hA hf hL hF
    obtain ⟨t2, a1, b1⟩ := kk v9 u t T'.heap (locs ++ L) e1.symm (by rw [← e2]; exact X'.warmed.alike) hp hb z1 k1 hS1 T' rfl X'
    exact ⟨t2, st t2 a1, b1⟩
  · obtain ⟨z1, k1, hS1⟩ := vx_keep h0 e1 hS hAX hf hL hF
    obtain ⟨t2, a1, b1⟩ := kx E ce q9 u t T'.heap (locs ++ L) e1.symm (by rw [← e2]; exact X'.warmed.alike) hp hb z1 k1 hS1 (by rw [e1]; exact hce) hcv hcl T' rfl X'
    exact ⟨t2, Steps.trans st a1, b1⟩
end XC
