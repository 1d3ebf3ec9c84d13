/-! ===== rows at a counted index; references compared ===== -/
section XN
variable {p : Program} {l : Launch} {e : Env} {R : Room} {s : State} {m : MethodId} {args : Array Value} {below : List Frame} {meth : Method} {c : Code} {H : Heap} {locs : List Loc} {cells slots : Nat} {Q : State → Prop}
variable {cc : ByteArray} {pc : Nat} {ls : Array Slot} {rest : List Value} {D : va_G} {tys : List (ClassId × FieldType)} {A : Nat → Prop} {ad : Nat → Nat} {N : Nat} {g : Nat → va_E} {nL : Nat} {Ts : List Cond} {own : String}
theorem xn_iald (S : CallFix p m c cc nL s args Ts own) (hw : XW D tys A s ad N g H locs) {k n t0 j : Nat} {cA : ClassId} {f : Nat → Int32} (hk : k < N) (hg : g k = .inl (cA, n, .inl f)) (ht : tys[t0]? = some (cA, .int)) (hj : j < n) (h31 : n < 2 ^ 31) (hdg : decode cc pc = .ok (.iaload, 1))
    (kk : W p l e R s m args below meth c H locs cells slots Q (F0 m (pc + 1) ls (.int (f j) :: rest))) : W p l e R s m args below meth c H locs cells slots Q (F0 m pc ls (.int (nI j) :: .ref (ad k) :: rest)) := by
  refine xr_iald S hw hk hg ht (vp_in_nI hj h31) hdg ?_
  rw [nI_clamp (Nat.lt_trans hj h31)]
  exact kk
theorem xn_zald (S : CallFix p m c cc nL s args Ts own) (hw : XW D tys A s ad N g H locs) {k n t0 j : Nat} {cA : ClassId} {f : Nat → Int32} (hk : k < N) (hg : g k = .inl (cA, n, .inl f)) (ht : tys[t0]? = some (cA, .boolean)) (hj : j < n) (h31 : n < 2 ^ 31) (hdg : decode cc pc = .ok (.baload, 1))
    (kk : W p l e R s m args below meth c H locs cells slots Q (F0 m (pc + 1) ls (.int (f j) :: rest))) : W p l e R s m args below meth c H locs cells slots Q (F0 m pc ls (.int (nI j) :: .ref (ad k) :: rest)) := by
  refine xr_zald S hw hk hg ht (vp_in_nI hj h31) hdg ?_
  rw [nI_clamp (Nat.lt_trans hj h31)]
  exact kk
theorem xn_aald (S : CallFix p m c cc nL s args Ts own) (hw : XW D tys A s ad N g H locs) {k n t0 j : Nat} {cA : ClassId} {C : String} {f : Nat → Option Nat} {v : Value} (hk : k < N) (hg : g k = .inl (cA, n, .inr (.inr (.inr (.inr f))))) (ht : tys[t0]? = some (cA, .object C)) (hj : j < n) (h31 : n < 2 ^ 31) (hv : va_rf (f j) = v) (hdg : decode cc pc = .ok (.aaload, 1))
    (kk : W p l e R s m args below meth c H locs cells slots Q (F0 m (pc + 1) ls (v :: rest))) : W p l e R s m args below meth c H locs cells slots Q (F0 m pc ls (.int (nI j) :: .ref (ad k) :: rest)) := by
  refine xr_aald S hw hk hg ht (vp_in_nI hj h31) hdg ?_
  rw [nI_clamp (Nat.lt_trans hj h31), hv]
  exact kk
theorem xp_aald (S : CallFix p m c cc nL s args Ts own) (hw : XW D tys A s ad N g H locs) {k n t0 : Nat} {cA : ClassId} {C : String} {f : Nat → Option Nat} {v : Value} {i : Int32} (hk : k < N) (hg : g k = .inl (cA, n, .inr (.inr (.inr (.inr f))))) (ht : tys[t0]? = some (cA, .object C)) (hin : vp_in i n) (hv : va_rf (f i.toNatClampNeg) = v) (hdg : decode cc pc = .ok (.aaload, 1))
    (kk : W p l e R s m args below meth c H locs cells slots Q (F0 m (pc + 1) ls (v :: rest))) : W p l e R s m args below meth c H locs cells slots Q (F0 m pc ls (.int i :: .ref (ad k) :: rest)) := by
  refine xr_aald S hw hk hg ht hin hdg ?_
  rw [hv]
  exact kk
theorem xn_iast (S : CallFix p m c cc nL s args Ts own) (hw : XW D tys A s ad N g H locs) {k n t0 j : Nat} {cA : ClassId} {f : Nat → Int32} (hk : k < N) (hg : g k = .inl (cA, n, .inl f)) (ht : tys[t0]? = some (cA, .int)) {x : Int32} (hj : j < n) (h31 : n < 2 ^ 31) (hdg : decode cc pc = .ok (.iastore, 1))
    (g' : Nat → va_E) (he : va_up g k (.inl (cA, n, .inl (upd f j x))) = g')
    (kk : ∀ (H1 : Heap) (locs1 : List Loc), XW D tys A s ad N g' H1 locs1 → W p l e R s m args below meth c H1 locs1 cells slots Q (F0 m (pc + 1) ls rest)) : W p l e R s m args below meth c H locs cells slots Q (F0 m pc ls (.int x :: .int (nI j) :: .ref (ad k) :: rest)) :=
  xr_iast S hw hk hg ht (vp_in_nI hj h31) hdg g' (by rw [nI_clamp (Nat.lt_trans hj h31)]; exact he) kk
theorem xn_zast (S : CallFix p m c cc nL s args Ts own) (hw : XW D tys A s ad N g H locs) {k n t0 j : Nat} {cA : ClassId} {f : Nat → Int32} (hk : k < N) (hg : g k = .inl (cA, n, .inl f)) (ht : tys[t0]? = some (cA, .boolean)) {x : Int32} (hj : j < n) (h31 : n < 2 ^ 31) (hx01 : vp_nar .boolean x = x) (hdg : decode cc pc = .ok (.bastore, 1))
    (g' : Nat → va_E) (he : va_up g k (.inl (cA, n, .inl (upd f j x))) = g')
    (kk : ∀ (H1 : Heap) (locs1 : List Loc), XW D tys A s ad N g' H1 locs1 → W p l e R s m args below meth c H1 locs1 cells slots Q (F0 m (pc + 1) ls rest)) : W p l e R s m args below meth c H locs cells slots Q (F0 m pc ls (.int x :: .int (nI j) :: .ref (ad k) :: rest)) :=
  xr_zast S hw hk hg ht (vp_in_nI hj h31) hx01 hdg g' (by rw [nI_clamp (Nat.lt_trans hj h31)]; exact he) kk
theorem xr_acmpne (hx : p.tables.exec = Jvm.exec) (hb : c.code = cc) (hw : XW D tys A s ad N g H locs) {k1 k2 : Nat} (h1 : k1 < N) (h2 : k2 < N) {off : Int} {tgt : Nat} (hdg : decode cc pc = .ok (.if_acmp .ne off, 3)) (ht : (pc : Int) + off = (tgt : Int))
    (kt : ¬ k1 = k2 → W p l e R s m args below meth c H locs cells slots Q (F0 m tgt ls rest)) (kf : k1 = k2 → W p l e R s m args below meth c H locs cells slots Q (F0 m (pc + 3) ls rest)) : W p l e R s m args below meth c H locs cells slots Q (F0 m pc ls (.ref (ad k2) :: .ref (ad k1) :: rest)) :=
  lv_acmp_ne (rx := some (ad k1)) (ry := some (ad k2)) hx hb hdg ht (fun h => kt (fun e => h (by rw [e]))) (fun h => kf (hw.inj h1 h2 (Option.some.inj h)))
end XN
/-! ===== what the methods of the class do, as functions on the state ===== -/
abbrev inI (p : Int32) (n : Nat) : Prop := ¬ p < 0 ∧ p.toNatClampNeg < n
theorem vp_of_in {p : Int32} {n : Nat} (h : inI p n) : vp_in p n := fun q => q.elim h.1 (fun z => Nat.not_lt.mpr z h.2)
abbrev Stands (σ : S3) (i : Nat) (d : Int32) : Prop := σ 3 i 0 = 0 ∧ ¬ (¬ 60 ≤ nI (eo σ i) ∧ ¬ d < 30 * (nI (eo σ i) + 1) + 60)
def stI (σ : S3) (i : Nat) (d : Int32) : Int32 := if Stands σ i d then 1 else 0
theorem stI_1 {σ : S3} {i : Nat} {d : Int32} : ¬ stI σ i d = 0 ↔ Stands σ i d := by
  unfold stI
  by_cases h : Stands σ i d
  · rw [if_pos h]; exact ⟨fun _ => h, fun _ => by decide⟩
  · rw [if_neg h]; exact ⟨fun z => absurd rfl z, fun z => absurd z h⟩
theorem stI_0 {σ : S3} {i : Nat} {d : Int32} : stI σ i d = 0 ↔ ¬ Stands σ i d := by
  rw [← stI_1, Decidable.not_not]
def sumN (f : Nat → Int32) (a : Nat) : Nat → Int32
  | 0 => 0
  | k + 1 => sumN f a k + f (a + k)
def sOwed (σ : S3) (i : Nat) : Int32 := sumN (σ 7 i) (eo σ i) (60 - eo σ i)
def imin (x y : Int32) : Int32 := if y < x then y else x
def layS (σ : S3) (i m : Nat) : S3 :=
  su (su (su (su σ 5 i 0 (σ 5 i 0 - imin (σ 5 i 0) (σ 7 i m))) 7 i m (σ 7 i m - imin (σ 5 i 0) (σ 7 i m))) 8 i m (σ 8 i m + imin (σ 5 i 0) (σ 7 i m))) 9 (br σ i) m (σ 9 (br σ i) m + imin (σ 5 i 0) (σ 7 i m))
def layL (i : Nat) : Nat → Nat → S3 → Int32 → S3 × Int32
  | 0, _, σ, sh => (σ, sh)
  | k + 1, m, σ, sh => if 0 < σ 5 i 0 then layL i k (m + 1) (layS σ i m) (sh + imin (σ 5 i 0) (σ 7 i m) / 5) else (σ, sh)
def skipL (i : Nat) : Nat → S3 → S3
  | 0, σ => σ
  | k + 1, σ => if σ 7 i (eo σ i) = 0 then skipL i k (su σ 22 i 0 (nI (eo σ i + 1))) else σ
def layQ (σ : S3) (i : Nat) : S3 × Int32 := layL i (60 - eo σ i) (eo σ i) σ 0
def layA (σ : S3) (i : Nat) : S3 × Int32 := (skipL i (60 - eo (layQ σ i).1 i) (layQ σ i).1, (layQ σ i).2)
def takeF (σ : S3) (i : Nat) (a : Int32) : S3 × Int32 := layA (su σ 5 i 0 (σ 5 i 0 + a)) i
def chgE (σ : S3) (i m : Nat) : Nat := if m < eo σ i then m else eo σ i
def chgF (σ : S3) (i : Nat) (p : Int32) : S3 × Int32 :=
  if p < 0 ∨ 60 ≤ p ∨ σ 0 (bd σ i) 0 = 0 then (σ, 0)
  else layA (su (su σ 7 i p.toNatClampNeg (σ 0 (bd σ i) 0)) 22 i 0 (nI (chgE σ i p.toNatClampNeg))) i
theorem eo_su22 {σ : S3} {i e : Nat} (h : e ≤ 60) : eo (su σ 22 i 0 (nI e)) i = e := by
  unfold eo
  rw [su_same, cl_nI (by omega), Nat.mod_eq_of_lt (by omega)]
theorem imin_nI {a b : Nat} (ha : a < 2 ^ 31) (hb : b < 2 ^ 31) : (if nI b < nI a then nI b else nI a) = nI (if b < a then b else a) := by
  by_cases h : b < a
  · rw [if_pos h, if_pos ((nI_ltI hb ha).mpr h)]
  · rw [if_neg h, if_neg (mt (nI_ltI hb ha).mp h)]
theorem i32_ix {p : Int32} (h0 : ¬ p < 0) (h : ¬ 60 ≤ p) : ∃ j : Nat, j < 60 ∧ p = nI j := by
  rcases pk_ix p (n := 60) (by decide) with q | q | q
  · exact absurd q h0
  · exact absurd q h
  · exact q
theorem lt60 {m : Nat} (h : m < 2 ^ 31) : ¬ 60 ≤ nI m ↔ m < 60 := by
  have e : (60 : Int32) = nI 60 := rfl
  rw [e, nI_leI (by decide) h]
  omega
