/-! ===== one more member in the store ===== -/
theorem st_push3 (ad : Nat → Nat) (N : Nat) (g : Nat → va_E) (q1 q2 q3 : Nat) (e1 e2 e3 : va_E) : st_L ad N g ++ [(q1, e1), (q2, e2), (q3, e3)] = st_L (va_up (va_up (va_up ad N q1) (N + 1) q2) (N + 2) q3) (N + 3) (va_up (va_up (va_up g N e1) (N + 1) e2) (N + 2) e3) := by
  rw [show ([(q1, e1), (q2, e2), (q3, e3)] : va_W) = [(q1, e1)] ++ ([(q2, e2)] ++ [(q3, e3)]) from rfl, ← List.append_assoc, ← List.append_assoc, st_push, st_push, st_push]
theorem cE_old {cy : Nat → ClassId} {ad ad' : Nat → Nat} {n : Nat} {σ : S3} {v w : Int32} (hag : ∀ k, k < 15 + 3 * n → ad' k = ad k) {k : Nat} (hk : k < 15 + 3 * n) (h4 : 4 ≤ k) : cE cy ad' (n + 1) (su (su σ 1 n 0 v) 2 n 0 w) k = cE cy ad n σ k := by
  rcases cE_cases k with rfl | rfl | rfl | rfl | ⟨b, hb, rfl⟩ | ⟨b, hb, rfl⟩ | ⟨b, hb, rfl⟩ | ⟨i, rfl⟩ | ⟨i, rfl⟩ | ⟨i, rfl⟩
  · omega
  · omega
  · omega
  · omega
  · rw [cE_band _ _ _ _ hb, cE_band _ _ _ _ hb]
    simp [eBand, su]
  · rw [cE_br _ _ _ _ hb, cE_br _ _ _ _ hb]
    simp [eBr, su, hag (11 + b) (by omega)]
  · rw [cE_la _ _ _ _ hb, cE_la _ _ _ _ hb]
    have h9 : su (su σ 1 n 0 v) 2 n 0 w 9 b = σ 9 b := by funext m; simp [su]
    rw [h9]
  · have hi : i < n := by omega
    rw [cE_m, cE_m]
    have hbr : br (su (su σ 1 n 0 v) 2 n 0 w) i = br σ i := by unfold br; rw [su_k (by decide), su_i (by omega)]
    have hbd : bd (su (su σ 1 n 0 v) 2 n 0 w) i = bd σ i := by unfold bd; rw [su_i (by omega), su_k (by decide)]
    have heo : eo (su (su σ 1 n 0 v) 2 n 0 w) i = eo σ i := by unfold eo; rw [su_k (by decide), su_k (by decide)]
    have h7 := br_lt σ i
    have h8 := bd_lt σ i
    unfold eMem
    rw [hbr, hbd, heo, hag (16 + 3 * i) (by omega), hag (17 + 3 * i) (by omega), hag (7 + br σ i) (by omega), hag (4 + bd σ i) (by omega)]
    simp [su]
  · rw [cE_ow, cE_ow]
    have h9 : su (su σ 1 n 0 v) 2 n 0 w 7 i = σ 7 i := by funext m; simp [su]
    rw [h9]
  · rw [cE_ml, cE_ml]
    have h9 : su (su σ 1 n 0 v) 2 n 0 w 8 i = σ 8 i := by funext m; simp [su]
    rw [h9]
/-- a member that has just come: nothing owed, nothing had -/
def frM (σ : S3) (n : Nat) : Prop := σ 3 n 0 = 0 ∧ σ 4 n 0 = 0 ∧ σ 5 n 0 = 0 ∧ σ 6 n 0 = 0 ∧ eo σ n = 60 ∧ (∀ m, σ 7 n m = 0) ∧ ∀ m, σ 8 n m = 0
theorem cE_new {cy : Nat → ClassId} {ad : Nat → Nat} {n b b1 : Nat} {σ : S3} (hf : frM σ n) (hb : b < 4) (hb1 : b1 < 3) : cE cy ad (n + 1) (su (su σ 1 n 0 (nI b)) 2 n 0 (nI b1)) (15 + 3 * n) = .inr (2, [.int (nI n), .ref (ad (16 + 3 * n)), .ref (ad (17 + 3 * n)), .ref (ad (7 + b)), .ref (ad (4 + b1)), .int 0, .int 0, .int 0, .int 0, .int 60]) ∧ cE cy ad (n + 1) (su (su σ 1 n 0 (nI b)) 2 n 0 (nI b1)) (16 + 3 * n) = .inl (cy 0, 60, .inl (fun _ => 0)) ∧ cE cy ad (n + 1) (su (su σ 1 n 0 (nI b)) 2 n 0 (nI b1)) (17 + 3 * n) = .inl (cy 0, 60, .inl (fun _ => 0)) := by
  obtain ⟨f3, f4, f5, f6, fe, f7, f8⟩ := hf
  refine ⟨?_, ?_, ?_⟩
  · rw [cE_m]
    have hbr : br (su (su σ 1 n 0 (nI b)) 2 n 0 (nI b1)) n = b := by unfold br; rw [su_k (by decide), su_same, nI_clamp (by omega)]; omega
    have hbd : bd (su (su σ 1 n 0 (nI b)) 2 n 0 (nI b1)) n = b1 := by unfold bd; rw [su_same, nI_clamp (by omega)]; omega
    have heo : eo (su (su σ 1 n 0 (nI b)) 2 n 0 (nI b1)) n = 60 := by unfold eo; rw [su_k (by decide), su_k (by decide)]; exact fe
    unfold eMem
    rw [hbr, hbd, heo, su_k (by decide), su_k (by decide), su_k (by decide), su_k (by decide), su_k (by decide), su_k (by decide), su_k (by decide), su_k (by decide), f3, f4, f5, f6]
    rfl
  · rw [cE_ow]
    have h9 : su (su σ 1 n 0 (nI b)) 2 n 0 (nI b1) 7 n = fun _ => 0 := by funext m; simp [su, f7]
    rw [h9]
  · rw [cE_ml]
    have h9 : su (su σ 1 n 0 (nI b)) 2 n 0 (nI b1) 8 n = fun _ => 0 := by funext m; simp [su, f8]
    rw [h9]
theorem st_last (ad : Nat → Nat) (N : Nat) (g : Nat → va_E) (q : Nat) (e : va_E) : (st_L ad N g ++ [(q, e)])[N]? = some (q, e) := by
  rw [List.getElem?_append_right (by rw [st_len]; exact Nat.le_refl _), st_len, Nat.sub_self]
  rfl
theorem st_oth (ad : Nat → Nat) (N : Nat) (g : Nat → va_E) (q : Nat) (e : va_E) : (List.range N).map (fun i => (st_L ad N g ++ [(q, e)])[i]?) = (st_L ad N g).map some := by
  show _ = ((List.range N).map (fun k => (ad k, g k))).map some
  rw [List.map_map]
  apply List.map_congr_left
  intro i hi
  have h := List.mem_range.mp hi
  rw [List.getElem?_append_left (by rw [st_len]; exact h), st_get h]
  rfl
theorem nd_of : ∀ (l : List Nat), l.Pairwise (fun a b => a ≠ b) → va_nd l = true
  | [], _ => rfl
  | a :: l, h => by
    have h1 := List.pairwise_cons.mp h
    unfold va_nd
    rw [nd_of l h1.2, Bool.and_true]
    exact decide_eq_true (fun hm => h1.1 a hm rfl)
theorem nd_range (N : Nat) : va_nd (List.range N) = true := nd_of _ List.nodup_range
theorem st_join {A0 : Nat → Prop} {D : va_G} {ad : Nat → Nat} {N q q2 q3 : Nat} {g : Nat → va_E} {e e1 e2 e3 : va_E} {H H1 : Heap} (hP : va_P D vwCl (st_L ad N g ++ [(q, e)]) H) (hD : va_D A0 (st_L ad N g ++ [(q, e)]))
    (hk : ∀ x : Nat, x < H.size → ¬ va_A [(q, e)] H.size x → H1[x]? = H[x]?) (hF : ∀ x, va_A [(q, e)] H.size x → A0 x) (hP1 : va_P D vwCl [(q, e1), (q2, e2), (q3, e3)] H1) (hD1 : va_D (va_A [(q, e)] H.size) [(q, e1), (q2, e2), (q3, e3)]) :
    va_P D vwCl (st_L (va_up (va_up (va_up ad N q) (N + 1) q2) (N + 2) q3) (N + 3) (va_up (va_up (va_up g N e1) (N + 1) e2) (N + 2) e3)) H1 ∧ va_D A0 (st_L (va_up (va_up (va_up ad N q) (N + 1) q2) (N + 2) q3) (N + 3) (va_up (va_up (va_up g N e1) (N + 1) e2) (N + 2) e3)) := by
  rw [← st_push3]
  refine va_join (wc := [(q, e)]) hP hD [N] (List.range N) ?_ (st_oth ad N g q e) (nd_range N) (fun i hi => ?_) hk hF hP1 hD1
  · show [(st_L ad N g ++ [(q, e)])[N]?] = _
    rw [st_last]
    rfl
  · have h := List.mem_range.mp hi
    intro hm
    have := List.mem_singleton.mp hm
    omega
theorem st_one {D : va_G} {ad : Nat → Nat} {N q : Nat} {g : Nat → va_E} {e : va_E} {H : Heap} (hP : va_P D vwCl (st_L ad N g ++ [(q, e)]) H) : va_P D vwCl [(q, e)] H :=
  hP.sub [N] (by show List.filterMap _ [N] = _; simp [st_last])
theorem st_oneD {A : Nat → Prop} {ad : Nat → Nat} {N q : Nat} {g : Nat → va_E} {e : va_E} (hD : va_D A (st_L ad N g ++ [(q, e)])) : va_D A [(q, e)] :=
  hD.sub [N] (nd_of _ (List.pairwise_singleton _ _)) (by show [(st_L ad N g ++ [(q, e)])[N]?] = _; rw [st_last]; rfl)
