/-! ===== the calls, one by one: class and model answer alike ===== -/
section SS
variable {k n : Nat} {σ μ : S3} {f : Nat → Int64} {ad : Nat → Nat}
theorem in_iff {Z : Nat → Nat} (hC : Cor k n Z σ μ) (x : Int32) : inI x n ↔ inI x (nm μ) := by
  rw [hC.hnm]
theorem sim_setDues (hk : k < 512) (hI : Inv k n σ μ) : SS_setDues f ad n σ μ (JJ (k + 1) (ad 0)) := by
  intro x0 x1
  obtain ⟨d, hd, h18, hC⟩ := id hI
  refine simJ2 (RC := σ 0 x0.toNatClampNeg 0) (UC := su σ 0 x0.toNatClampNeg 0 x1) (by decide) Iff.rfl (fun _ => Iff.rfl) (fun v s h => h) (fun _ _ => by rw [su_k (by decide)]; exact th0_23 μ) (fun p _ => by rw [th0_k (by decide)]; exact hC.E.1.2 _ p.2) (fun p q => ?_) (inv_23 hI)
  obtain ⟨w, hw, ew⟩ := nI_of2 (M := 100000) (n := 100000) (by decide) q.1 q.2
  subst ew
  exact inv_mk hd (by rw [su_k (by decide)]; exact h18) (cor_d0 (cor_23 hC 0) _ hw)
theorem sim_setStrikePay (hk : k < 512) (hI : Inv k n σ μ) : SS_setStrikePay f ad n σ μ (JJ (k + 1) (ad 0)) := by
  intro x0
  obtain ⟨d, hd, h18, hC⟩ := id hI
  exact simJ1 (RC := σ 17 0 0) (UC := su σ 17 0 0 x0) Iff.rfl (fun v s h => h) (fun _ => by rw [su_k (by decide)]; exact th0_23 μ) (fun p => by rw [th0_k (by decide)]; exact hC.E.1.1 17 0 0 rfl) (fun p => inv_mk hd (by rw [su_k (by decide)]; exact h18) (cor_safe (cor_23 hC 0) rfl rfl 0 0 x0)) (inv_23 hI)
theorem sim_join (hk : k < 512) (hI : Inv k n σ μ) : SS_join f ad n σ μ (JJ (k + 1) (ad 0)) := by
  intro x0 x1
  obtain ⟨d, hd, h18, hC⟩ := id hI
  intro r u b μ1 hl hm
  rw [hC.hnm] at hm
  rcases hl with ⟨rfl, v, q, hp, rfl⟩ | ⟨rfl, he, rfl⟩ | ⟨rfl, he, rfl⟩
  · obtain ⟨hv, hP, hn, hag, hq⟩ := hp
    rcases hm with ⟨q1, -, -⟩ | ⟨q1, q2, -, -⟩ | ⟨q1, q2, rfl, rfl⟩
    · exact absurd hP q1
    · exact absurd hn q2
    · have hv2 : v = nI n := by
        have h := Option.some.inj hv
        injection h
      subst hv2
      refine ⟨by rw [su_k (by decide), su_k (by decide), su_k (by decide)]; exact th0_23 μ, fun _ => pk_uLs (f := f) (k := (0 : Int32).toNatClampNeg) (x := (nI n).toInt64), ?_, hag 0 (by omega)⟩
      show Inv (k + 1) (n + 1) q.2 _
      rw [hq]
      exact inv_mk hd (by rw [su_k (by decide), su_k (by decide)]; exact h18) (cor_join (cor_safe (cor_safe (cor_23 hC 0) (a := 1) rfl rfl n 0 _) (a := 2) rfl rfl n 0 _) hn)
  · have np : ¬ (inI x0 4 ∧ inI x1 3) := he.elim (fun h => h.2) (fun h => absurd h.1 (by decide))
    rcases hm with ⟨-, -, rfl⟩ | ⟨q1, -, -, -⟩ | ⟨q1, -, -, -⟩
    · exact ⟨su_same _ _ _ _ _, fun h => absurd h (by decide), inv_23 hI 1, rfl⟩
    · exact absurd q1 np
    · exact absurd q1 np
  · have np : (inI x0 4 ∧ inI x1 3) ∧ ¬ n < 16 := he.elim (fun h => absurd h.1 (by decide)) (fun h => h.2)
    rcases hm with ⟨q1, -, -⟩ | ⟨-, -, -, rfl⟩ | ⟨-, q2, -, -⟩
    · exact absurd np.1 q1
    · exact ⟨su_same _ _ _ _ _, fun h => absurd h (by decide), inv_23 hI 2, rfl⟩
    · exact absurd q2 np.2
theorem sim_move (hk : k < 512) (hI : Inv k n σ μ) : SS_move f ad n σ μ (JJ (k + 1) (ad 0)) := by
  intro x0 x1 x2
  obtain ⟨d, hd, h18, hC⟩ := id hI
  exact simW2 (UC := su (su σ 1 x0.toNatClampNeg 0 (nI x1.toNatClampNeg)) 2 x0.toNatClampNeg 0 (nI x2.toNatClampNeg)) (by decide) (by rw [hC.hnm]) (fun _ => by rw [hC.E.1.1 3 _ 0 rfl]) (fun s h => h) (fun _ _ => by rw [su_k (by decide), su_k (by decide)]; exact th0_23 μ) (fun p q => inv_mk hd (by rw [su_k (by decide), su_k (by decide)]; exact h18) (cor_safe (cor_safe (cor_23 hC 0) (a := 1) rfl rfl _ 0 _) (a := 2) rfl rfl _ 0 _)) (inv_23 hI)
theorem sim_leave (hk : k < 512) (hI : Inv k n σ μ) : SS_leave f ad n σ μ (JJ (k + 1) (ad 0)) := by
  intro x0 x1 hz
  obtain ⟨d, hd, h18, hC⟩ := id hI
  exact simJ2 (RC := σ 4 x0.toNatClampNeg 0) (UC := su σ 4 x0.toNatClampNeg 0 x1) (by decide) (in_iff hC x0) (fun _ => by rw [hC.E.1.1 3 _ 0 rfl]) (fun v s h => h) (fun _ _ => by rw [su_k (by decide)]; exact th0_23 μ) (fun p _ => by rw [th0_k (by decide)]; exact hC.E.1.1 4 _ 0 rfl) (fun p q => inv_mk hd (by rw [su_k (by decide)]; exact h18) (cor_m4 (cor_23 hC 0) p.2 hz)) (inv_23 hI)
theorem sim_quit (hk : k < 512) (hI : Inv k n σ μ) : SS_quit f ad n σ μ (JJ (k + 1) (ad 0)) := by
  intro x0
  obtain ⟨d, hd, h18, hC⟩ := id hI
  have hN : inI x0 n → Cor k n (fun _ => d / 30) (su σ 3 x0.toNatClampNeg 0 1) (su (th0 μ) 3 x0.toNatClampNeg 0 1) := fun p => cor_m3 (cor_23 hC 0) p.2 1
  exact simJ2 (RC := sOwed (su σ 3 x0.toNatClampNeg 0 1) x0.toNatClampNeg) (UC := su σ 3 x0.toNatClampNeg 0 1) (by decide) (in_iff hC x0) (fun _ => by rw [hC.E.1.1 3 _ 0 rfl]) (fun v s h => h) (fun _ _ => by rw [su_k (by decide)]; exact th0_23 μ) (fun p _ => owed_eq (hN p).E.1 ((hN p).heo _)) (fun p q => inv_mk hd (by rw [su_k (by decide)]; exact h18) (hN p)) (inv_23 hI)
theorem sim_pay (hk : k < 512) (hI : Inv k n σ μ) : SS_pay f ad n σ μ (JJ (k + 1) (ad 0)) := by
  intro x0 x1
  obtain ⟨d, hd, h18, hC⟩ := id hI
  have hN : inI x0 n → rgI x1 1 1000000 → Cor (k + 1) n (fun _ => d / 30) (payF σ x0.toNatClampNeg x1) (mpF μ x0.toNatClampNeg x1) ∧ (mpF μ x0.toNatClampNeg x1) 23 0 0 = 0 ∧ (payF σ x0.toNatClampNeg x1) 18 = σ 18 := fun p q => by
    obtain ⟨A, hA, ea⟩ := nI_of2 (x := x1) (M := 1000000) (n := 1000000) (by decide) (fun h => q.1 (by
      rw [Int32.lt_iff_toInt_lt] at h ⊢
      have e0 : (0 : Int32).toInt = 0 := by decide
      have e1 : (1 : Int32).toInt = 1 := by decide
      omega)) q.2
    exact cor_pay hC (fun _ => by show d / 30 ≤ 60; omega) p.2 hk ea hA
  exact simJ2 (RC := sOwed (payF σ x0.toNatClampNeg x1) x0.toNatClampNeg) (UC := payF σ x0.toNatClampNeg x1) (by decide) (in_iff hC x0) (fun _ => Iff.rfl) (fun v s h => h) (fun p q => (hN p q).2.1) (fun p q => owed_eq (hN p q).1.E.1 ((hN p q).1.heo _)) (fun p q => ⟨d, hd, by rw [(hN p q).2.2]; exact h18, (hN p q).1⟩) (inv_23 hI)
theorem sim_open (hk : k < 512) (hI : Inv k n σ μ) : SS_open f ad n σ μ (JJ (k + 1) (ad 0)) := by
  intro x0
  obtain ⟨d, hd, h18, hC⟩ := id hI
  have hN := cor_open hC x0.toNatClampNeg
  have e18 : (bgF σ x0.toNatClampNeg) 18 0 0 = nI d := by
    unfold bgF
    rw [su_k (by decide), su_k (by decide), su_k (by decide)]
    exact h18
  exact simJ2 (RC := cntF (bgF σ x0.toNatClampNeg) n x0.toNatClampNeg ((bgF σ x0.toNatClampNeg) 18 0 0) 16) (UC := bgF σ x0.toNatClampNeg) (by decide) Iff.rfl (fun _ => by show (σ 10 x0.toNatClampNeg 0 = 0 ∧ σ 14 x0.toNatClampNeg 0 = 0) ↔ (μ 10 x0.toNatClampNeg 0 = 0 ∧ μ 14 x0.toNatClampNeg 0 = 0); rw [hC.E.1.1 10 _ 0 rfl, hC.E.1.1 14 _ 0 rfl]) (fun v s h => h) (fun _ _ => hN.2) (fun p _ => cnt_eq hN.1 hd e18 p.2) (fun _ _ => inv_mk hd e18 hN.1) (inv_23 hI)
theorem sim_vote (hk : k < 512) (hI : Inv k n σ μ) : SS_vote f ad n σ μ (JJ (k + 1) (ad 0)) := by
  intro x0 x1 hz
  obtain ⟨d, hd, h18, hC⟩ := id hI
  have hn := hC.n16
  have hT := cor_23 hC 0
  have ebr : br (th0 μ) x0.toNatClampNeg = br σ x0.toNatClampNeg := E18_br hT.E.1 _
  have hst := std_i hT hd h18 x0.toNatClampNeg
  have hN : inI x0 n → voP σ x0.toNatClampNeg → Cor k n (fun _ => d / 30) (tvF σ (br σ x0.toNatClampNeg) x0.toNatClampNeg x1) (mvF (th0 μ) (br σ x0.toNatClampNeg) x0.toNatClampNeg x1) ∧ (mvF (th0 μ) (br σ x0.toNatClampNeg) x0.toNatClampNeg x1) 23 0 0 = 0 := fun p q =>
    cor_vote hC _ (by have := p.2; omega) ((hv_iff hC _ (by have := p.2; omega)).mp q.2.2) hz
  have e18 : (tvF σ (br σ x0.toNatClampNeg) x0.toNatClampNeg x1) 18 0 0 = nI d := by
    unfold tvF
    by_cases h : x1 = 0
    · rw [if_pos h, su_k (by decide)]
      exact h18
    · rw [if_neg h, su_k (by decide), su_k (by decide)]
      exact h18
  unfold SS_vote at *
  rw [ebr]
  refine simJ2 (RC := bcF ((tvF σ (br σ x0.toNatClampNeg) x0.toNatClampNeg x1) 12 (br σ x0.toNatClampNeg) 0)) (UC := tvF σ (br σ x0.toNatClampNeg) x0.toNatClampNeg x1) (by decide) (in_iff hC x0) (fun p => ?_) (fun v s h => h) (fun p q => (hN p q).2) (fun p q => ?_) (fun p q => inv_mk hd e18 (hN p q).1) (inv_23 hI)
  · show (¬ σ 10 (br σ x0.toNatClampNeg) 0 = 0 ∧ Stands σ x0.toNatClampNeg (σ 18 0 0) ∧ hvI σ (br σ x0.toNatClampNeg) x0.toNatClampNeg = 0) ↔ (¬ th0 μ 10 (br (th0 μ) x0.toNatClampNeg) 0 = 0 ∧ ¬ stmI (th0 μ) x0.toNatClampNeg = 0 ∧ th0 μ 15 (br (th0 μ) x0.toNatClampNeg) x0.toNatClampNeg = 0)
    rw [ebr, hst, hv_iff hC _ (by have := p.2; omega), th0_k (c := 15) (by decide), hT.E.1.1 10 _ 0 rfl]
  · obtain ⟨X, Y, -, -, -, -, -, -, -, f2⟩ := (hN p q).1.vb (br σ x0.toNatClampNeg)
    exact f2
theorem sim_close (hk : k < 512) (hI : Inv k n σ μ) : SS_close f ad n σ μ (JJ (k + 1) (ad 0)) := by
  intro x0
  obtain ⟨d, hd, h18, hC⟩ := id hI
  have hT := cor_safe (cor_23 hC 0) (a := 10) rfl rfl x0.toNatClampNeg 0 0
  have h10 : (su σ 10 x0.toNatClampNeg 0 0) 18 0 0 = nI d := by rw [su_k (by decide)]; exact h18
  have hw : inI x0 4 → wonI σ x0.toNatClampNeg (cntF σ n x0.toNatClampNeg (σ 18 0 0) 16) = wnM (su (th0 μ) 10 x0.toNatClampNeg 0 0) x0.toNatClampNeg := fun p => by
    refine won_eq hC (by rw [su_k (by decide), th0_k (by decide)]) (by rw [su_k (by decide), th0_k (by decide)]) ?_
    have h1 := cnt_eq hT hd h10 p.2
    rw [cntF_t n _ _ (su_fn (by decide)) (su_fn (by decide)) (su_fn (by decide)), su_k (by decide)] at h1
    exact h1
  refine simJ2 (RC := wonI σ x0.toNatClampNeg (cntF σ n x0.toNatClampNeg (σ 18 0 0) 16)) (UC := ebF σ x0.toNatClampNeg (cntF σ n x0.toNatClampNeg (σ 18 0 0) 16)) (by decide) Iff.rfl (fun _ => by rw [hC.E.1.1 10 _ 0 rfl]) (fun v s h => h) (fun _ _ => ?_) (fun p _ => hw p) (fun p q => ?_) (inv_23 hI)
  · unfold mcF
    rw [su_k (by decide), su_k (by decide)]
    exact th0_23 μ
  · show Inv (k + 1) n (ebF σ x0.toNatClampNeg (cntF σ n x0.toNatClampNeg (σ 18 0 0) 16)) (mcF μ x0.toNatClampNeg)
    unfold ebF mcF
    rw [hw p]
    exact inv_mk hd (by rw [su_k (by decide)]; exact h10) (cor_safe hT (a := 13) rfl rfl _ 0 _)
theorem sim_strike (hk : k < 512) (hI : Inv k n σ μ) : SS_strike f ad n σ μ (JJ (k + 1) (ad 0)) := by
  intro x0 x1 hz
  obtain ⟨d, hd, h18, hC⟩ := id hI
  refine simW2 (UC := su (su σ 14 x0.toNatClampNeg 0 x1) 13 x0.toNatClampNeg 0 0) (by decide) Iff.rfl (fun _ => ?_) (fun s h => h) (fun _ _ => by rw [su_k (by decide), su_k (by decide)]; exact th0_23 μ) (fun p q => inv_mk hd (by rw [su_k (by decide), su_k (by decide)]; exact h18) (cor_safe (cor_b14 (cor_23 hC 0) x0.toNatClampNeg hz) (a := 13) rfl rfl _ 0 0)) (inv_23 hI)
  show ((x1 = 0 ∧ ¬ σ 14 x0.toNatClampNeg 0 = 0) ∨ (¬ x1 = 0 ∧ ¬ coI σ x0.toNatClampNeg = 0)) ↔ ((x1 = 0 ∧ ¬ th0 μ 14 x0.toNatClampNeg 0 = 0) ∨ (¬ x1 = 0 ∧ ¬ th0 μ 13 x0.toNatClampNeg 0 = 0 ∧ th0 μ 14 x0.toNatClampNeg 0 = 0 ∧ th0 μ 10 x0.toNatClampNeg 0 = 0))
  rw [co_iff, th0_k (c := 14) (by decide), th0_k (c := 13) (by decide), th0_k (c := 10) (by decide), hC.E.1.1 14 _ 0 rfl, hC.E.1.1 13 _ 0 rfl, hC.E.1.1 10 _ 0 rfl]
theorem sim_advance (hk : k < 512) (hI : Inv k n σ μ) : SS_advance f ad n σ μ (JJ (k + 1) (ad 0)) := by
  intro x0
  obtain ⟨d, hd, h18, hC⟩ := id hI
  have hnw : nw μ = d := nw_of hd (by rw [← hC.E.1.1 18 0 0 rfl]; exact h18)
  have hx : rgI x0 1 100 → ∃ x, x ≤ 100 ∧ x0 = nI x := fun q => nI_of2 (x := x0) (M := 100) (n := 100) (by decide) (fun h => q.1 (by
      rw [Int32.lt_iff_toInt_lt] at h ⊢
      have e0 : (0 : Int32).toInt = 0 := by decide
      have e1 : (1 : Int32).toInt = 1 := by decide
      omega)) q.2
  have hq : rgI x0 1 100 → (x0 ≤ 1800 - σ 18 0 0 ↔ d + x0.toNatClampNeg ≤ 1800) := fun p => by
    obtain ⟨x, hx1, rfl⟩ := hx p
    rw [h18, nI_clamp (by omega), show (1800 : Int32) = nI 1800 from rfl, pk_sub hd, nI_leI (by omega) (by omega)]
    omega
  have hN : rgI x0 1 100 → x0 ≤ 1800 - σ 18 0 0 → Cor k n (fun _ => (d + x0.toNatClampNeg) / 30) (edN σ n x0.toNatClampNeg) (eaN (th0 μ) x0.toNatClampNeg) ∧ (edN σ n x0.toNatClampNeg) 18 0 0 = nI (d + x0.toNatClampNeg) ∧ (eaN (th0 μ) x0.toNatClampNeg) 23 = (th0 μ) 23 := fun p q =>
    edN_sim (cor_23 hC 0) h18 (by omega) _ ((hq p).mp q)
  refine simJ2 (RC := (edN σ n x0.toNatClampNeg) 18 0 0) (UC := edN σ n x0.toNatClampNeg) (by decide) Iff.rfl (fun p => ?_) (fun v s h => h) (fun p q => by rw [(hN p q).2.2]; exact th0_23 μ) (fun p q => ?_) (fun p q => inv_mk ((hq p).mp q) (hN p q).2.1 (hN p q).1) (inv_23 hI)
  · rw [hq p]
    obtain ⟨x, hx1, rfl⟩ := hx p
    rw [hnw, nI_clamp (by omega), nI_add, show (1800 : Int32) = nI 1800 from rfl, nI_leI (by omega) (by omega)]
  · have h := hN p q
    rw [nw_of (μ := eaN (th0 μ) x0.toNatClampNeg) ((hq p).mp q) (by rw [← h.1.E.1.1 18 0 0 rfl]; exact h.2.1)]
    exact h.2.1
theorem sim_fold (hk : k < 512) (hI : Inv k n σ μ) : SS_fold f ad n σ μ (JJ (k + 1) (ad 0)) := by
  intro x0
  obtain ⟨d, hd, h18, hC⟩ := id hI
  have hT := cor_23 hC 0
  have hi : (endP σ x0 ∧ ¬ x0 < nI (fo σ)) ↔ foP μ x0 := by
    show _ ↔ (¬ x0 < 0 ∧ ¬ 60 < x0 ∧ ehP μ x0 ∧ nI (fo μ) - 1 < x0)
    rw [end_iff hC hd h18 x0]
    exact ⟨fun h => ⟨h.1.2.1, h.1.1, h.1.2, (fold_iff hC h.1.2.1).mp h.2⟩, fun h => ⟨⟨h.2.1, h.2.2.1⟩, (fold_iff hC h.1).mpr h.2.2.2⟩⟩
  refine simJ1 (RC := flF σ (fo σ) (x0.toNatClampNeg + 1 - fo σ)) (UC := su σ 20 0 0 (nI (x0.toNatClampNeg + 1))) hi (fun v s h => h) (fun _ => by rw [su_k (by decide)]; exact th0_23 μ) (fun p => ?_) (fun p => inv_mk hd (by rw [su_k (by decide)]; exact h18) (cor_f20 hT ?_)) (inv_23 hI)
  · rw [E18_fo hT.E.1]
    exact fold_eq hT.E.1 _ _
  · obtain ⟨j, hj, e⟩ := nI_of p.1.1
    have h60 := p.1.2.1
    rw [e, show (60 : Int32) = nI 60 from rfl, nI_leI (by decide) hj] at h60
    rw [e, nI_clamp hj]
    omega
theorem sim_day (hk : k < 512) (hI : Inv k n σ μ) : SS_day f ad n σ μ (JJ (k + 1) (ad 0)) := by
  intro r b μ1 hr hm
  obtain ⟨d, hd, h18, hC⟩ := id hI
  obtain ⟨hb, rfl⟩ := hm
  refine ⟨?_, inv_23 hI 0, rfl⟩
  rw [hr, hb, h18, nw_of (μ := th0 μ) hd (by rw [th0_k (by decide), ← hC.E.1.1 18 0 0 rfl]; exact h18)]
theorem sim_fund (hk : k < 512) (hI : Inv k n σ μ) : SS_fund f ad n σ μ (JJ (k + 1) (ad 0)) := by
  intro r b μ1 hr hm
  obtain ⟨d, hd, h18, hC⟩ := id hI
  obtain ⟨hb, rfl⟩ := hm
  refine ⟨?_, inv_23 hI 0, rfl⟩
  rw [hr, hb, th0_k (by decide)]
  exact hC.E.2
theorem sim_owed (hk : k < 512) (hI : Inv k n σ μ) : SS_owed f ad n σ μ (JJ (k + 1) (ad 0)) := by
  intro x0
  obtain ⟨d, hd, h18, hC⟩ := id hI
  exact simJ1 (RC := sOwed σ x0.toNatClampNeg) (UC := σ) (in_iff hC x0) (fun v s h => ⟨h.1, h.2.2, h.2.1⟩) (fun _ => th0_23 μ) (fun p => owed_eq (E18_th hC.E.1) (hC.heo _)) (fun p => inv_23 hI 0) (inv_23 hI)
theorem sim_credit (hk : k < 512) (hI : Inv k n σ μ) : SS_credit f ad n σ μ (JJ (k + 1) (ad 0)) := by
  intro x0
  obtain ⟨d, hd, h18, hC⟩ := id hI
  exact simJ1 (RC := σ 5 x0.toNatClampNeg 0) (UC := σ) (in_iff hC x0) (fun v s h => ⟨h.1, h.2.2, h.2.1⟩) (fun _ => th0_23 μ) (fun p => (E18_th hC.E.1).1 5 _ 0 rfl) (fun p => inv_23 hI 0) (inv_23 hI)
theorem sim_laid (hk : k < 512) (hI : Inv k n σ μ) : SS_laid f ad n σ μ (JJ (k + 1) (ad 0)) := by
  intro x0 x1
  obtain ⟨d, hd, h18, hC⟩ := id hI
  exact simJ2 (RC := σ 8 x0.toNatClampNeg x1.toNatClampNeg) (UC := σ) (by decide) (by rw [end_iff hC hd h18 x1, hC.hnm]) (fun p => fold_iff hC p.2.1) (fun v s h => ⟨h.1, h.2.1, h.2.2.2, h.2.2.1⟩) (fun _ _ => th0_23 μ) (fun p _ => (E18_th hC.E.1).1 8 _ _ rfl) (fun p _ => inv_23 hI 0) (inv_23 hI)
theorem sim_laidFor (hk : k < 512) (hI : Inv k n σ μ) : SS_laidFor f ad n σ μ (JJ (k + 1) (ad 0)) := by
  intro x0 x1
  obtain ⟨d, hd, h18, hC⟩ := id hI
  exact simJ1 (RC := σ 9 x0.toNatClampNeg x1.toNatClampNeg) (UC := σ) (by rw [end_iff hC hd h18 x1]) (fun v s h => ⟨h.1, h.2.2, h.2.1⟩) (fun _ => th0_23 μ) (fun p => (E18_th hC.E.1).1 9 _ _ rfl) (fun p => inv_23 hI 0) (inv_23 hI)
theorem sim_hasStanding (hk : k < 512) (hI : Inv k n σ μ) : SS_hasStanding f ad n σ μ (JJ (k + 1) (ad 0)) := by
  intro x0
  obtain ⟨d, hd, h18, hC⟩ := id hI
  have hT := cor_23 hC 0
  have hst := std_i hT hd h18 x0.toNatClampNeg
  refine simJ1 (RC := stI σ x0.toNatClampNeg (σ 18 0 0)) (UC := σ) (in_iff hC x0) (fun v s h => ⟨h.1, h.2.2, h.2.1⟩) (fun _ => th0_23 μ) (fun p => ?_) (fun p => inv_23 hI 0) (inv_23 hI)
  have h01 := stmI_01 (th0 μ) x0.toNatClampNeg
  unfold stI
  by_cases h : Stands σ x0.toNatClampNeg (σ 18 0 0)
  · rw [if_pos h]
    rcases h01 with q | q
    · exact absurd q (hst.mp h)
    · exact q.symm
  · rw [if_neg h]
    rcases h01 with q | q
    · exact q.symm
    · exact absurd (hst.mpr (by rw [q]; decide)) h
theorem sim_strikePay (hk : k < 512) (hI : Inv k n σ μ) : SS_strikePay f ad n σ μ (JJ (k + 1) (ad 0)) := by
  intro x0
  obtain ⟨d, hd, h18, hC⟩ := id hI
  exact simJ1 (RC := σ 6 x0.toNatClampNeg 0) (UC := σ) (in_iff hC x0) (fun v s h => ⟨h.1, h.2.2, h.2.1⟩) (fun _ => th0_23 μ) (fun p => (E18_th hC.E.1).1 6 _ 0 rfl) (fun p => inv_23 hI 0) (inv_23 hI)
theorem sim_delegates (hk : k < 512) (hI : Inv k n σ μ) : SS_delegates f ad n σ μ (JJ (k + 1) (ad 0)) := by
  intro x0
  obtain ⟨d, hd, h18, hC⟩ := id hI
  exact simJ1 (RC := σ 16 x0.toNatClampNeg 0) (UC := σ) Iff.rfl (fun v s h => ⟨h.1, h.2.2, h.2.1⟩) (fun _ => th0_23 μ) (fun p => (E18_th hC.E.1).1 16 _ 0 rfl) (fun p => inv_23 hI 0) (inv_23 hI)
theorem sim_isOut (hk : k < 512) (hI : Inv k n σ μ) : SS_isOut f ad n σ μ (JJ (k + 1) (ad 0)) := by
  intro x0
  obtain ⟨d, hd, h18, hC⟩ := id hI
  refine simJ1 (RC := σ 14 x0.toNatClampNeg 0) (UC := σ) Iff.rfl (fun v s h => ⟨h.1, h.2.2, h.2.1⟩) (fun _ => th0_23 μ) (fun p => ?_) (fun p => inv_23 hI 0) (inv_23 hI)
  rw [← (E18_th hC.E.1).1 14 _ 0 rfl]
  rcases hC.z14 x0.toNatClampNeg with q | q
  · rw [if_pos q, q]
  · rw [q, if_neg (by decide)]
end SS
theorem eo_si (i : Nat) : eo si0 i = 60 := by
  show (60 : Int32).toNatClampNeg % 61 = 60
  decide +kernel
theorem inv_start : Inv 0 0 si0 mu0 := by
  refine ⟨0, by decide, by decide, ⟨⟨fun a i m ho => ?_, fun b hb => ?_⟩, by decide⟩, ⟨by decide, by decide +kernel⟩, ⟨0, by decide, by decide⟩, fun i => Or.inl rfl, fun b => Or.inl rfl, fun b hb => ?_, fun i => ⟨⟨0, by decide, rfl⟩, fun m => ⟨0, by decide, rfl⟩, Or.inl rfl⟩, fun i => ⟨fun m _ => rfl, fun h => absurd h (by rw [eo_si i]; decide)⟩, fun i m _ => rfl, fun i _ => ⟨rfl, rfl, rfl, rfl, eo_si i, fun _ => rfl, fun _ => rfl⟩, fun b => ⟨0, 0, by decide, by decide, rfl, rfl, fun i _ => ?_, fun i _ h => h, (show bcF 0 = 0 by decide +kernel), (show bcF 0 = 0 + 0 by decide +kernel)⟩⟩
  · unfold si0 mu0
    by_cases h0 : a = 0
    · rw [h0] at ho
      exact absurd ho (by decide)
    · rw [if_neg h0, if_neg h0]
      by_cases h22 : a = 22
      · rw [h22] at ho
        exact absurd ho (by decide)
      · rw [if_neg h22]
  · rcases (show b = 0 ∨ b = 1 ∨ b = 2 by omega) with rfl | rfl | rfl <;> decide +kernel
  · rcases (show b = 0 ∨ b = 1 ∨ b = 2 by omega) with rfl | rfl | rfl
    · exact ⟨1000, by decide, rfl⟩
    · exact ⟨2000, by decide, rfl⟩
    · exact ⟨3000, by decide, rfl⟩
  · rw [Nat.zero_testBit]
    exact ⟨fun h => absurd h (by decide), fun h => absurd rfl h⟩
