/-! ===== a day ===== -/
section DAY
variable {k n : Nat} {Z : Nat → Nat} {σ μ : S3} {d : Nat}
theorem std_i (hC : Cor k n Z σ μ) (hd : d ≤ 1800) (h18 : σ 18 0 0 = nI d) (i : Nat) : Stands σ i (σ 18 0 0) ↔ ¬ stmI μ i = 0 := by
  rw [h18]
  exact std_eq hC.E.1 (hC.heo i) hd h18
theorem cor_str (hC : Cor k n Z σ μ) (hd : d ≤ 1800) (h18 : σ 18 0 0 = nI d) {j : Nat} (hj : j < n) : Cor k n Z (strS σ n j) (psS μ j) ∧ (strS σ n j) 18 = σ 18 ∧ (psS μ j) 23 = μ 23 := by
  have hiff : strP σ n j ↔ psP μ j := by
    show (j < n ∧ ¬ σ 14 (br σ j) 0 = 0 ∧ Stands σ j (σ 18 0 0) ∧ ¬ σ 19 0 0 < σ 17 0 0) ↔ (¬ μ 14 (br μ j) 0 = 0 ∧ ¬ stmI μ j = 0 ∧ ¬ μ 19 0 0 < μ 17 0 0)
    rw [std_i hC hd h18 j, E18_br hC.E.1, ← hC.E.1.1 14 _ 0 rfl, ← hC.E.2, ← hC.E.1.1 17 0 0 rfl]
    exact ⟨fun h => h.2, fun h => ⟨hj, h⟩⟩
  unfold strS psS
  by_cases h : strP σ n j
  · rw [if_pos h, if_pos (hiff.mp h)]
    have h1 := cor_m6 (cor_19 hC (σ 19 0 0 - σ 17 0 0)) hj (σ 6 j 0 + σ 17 0 0)
    rw [← hC.E.2, ← hC.E.1.1 17 0 0 rfl, ← hC.E.1.1 6 j 0 rfl]
    exact ⟨h1, by rw [su_fn (by decide), su_fn (by decide)], by rw [su_fn (by decide), su_fn (by decide)]⟩
  · rw [if_neg h, if_neg (mt hiff.mpr h)]
    exact ⟨hC, rfl, rfl⟩
theorem cor_strF (hC : Cor k n Z σ μ) (hd : d ≤ 1800) (h18 : σ 18 0 0 = nI d) : ∀ j, j ≤ n → Cor k n Z (strF σ n j) (psF μ j) ∧ (strF σ n j) 18 = σ 18 ∧ (psF μ j) 23 = μ 23
  | 0, _ => ⟨hC, rfl, rfl⟩
  | j + 1, hj => by
    obtain ⟨h1, h2, h3⟩ := cor_strF hC hd h18 j (by omega)
    obtain ⟨g1, g2, g3⟩ := cor_str h1 hd (by rw [h2]; exact h18) (j := j) (by omega)
    exact ⟨g1, g2.trans h2, g3.trans h3⟩
theorem strF_ge (σ : S3) (n : Nat) : ∀ t, strF σ n (n + t) = strF σ n n
  | 0 => rfl
  | t + 1 => by
    show strS (strF σ n (n + t)) n (n + t) = strF σ n n
    unfold strS
    rw [if_neg (fun h => absurd h.1 (by omega))]
    exact strF_ge σ n t
theorem ed1_sim (hC : Cor k n Z σ μ) (hd : d ≤ 1800) (h18 : σ 18 0 0 = nI d) : Cor k n Z (ed1 σ n) (psF μ (nm μ)) ∧ (ed1 σ n) 18 = σ 18 ∧ (psF μ (nm μ)) 23 = μ 23 := by
  have h := cor_strF hC hd h18 n (Nat.le_refl n)
  have hn := hC.n16
  have e : ed1 σ n = strF σ n n := by
    show strF σ n 16 = strF σ n n
    have h2 := strF_ge σ n (16 - n)
    rw [Nat.add_sub_cancel' hn] at h2
    exact h2
  rw [e, hC.hnm]
  exact h
abbrev Zj (p j : Nat) : Nat → Nat := fun i => if i < j then p + 1 else p
theorem Zj_le (p j i : Nat) : Zj p j i ≤ Zj p (j + 1) i := by
  show (if i < j then p + 1 else p) ≤ (if i < j + 1 then p + 1 else p)
  by_cases h1 : i < j
  · rw [if_pos h1, if_pos (by omega)]
    exact Nat.le_refl _
  · rw [if_neg h1]
    by_cases h2 : i < j + 1
    · rw [if_pos h2]
      omega
    · rw [if_neg h2]
      exact Nat.le_refl _
theorem mlA_id (hC : Cor k n Z σ μ) (hk : k ≤ 512) (i : Nat) : mlA μ i = μ := by
  obtain ⟨⟨c, hc, e5⟩, hw, h4⟩ := hC.mn i
  unfold mlA
  rw [mlF_G]
  refine mlG_id 60 0 (fun x _ _ => ?_)
  obtain ⟨w, hw1, e7⟩ := hw x
  refine imc_0 (c := c) (w := w) (by rw [← hC.E.1.1 5 i 0 rfl]; exact e5) (by rw [← hC.E.1.1 7 i x rfl]; exact e7) (by omega) (by omega) ?_
  rcases h4 with h | h
  · left
    rw [e5, show (0 : Int32) = nI 0 from rfl, nI_eq (by omega) (by decide)] at h
    exact h
  · right
    have h := h x
    rw [e7, show (0 : Int32) = nI 0 from rfl, nI_eq (by omega) (by decide)] at h
    exact h
theorem cor_chg {p j : Nat} (hp : p < 60) (hC : Cor k n (Zj p j) σ μ) (hj : j < n) (hk : k ≤ 512) : Cor k n (Zj p (j + 1)) (cdS σ n (nI p) j) (tdS μ p j) ∧ (cdS σ n (nI p) j) 18 = σ 18 ∧ (tdS μ p j) 23 = μ 23 := by
  have hiff : cdP σ n j ↔ tdP μ j := by
    show (j < n ∧ σ 3 j 0 = 0 ∧ σ 4 j 0 = 0) ↔ (μ 3 j 0 = 0 ∧ μ 4 j 0 = 0)
    rw [← hC.E.1.1 3 j 0 rfl, ← hC.E.1.1 4 j 0 rfl]
    exact ⟨fun h => h.2, fun h => ⟨hj, h⟩⟩
  by_cases h : cdP σ n j
  · unfold cdS tdS
    rw [if_pos h, if_pos (hiff.mp h)]
    have hbd : μ 0 (bd μ j) 0 = σ 0 (bd σ j) 0 := by
      rw [E18_bd hC.E.1]
      exact (hC.E.1.2 _ (bd_lt σ j)).symm
    obtain ⟨w, hw, ew⟩ := hC.du _ (bd_lt σ j)
    have hzj : Zj p j j = p := if_neg (Nat.lt_irrefl j)
    have e7 : μ 7 j p = 0 := by
      rw [← hC.E.1.1 7 j p rfl]
      exact hC.zf j p (by rw [hzj]; exact Nat.le_refl p)
    rw [hbd, e7, Int32.zero_add]
    by_cases h0 : w = 0
    · have ec : chgF σ j (nI p) = (σ, 0) := by
        unfold chgF
        rw [if_pos (Or.inr (Or.inr (by rw [ew, h0]; rfl)))]
      have em : su μ 7 j p (σ 0 (bd σ j) 0) = μ := by
        rw [ew, h0, show nI 0 = μ 7 j p from e7.symm]
        exact su_eta μ 7 j p
      rw [ec, em, mlA_id hC hk j]
      dsimp only
      rw [Int32.add_zero, su_eta]
      exact ⟨cor_Z hC (Zj_le p j), rfl, rfl⟩
    · have hn : ¬ (nI p < 0 ∨ 60 ≤ nI p ∨ σ 0 (bd σ j) 0 = 0) := by
        intro q
        rcases q with q | q | q
        · exact nI_pos (by omega) q
        · rw [show (60 : Int32) = nI 60 from rfl, nI_leI (by decide) (by omega)] at q
          omega
        · rw [ew, show (0 : Int32) = nI 0 from rfl, nI_eq (by omega) (by decide)] at q
          exact h0 q
      have ec : chgF σ j (nI p) = layA (su (su σ 7 j p (σ 0 (bd σ j) 0)) 22 j 0 (nI (chgE σ j p))) j := by
        unfold chgF
        rw [if_neg hn, nI_clamp (by omega)]
      rw [ec]
      have hle := eo_le σ j
      have hce : chgE σ j p ≤ p ∧ chgE σ j p ≤ eo σ j := by
        unfold chgE
        by_cases hq : p < eo σ j
        · rw [if_pos hq]
          omega
        · rw [if_neg hq]
          omega
      obtain ⟨⟨c, hc, e5⟩, hw7, -⟩ := hC.mn j
      have L := cor_lay (k' := k) (Z := Zj p j) (Z' := Zj p (j + 1)) (σ0 := su (su σ 7 j p (σ 0 (bd σ j) 0)) 22 j 0 (nI (chgE σ j p))) (μ0 := su μ 7 j p (σ 0 (bd σ j) 0)) (i := j) (C := c) (z := σ 19 0 0) hC hj (Nat.le_refl k)
        ⟨fun q h5 h7 _ _ h22 => (su_fn h22).trans (su_fn h7), fun q i _ hi => (su_fi hi).trans (su_fi hi)⟩ ((hC.E.1.su1 7 j p _).suL rfl (by decide)) (by rw [su_k (by decide)]; exact hC.E.2.symm)
        (fun q hq _ => su_fn (fun e => by rw [e] at hq; exact absurd hq (by decide))) ⟨⟨c, Nat.le_refl c, by rw [su_k (by decide), su_k (by decide)]; exact e5⟩, fun m => by
          rw [su_k (by decide)]
          by_cases hm : m = p
          · rw [hm, su_same]
            exact ⟨w, hw, ew⟩
          · rw [su_m hm]
            exact hw7 m⟩ hc (by omega)
        (fun m hm => by
          rw [eo_su22 (by omega)] at hm
          rw [su_k (by decide), su_m (by omega)]
          exact (hC.heo j).1 m (by omega))
        (fun m hm => by
          have hm : p + 1 ≤ m := by
            have h9 : Zj p (j + 1) j = p + 1 := if_pos (Nat.lt_succ_self j)
            rw [h9] at hm
            exact hm
          rw [su_k (by decide), su_m (by omega)]
          exact hC.zf j m (by rw [hzj]; omega))
        (by show (if j < j + 1 then p + 1 else p) ≤ 60; rw [if_pos (Nat.lt_succ_self j)]; omega)
        (fun i hi => by
          show (if i < j + 1 then p + 1 else p) = (if i < j then p + 1 else p)
          by_cases h1 : i < j
          · rw [if_pos h1, if_pos (by omega)]
          · rw [if_neg h1, if_neg (by omega)])
      exact ⟨L.1, L.2.2, L.2.1.trans (su_fn (by decide))⟩
  · unfold cdS tdS
    rw [if_neg h, if_neg (mt hiff.mpr h)]
    exact ⟨cor_Z hC (Zj_le p j), rfl, rfl⟩
theorem cor_cdF {p : Nat} (hp : p < 60) (hC : Cor k n (fun _ => p) σ μ) (hk : k ≤ 512) : ∀ j, j ≤ n → Cor k n (Zj p j) (cdF σ n (nI p) j) (tdF μ p j) ∧ (cdF σ n (nI p) j) 18 = σ 18 ∧ (tdF μ p j) 23 = μ 23
  | 0, _ => ⟨cor_Z hC (fun i => Nat.le_of_eq (if_neg (Nat.not_lt_zero i)).symm), rfl, rfl⟩
  | j + 1, hj => by
    obtain ⟨h1, h2, h3⟩ := cor_cdF hp hC hk j (by omega)
    obtain ⟨g1, g2, g3⟩ := cor_chg hp h1 (by omega) hk
    exact ⟨g1, g2.trans h2, g3.trans h3⟩
theorem cdF_ge (σ : S3) (n : Nat) (x : Int32) : ∀ t, cdF σ n x (n + t) = cdF σ n x n
  | 0 => rfl
  | t + 1 => by
    show cdS (cdF σ n x (n + t)) n x (n + t) = cdF σ n x n
    unfold cdS
    rw [if_neg (fun h => absurd h.1 (by omega))]
    exact cdF_ge σ n x t
theorem rem_iff {d r q : Nat} (hd : d < 2 ^ 31) (h0 : 0 < r) (hr : r < 2 ^ 31) (hq : q < r) : (nI d - nI d / nI r * nI r = nI q) ↔ d % r = q := by
  have h := Nat.mod_lt d h0
  rw [pk_rem hd h0 hr, nI_eq (by omega) (by omega)]
theorem ed2_sim (hC : Cor k n (fun _ => d / 30) σ μ) (hd : d < 1800) (h18 : σ 18 0 0 = nI d) (hk : k ≤ 512) : Cor k n (fun _ => (d + 1) / 30) (ed2 σ n) (eaB μ) ∧ (ed2 σ n) 18 = σ 18 ∧ (eaB μ) 23 = μ 23 := by
  obtain ⟨h1, h2, h3⟩ := ed1_sim hC (by omega) h18
  have hn := hC.n16
  unfold ed2 eaB
  generalize ed1 σ n = σ1 at *
  generalize psF μ (nm μ) = μ1 at *
  have e18 : σ1 18 0 0 = nI d := by rw [h2]; exact h18
  have hnw : nw μ1 = d := nw_of (by omega) (by rw [← h1.E.1.1 18 0 0 rfl]; exact e18)
  rw [e18, hnw, h1.hnm]
  have hc : (nI d - nI d / 30 * 30 = 29) ↔ d % 30 = 29 := rem_iff (r := 30) (q := 29) (by omega) (by decide) (by decide) (by decide)
  by_cases h : d % 30 = 29
  · rw [if_pos (hc.mpr h), if_pos (hc.mpr h), show (30 : Int32) = nI 30 from rfl, pk_div (by omega) (by decide) (by decide)]
    obtain ⟨g1, g2, g3⟩ := cor_cdF (p := d / 30) (by omega) h1 hk n (Nat.le_refl n)
    have e : cdF σ1 n (nI (d / 30)) 16 = cdF σ1 n (nI (d / 30)) n := by
      have h4 := cdF_ge σ1 n (nI (d / 30)) (16 - n)
      rw [Nat.add_sub_cancel' hn] at h4
      exact h4
    rw [e]
    refine ⟨cor_Z g1 (fun i => ?_), g2.trans h2, g3.trans h3⟩
    show (if i < n then d / 30 + 1 else d / 30) ≤ (d + 1) / 30
    by_cases hi : i < n
    · rw [if_pos hi]
      omega
    · rw [if_neg hi]
      omega
  · rw [if_neg (mt hc.mp h), if_neg (mt hc.mp h)]
    exact ⟨cor_Z h1 (fun i => by show d / 30 ≤ (d + 1) / 30; omega), h2, h3⟩
theorem cntF_eq (hC : Cor k n Z σ μ) (hd : d ≤ 1800) (h18 : σ 18 0 0 = nI d) {b : Nat} (hb : b < 4) : ∀ j, j ≤ n → cntF σ n b (σ 18 0 0) j = cntM μ (nI b) j
  | 0, _ => rfl
  | j + 1, hj => by
    have ih := cntF_eq hC hd h18 hb j (by omega)
    have hbr := br_lt σ j
    show (if j < n ∧ br σ j = b ∧ Stands σ j (σ 18 0 0) then cntF σ n b (σ 18 0 0) j + 1 else cntF σ n b (σ 18 0 0) j) = (if nI (br μ j) = nI b ∧ ¬ stmI μ j = 0 then cntM μ (nI b) j + 1 else cntM μ (nI b) j + 0)
    rw [ih, E18_br hC.E.1]
    by_cases h : br σ j = b ∧ ¬ stmI μ j = 0
    · rw [if_pos ⟨by omega, h.1, (std_i hC hd h18 j).mpr h.2⟩, if_pos ⟨by rw [h.1], h.2⟩]
    · rw [if_neg (fun q => h ⟨q.2.1, (std_i hC hd h18 j).mp q.2.2⟩), if_neg (fun q => h ⟨(nI_eq (by omega) (by omega)).mp q.1, q.2⟩), Int32.add_zero]
theorem cntF_ge (σ : S3) (n b : Nat) (x : Int32) : ∀ t, cntF σ n b x (n + t) = cntF σ n b x n
  | 0 => rfl
  | t + 1 => by
    show (if n + t < n ∧ br σ (n + t) = b ∧ Stands σ (n + t) x then cntF σ n b x (n + t) + 1 else cntF σ n b x (n + t)) = cntF σ n b x n
    rw [if_neg (fun h => absurd h.1 (by omega))]
    exact cntF_ge σ n b x t
theorem cnt_eq (hC : Cor k n Z σ μ) (hd : d ≤ 1800) (h18 : σ 18 0 0 = nI d) {b : Nat} (hb : b < 4) : cntF σ n b (σ 18 0 0) 16 = cntM μ (nI b) (nm μ) := by
  have h := cntF_ge σ n b (σ 18 0 0) (16 - n)
  rw [Nat.add_sub_cancel' hC.n16] at h
  rw [h, hC.hnm]
  exact cntF_eq hC hd h18 hb n (Nat.le_refl n)
theorem cor_dl (hC : Cor k n Z σ μ) (hd : d ≤ 1800) (h18 : σ 18 0 0 = nI d) : ∀ b, b ≤ 4 → Cor k n Z (dlF σ n b) (dmF μ b) ∧ (dlF σ n b) 18 = σ 18 ∧ (dmF μ b) 23 = μ 23
  | 0, _ => ⟨hC, rfl, rfl⟩
  | b + 1, hb => by
    obtain ⟨h1, h2, h3⟩ := cor_dl hC hd h18 b (by omega)
    have e := cnt_eq h1 hd (by rw [h2]; exact h18) (b := b) (by omega)
    show Cor k n Z (dlS (dlF σ n b) n b) (dmS (dmF μ b) b) ∧ (dlS (dlF σ n b) n b) 18 = σ 18 ∧ (dmS (dmF μ b) b) 23 = μ 23
    unfold dlS dmS
    rw [e, show ∀ y : Int32, y + 3 - 1 = y + 2 from fun y => by rw [Int32.sub_eq_add_neg, Int32.add_assoc]; rfl]
    exact ⟨cor_safe h1 rfl rfl b 0 _, (su_fn (by decide)).trans h2, (su_fn (by decide)).trans h3⟩
theorem edF_sim (hC : Cor k n (fun _ => d / 30) σ μ) (hd : d < 1800) (h18 : σ 18 0 0 = nI d) (hk : k ≤ 512) : Cor k n (fun _ => (d + 1) / 30) (edF σ n) (eaF μ) ∧ (edF σ n) 18 0 0 = nI (d + 1) ∧ (eaF μ) 23 = μ 23 := by
  obtain ⟨h1, h2, h3⟩ := ed2_sim hC hd h18 hk
  have e18 : (ed2 σ n) 18 0 0 = nI d := by rw [h2]; exact h18
  have hnw : nw (eaB μ) = d := nw_of (by omega) (by rw [← h1.E.1.1 18 0 0 rfl]; exact e18)
  have g := cor_safe h1 (a := 18) rfl rfl 0 0 (nI (d + 1))
  have e3 : ed3 σ n = su (ed2 σ n) 18 0 0 (nI (d + 1)) := by
    unfold ed3
    rw [e18, nI_1]
  unfold edF eaF
  rw [e3, hnw]
  have f3 : (su (eaB μ) 18 0 0 (nI (d + 1))) 23 = μ 23 := (su_fn (by decide)).trans h3
  have f18 : (su (ed2 σ n) 18 0 0 (nI (d + 1))) 18 0 0 = nI (d + 1) := su_same _ _ _ _ _
  generalize su (ed2 σ n) 18 0 0 (nI (d + 1)) = σ2 at *
  generalize su (eaB μ) 18 0 0 (nI (d + 1)) = μ2 at *
  have hnw2 : nw μ2 = d + 1 := nw_of (by omega) (by rw [← g.E.1.1 18 0 0 rfl]; exact f18)
  unfold dyF
  have hc : (nI (d + 1) - nI (d + 1) / 360 * 360 = 0) ↔ (d + 1) % 360 = 0 := rem_iff (r := 360) (q := 0) (by omega) (by decide) (by decide) (by decide)
  have hp : p360 μ2 ↔ (d + 1) % 360 = 0 := by
    show (nI (nw μ2) - nI (nw μ2) / 360 * 360 = 0) ↔ _
    rw [hnw2]
    exact hc
  rw [f18]
  by_cases h : (d + 1) % 360 = 0
  · rw [if_pos (hc.mpr h), if_pos (hp.mpr h)]
    obtain ⟨q1, q2, q3⟩ := cor_dl g (d := d + 1) (by omega) f18 4 (Nat.le_refl 4)
    exact ⟨q1, by rw [q2]; exact f18, q3.trans f3⟩
  · rw [if_neg (mt hc.mp h), if_neg (mt hp.mp h)]
    exact ⟨g, f18, f3⟩
theorem edN_sim (hC : Cor k n (fun _ => d / 30) σ μ) (h18 : σ 18 0 0 = nI d) (hk : k ≤ 512) : ∀ x, d + x ≤ 1800 → Cor k n (fun _ => (d + x) / 30) (edN σ n x) (eaN μ x) ∧ (edN σ n x) 18 0 0 = nI (d + x) ∧ (eaN μ x) 23 = μ 23
  | 0, _ => ⟨hC, h18, rfl⟩
  | x + 1, hx => by
    obtain ⟨h1, h2, h3⟩ := edN_sim hC h18 hk x (by omega)
    obtain ⟨g1, g2, g3⟩ := edF_sim h1 (by omega) h2 hk
    exact ⟨g1, g2, g3.trans h3⟩
end DAY
