/-! ===== how the invariant is kept ===== -/
abbrev crit (c : Nat) : Bool := c == 0 || c == 3 || c == 4 || c == 5 || c == 6 || c == 7 || c == 8 || c == 11 || c == 12 || c == 14 || c == 20 || c == 22
section CR
variable {k k' n : Nat} {Z Z' : Nat → Nat} {σ μ σ' μ' : S3}
theorem cor_tr (hC : Cor k n Z σ μ) (hk : k ≤ k') (hE : Eq9 σ' μ') (hs : ∀ c, crit c = true → σ' c = σ c) (hm : ∀ c, xk c → c ≠ 23 → μ' c = μ c) : Cor k' n Z σ' μ' := by
  refine ⟨hE, ⟨hC.n16, (nm_t (hm 21 (by decide) (by decide))).trans hC.hnm⟩, hC.hfo.t (hs 20 rfl), hC.z4.t (hs 4 rfl), hC.z14.t (hs 14 rfl), hC.du.t (hs 0 rfl), fun j => (hC.mn j).t hk (by rw [hs 5 rfl]) (by rw [hs 7 rfl]), fun j => (hC.heo j).t (by rw [hs 22 rfl]) (by rw [hs 7 rfl]), fun j m hm => by rw [hs 7 rfl]; exact hC.zf j m hm, fun j hj => (hC.fr j hj).t (by rw [hs 3 rfl]) (by rw [hs 4 rfl]) (by rw [hs 5 rfl]) (by rw [hs 6 rfl]) (by rw [hs 22 rfl]) (by rw [hs 7 rfl]) (by rw [hs 8 rfl]), fun b => (hC.vb b).t (by rw [hs 11 rfl]) (by rw [hs 12 rfl]) (by rw [hm 11 (by decide) (by decide)]) (by rw [hm 12 (by decide) (by decide)]) (by rw [hm 15 (by decide) (by decide)])⟩
theorem cor_mono (hC : Cor k n Z σ μ) (hk : k ≤ k') : Cor k' n Z σ μ := cor_tr hC hk hC.E (fun _ _ => rfl) (fun _ _ _ => rfl)
theorem cor_Z (hC : Cor k n Z σ μ) (h : ∀ i, Z i ≤ Z' i) : Cor k n Z' σ μ := by
  obtain ⟨h1, h2, h3, h4, h5, h6, h7, h8, h9, h10⟩ := hC
  exact ⟨h1, h2, h3, h4, h5, h6, h7, h8, fun i m hm => h9 i m (Nat.le_trans (h i) hm), h10⟩
theorem cor_23 (hC : Cor k n Z σ μ) (v : Int32) : Cor k n Z σ (su μ 23 0 0 v) :=
  cor_tr hC (Nat.le_refl k) ⟨hC.E.1.suR rfl (by decide), by rw [su_k (by decide)]; exact hC.E.2⟩ (fun _ _ => rfl) (fun c _ h => su_fn h)
theorem cor_safe (hC : Cor k n Z σ μ) {a : Nat} (h1 : okc a = true) (h2 : crit a = false) (i m : Nat) (v : Int32) : Cor k n Z (su σ a i m v) (su μ a i m v) := by
  have h19 : 19 ≠ a := fun e => by rw [← e] at h1; exact absurd h1 (by decide)
  refine cor_tr hC (Nat.le_refl k) ⟨hC.E.1.su1 a i m v, by rw [su_k h19, su_k h19]; exact hC.E.2⟩ (fun c hc => su_fn (fun e => by rw [e, h2] at hc; cases hc)) (fun c hc _ => su_fn (fun e => ?_))
  rw [← e] at h1
  rcases hc with rfl | rfl | rfl | rfl | rfl <;> exact absurd h1 (by decide)
theorem cor_19 (hC : Cor k n Z σ μ) (v : Int32) : Cor k n Z (su σ 19 0 0 v) (su μ 19 0 0 v) :=
  cor_tr hC (Nat.le_refl k) ⟨hC.E.1.su1 19 0 0 v, by rw [su_same, su_same]⟩ (fun c hc => su_fn (fun e => by rw [e] at hc; exact absurd hc (by decide))) (fun c hc _ => su_fn (fun e => by rw [e] at hc; exact absurd hc (by decide)))
/-- one number of a member that has joined -/
theorem cor_m6 (hC : Cor k n Z σ μ) {i : Nat} (hi : i < n) (v : Int32) : Cor k n Z (su σ 6 i 0 v) (su μ 6 i 0 v) := by
  have e : ∀ c, c ≠ 6 → su σ 6 i 0 v c = σ c := fun c h => su_fn h
  have g : ∀ c, c ≠ 6 → su μ 6 i 0 v c = μ c := fun c h => su_fn h
  refine ⟨⟨hC.E.1.su1 6 i 0 v, by rw [su_k (by decide), su_k (by decide)]; exact hC.E.2⟩, ⟨hC.n16, (nm_t (g 21 (by decide))).trans hC.hnm⟩, hC.hfo.t (e 20 (by decide)), hC.z4.t (e 4 (by decide)), hC.z14.t (e 14 (by decide)), hC.du.t (e 0 (by decide)), fun j => (hC.mn j).t (Nat.le_refl k) (by rw [e 5 (by decide)]) (by rw [e 7 (by decide)]), fun j => (hC.heo j).t (by rw [e 22 (by decide)]) (by rw [e 7 (by decide)]), fun j m hm => by rw [e 7 (by decide)]; exact hC.zf j m hm, fun j hj => (hC.fr j hj).t (by rw [e 3 (by decide)]) (by rw [e 4 (by decide)]) (by rw [e 5 (by decide)]) (su_fi (by omega)) (by rw [e 22 (by decide)]) (by rw [e 7 (by decide)]) (by rw [e 8 (by decide)]), fun b => (hC.vb b).t (by rw [e 11 (by decide)]) (by rw [e 12 (by decide)]) (by rw [g 11 (by decide)]) (by rw [g 12 (by decide)]) (by rw [g 15 (by decide)])⟩
theorem cor_m3 (hC : Cor k n Z σ μ) {i : Nat} (hi : i < n) (v : Int32) : Cor k n Z (su σ 3 i 0 v) (su μ 3 i 0 v) := by
  have e : ∀ c, c ≠ 3 → su σ 3 i 0 v c = σ c := fun c h => su_fn h
  have g : ∀ c, c ≠ 3 → su μ 3 i 0 v c = μ c := fun c h => su_fn h
  refine ⟨⟨hC.E.1.su1 3 i 0 v, by rw [su_k (by decide), su_k (by decide)]; exact hC.E.2⟩, ⟨hC.n16, (nm_t (g 21 (by decide))).trans hC.hnm⟩, hC.hfo.t (e 20 (by decide)), hC.z4.t (e 4 (by decide)), hC.z14.t (e 14 (by decide)), hC.du.t (e 0 (by decide)), fun j => (hC.mn j).t (Nat.le_refl k) (by rw [e 5 (by decide)]) (by rw [e 7 (by decide)]), fun j => (hC.heo j).t (by rw [e 22 (by decide)]) (by rw [e 7 (by decide)]), fun j m hm => by rw [e 7 (by decide)]; exact hC.zf j m hm, fun j hj => (hC.fr j hj).t (su_fi (by omega)) (by rw [e 4 (by decide)]) (by rw [e 5 (by decide)]) (by rw [e 6 (by decide)]) (by rw [e 22 (by decide)]) (by rw [e 7 (by decide)]) (by rw [e 8 (by decide)]), fun b => (hC.vb b).t (by rw [e 11 (by decide)]) (by rw [e 12 (by decide)]) (by rw [g 11 (by decide)]) (by rw [g 12 (by decide)]) (by rw [g 15 (by decide)])⟩
theorem cor_m4 (hC : Cor k n Z σ μ) {i : Nat} (hi : i < n) {v : Int32} (hv : v = 0 ∨ v = 1) : Cor k n Z (su σ 4 i 0 v) (su μ 4 i 0 v) := by
  have e : ∀ c, c ≠ 4 → su σ 4 i 0 v c = σ c := fun c h => su_fn h
  have g : ∀ c, c ≠ 4 → su μ 4 i 0 v c = μ c := fun c h => su_fn h
  refine ⟨⟨hC.E.1.su1 4 i 0 v, by rw [su_k (by decide), su_k (by decide)]; exact hC.E.2⟩, ⟨hC.n16, (nm_t (g 21 (by decide))).trans hC.hnm⟩, hC.hfo.t (e 20 (by decide)), fun j => ?_, hC.z14.t (e 14 (by decide)), hC.du.t (e 0 (by decide)), fun j => (hC.mn j).t (Nat.le_refl k) (by rw [e 5 (by decide)]) (by rw [e 7 (by decide)]), fun j => (hC.heo j).t (by rw [e 22 (by decide)]) (by rw [e 7 (by decide)]), fun j m hm => by rw [e 7 (by decide)]; exact hC.zf j m hm, fun j hj => (hC.fr j hj).t (by rw [e 3 (by decide)]) (su_fi (by omega)) (by rw [e 5 (by decide)]) (by rw [e 6 (by decide)]) (by rw [e 22 (by decide)]) (by rw [e 7 (by decide)]) (by rw [e 8 (by decide)]), fun b => (hC.vb b).t (by rw [e 11 (by decide)]) (by rw [e 12 (by decide)]) (by rw [g 11 (by decide)]) (by rw [g 12 (by decide)]) (by rw [g 15 (by decide)])⟩
  by_cases hj : j = i
  · rw [hj, su_same]
    exact hv
  · rw [su_i hj]
    exact hC.z4 j
theorem cor_b14 (hC : Cor k n Z σ μ) (i : Nat) {v : Int32} (hv : v = 0 ∨ v = 1) : Cor k n Z (su σ 14 i 0 v) (su μ 14 i 0 v) := by
  have e : ∀ c, c ≠ 14 → su σ 14 i 0 v c = σ c := fun c h => su_fn h
  have g : ∀ c, c ≠ 14 → su μ 14 i 0 v c = μ c := fun c h => su_fn h
  refine ⟨⟨hC.E.1.su1 14 i 0 v, by rw [su_k (by decide), su_k (by decide)]; exact hC.E.2⟩, ⟨hC.n16, (nm_t (g 21 (by decide))).trans hC.hnm⟩, hC.hfo.t (e 20 (by decide)), hC.z4.t (e 4 (by decide)), fun j => ?_, hC.du.t (e 0 (by decide)), fun j => (hC.mn j).t (Nat.le_refl k) (by rw [e 5 (by decide)]) (by rw [e 7 (by decide)]), fun j => (hC.heo j).t (by rw [e 22 (by decide)]) (by rw [e 7 (by decide)]), fun j m hm => by rw [e 7 (by decide)]; exact hC.zf j m hm, fun j hj => (hC.fr j hj).t (by rw [e 3 (by decide)]) (by rw [e 4 (by decide)]) (by rw [e 5 (by decide)]) (by rw [e 6 (by decide)]) (by rw [e 22 (by decide)]) (by rw [e 7 (by decide)]) (by rw [e 8 (by decide)]), fun b => (hC.vb b).t (by rw [e 11 (by decide)]) (by rw [e 12 (by decide)]) (by rw [g 11 (by decide)]) (by rw [g 12 (by decide)]) (by rw [g 15 (by decide)])⟩
  by_cases hj : j = i
  · rw [hj, su_same]
    exact hv
  · rw [su_i hj]
    exact hC.z14 j
theorem cor_f20 (hC : Cor k n Z σ μ) {F : Nat} (hF : F ≤ 60) : Cor k n Z (su σ 20 0 0 (nI F)) (su μ 20 0 0 (nI F)) := by
  have e : ∀ c, c ≠ 20 → su σ 20 0 0 (nI F) c = σ c := fun c h => su_fn h
  have g : ∀ c, c ≠ 20 → su μ 20 0 0 (nI F) c = μ c := fun c h => su_fn h
  exact ⟨⟨hC.E.1.su1 20 0 0 _, by rw [su_k (by decide), su_k (by decide)]; exact hC.E.2⟩, ⟨hC.n16, (nm_t (g 21 (by decide))).trans hC.hnm⟩, ⟨F, hF, su_same _ _ _ _ _⟩, hC.z4.t (e 4 (by decide)), hC.z14.t (e 14 (by decide)), hC.du.t (e 0 (by decide)), fun j => (hC.mn j).t (Nat.le_refl k) (by rw [e 5 (by decide)]) (by rw [e 7 (by decide)]), fun j => (hC.heo j).t (by rw [e 22 (by decide)]) (by rw [e 7 (by decide)]), fun j m hm => by rw [e 7 (by decide)]; exact hC.zf j m hm, fun j hj => (hC.fr j hj).t (by rw [e 3 (by decide)]) (by rw [e 4 (by decide)]) (by rw [e 5 (by decide)]) (by rw [e 6 (by decide)]) (by rw [e 22 (by decide)]) (by rw [e 7 (by decide)]) (by rw [e 8 (by decide)]), fun b => (hC.vb b).t (by rw [e 11 (by decide)]) (by rw [e 12 (by decide)]) (by rw [g 11 (by decide)]) (by rw [g 12 (by decide)]) (by rw [g 15 (by decide)])⟩
theorem cor_d0 (hC : Cor k n Z σ μ) (i : Nat) {w : Nat} (hw : w ≤ 100000) : Cor k n Z (su σ 0 i 0 (nI w)) (su μ 0 i 0 (nI w)) := by
  have e : ∀ c, c ≠ 0 → su σ 0 i 0 (nI w) c = σ c := fun c h => su_fn h
  have g : ∀ c, c ≠ 0 → su μ 0 i 0 (nI w) c = μ c := fun c h => su_fn h
  refine ⟨⟨hC.E.1.su1 0 i 0 _, by rw [su_k (by decide), su_k (by decide)]; exact hC.E.2⟩, ⟨hC.n16, (nm_t (g 21 (by decide))).trans hC.hnm⟩, hC.hfo.t (e 20 (by decide)), hC.z4.t (e 4 (by decide)), hC.z14.t (e 14 (by decide)), fun b hb => ?_, fun j => (hC.mn j).t (Nat.le_refl k) (by rw [e 5 (by decide)]) (by rw [e 7 (by decide)]), fun j => (hC.heo j).t (by rw [e 22 (by decide)]) (by rw [e 7 (by decide)]), fun j m hm => by rw [e 7 (by decide)]; exact hC.zf j m hm, fun j hj => (hC.fr j hj).t (by rw [e 3 (by decide)]) (by rw [e 4 (by decide)]) (by rw [e 5 (by decide)]) (by rw [e 6 (by decide)]) (by rw [e 22 (by decide)]) (by rw [e 7 (by decide)]) (by rw [e 8 (by decide)]), fun b => (hC.vb b).t (by rw [e 11 (by decide)]) (by rw [e 12 (by decide)]) (by rw [g 11 (by decide)]) (by rw [g 12 (by decide)]) (by rw [g 15 (by decide)])⟩
  by_cases hj : b = i
  · rw [hj, su_same]
    exact ⟨w, hw, rfl⟩
  · rw [su_i hj]
    exact hC.du b hb
end CR
/-- what is laid to a member's months keeps it -/
theorem cor_lay {k k' n : Nat} {Z Z' : Nat → Nat} {σ μ σ0 μ0 : S3} {i C : Nat} {z : Int32} (hC : Cor k n Z σ μ) (hi : i < n) (hk : k ≤ k') (hF : Fr i σ σ0) (hE0 : E18 σ0 μ0) (h19 : μ0 19 0 0 = z) (hx : ∀ c, xk c → c ≠ 23 → μ0 c = μ c) (hM : MS C 100000 σ0 i) (hCb : C ≤ 1000000 * k') (hC31 : C < 2 ^ 31) (hz : ∀ m, m < eo σ0 i → σ0 7 i m = 0) (hZ : ∀ m, Z' i ≤ m → σ0 7 i m = 0) (hZ60 : Z' i ≤ 60) (hZo : ∀ j, j ≠ i → Z' j = Z j) :
    Cor k' n Z' (su (layA σ0 i).1 19 0 0 (z + (layA σ0 i).2)) (mlA μ0 i) ∧ (mlA μ0 i) 23 = μ0 23 ∧ (su (layA σ0 i).1 19 0 0 (z + (layA σ0 i).2)) 18 = σ 18 := by
  obtain ⟨a1, a2, a3, a4, a5, a6, a7, a8⟩ := layA_sim i hC31 (by decide) hE0 h19 hM hz (fun m hm => hZ m (by omega))
  have F := hF.tr a4
  generalize (layA σ0 i).1 = τ at *
  generalize (layA σ0 i).2 = sh at *
  have e : ∀ c, c ≠ 5 → c ≠ 7 → c ≠ 8 → c ≠ 9 → c ≠ 22 → c ≠ 19 → su τ 19 0 0 (z + sh) c = σ c := fun c h5 h7 h8 h9 h22 h19 => (su_fn h19).trans (F.1 c h5 h7 h8 h9 h22)
  have o : ∀ c j, c ≠ 9 → c ≠ 19 → j ≠ i → su τ 19 0 0 (z + sh) c j = σ c j := fun c j h9 h19 hj => by rw [su_fn h19]; exact F.2 c j h9 hj
  refine ⟨⟨⟨a1.suL rfl (by decide), by rw [su_same, a2]⟩, ⟨hC.n16, (nm_t ((a8 21 (by decide)).trans (hx 21 (by decide) (by decide)))).trans hC.hnm⟩, hC.hfo.t (e 20 (by decide) (by decide) (by decide) (by decide) (by decide) (by decide)), hC.z4.t (e 4 (by decide) (by decide) (by decide) (by decide) (by decide) (by decide)), hC.z14.t (e 14 (by decide) (by decide) (by decide) (by decide) (by decide) (by decide)), hC.du.t (e 0 (by decide) (by decide) (by decide) (by decide) (by decide) (by decide)), fun j => ?_, fun j => ?_, fun j m hm => ?_, fun j hj => ?_, fun b => ?_⟩, a8 23 (by decide), e 18 (by decide) (by decide) (by decide) (by decide) (by decide) (by decide)⟩
  · by_cases hj : j = i
    · subst hj
      unfold MNi
      rw [su_fn (by decide), su_fn (by decide)]
      obtain ⟨⟨c, hc, e5⟩, hw⟩ := a3
      exact ⟨⟨c, by omega, e5⟩, hw, a6⟩
    · exact (hC.mn j).t hk (o 5 j (by decide) (by decide) hj) (o 7 j (by decide) (by decide) hj)
  · by_cases hj : j = i
    · subst hj
      exact a5.t (by rw [su_fn (by decide)]) (by rw [su_fn (by decide)])
    · exact (hC.heo j).t (o 22 j (by decide) (by decide) hj) (o 7 j (by decide) (by decide) hj)
  · by_cases hj : j = i
    · subst hj
      rw [su_k (by decide)]
      exact a7 m (hZ m hm)
    · rw [o 7 j (by decide) (by decide) hj]
      rw [hZo j hj] at hm
      exact hC.zf j m hm
  · have hne : j ≠ i := by omega
    exact (hC.fr j hj).t (o 3 j (by decide) (by decide) hne) (o 4 j (by decide) (by decide) hne) (o 5 j (by decide) (by decide) hne) (o 6 j (by decide) (by decide) hne) (o 22 j (by decide) (by decide) hne) (o 7 j (by decide) (by decide) hne) (o 8 j (by decide) (by decide) hne)
  · have g : ∀ c, xk c → c ≠ 23 → mlA μ0 i c = μ c := fun c h h9 => (a8 c h).trans (hx c h h9)
    exact (hC.vb b).t (by rw [e 11 (by decide) (by decide) (by decide) (by decide) (by decide) (by decide)]) (by rw [e 12 (by decide) (by decide) (by decide) (by decide) (by decide) (by decide)]) (by rw [g 11 (by decide) (by decide)]) (by rw [g 12 (by decide) (by decide)]) (by rw [g 15 (by decide) (by decide)])
theorem th0_k {μ : S3} {c : Nat} (h : c ≠ 23) : th0 μ c = μ c := su_fn h
theorem th0_23 (μ : S3) : th0 μ 23 0 0 = 0 := su_same _ _ _ _ _
theorem E18_th {σ μ : S3} (h : E18 σ μ) : E18 σ (th0 μ) := h.suR rfl (by decide)
theorem cor_pay {k n : Nat} {Z : Nat → Nat} {σ μ : S3} {i A : Nat} {a : Int32} (hC : Cor k n Z σ μ) (hZ60 : ∀ j, Z j ≤ 60) (hi : i < n) (hk : k < 512) (ha : a = nI A) (hA : A ≤ 1000000) : Cor (k + 1) n Z (payF σ i a) (mpF μ i a) ∧ (mpF μ i a) 23 0 0 = 0 ∧ (payF σ i a) 18 = σ 18 := by
  obtain ⟨⟨c, hc, e5⟩, hw, -⟩ := hC.mn i
  have e : th0 μ 5 i 0 = σ 5 i 0 := by rw [th0_k (by decide)]; exact (hC.E.1.1 5 i 0 rfl).symm
  have h := cor_lay (Z' := Z) (σ0 := su σ 5 i 0 (σ 5 i 0 + a)) (μ0 := su (th0 μ) 5 i 0 (th0 μ 5 i 0 + a)) (C := c + A) (z := σ 19 0 0) (k' := k + 1) hC hi (by omega)
    ⟨fun q h5 _ _ _ _ => su_fn h5, fun q j _ hj => su_fi hj⟩ (by rw [e]; exact (E18_th hC.E.1).su1 5 i 0 _) (by rw [su_k (by decide), th0_k (by decide)]; exact hC.E.2.symm)
    (fun q hq h23 => by rw [su_fn (fun e => by rw [e] at hq; exact absurd hq (by decide)), th0_k h23]) ⟨⟨c + A, Nat.le_refl _, by rw [su_same, e5, ha, nI_add]⟩, fun m => by rw [su_k (by decide)]; exact hw m⟩ (by omega) (by omega)
    (fun m hm => by rw [su_k (by decide)]; rw [eo_t (σ := σ) (by rw [su_k (by decide)])] at hm; exact (hC.heo i).1 m hm) (fun m hm => by rw [su_k (by decide)]; exact hC.zf i m hm) (hZ60 i) (fun _ _ => rfl)
  refine ⟨h.1, ?_, h.2.2⟩
  have h2 := h.2.1
  unfold mpF
  rw [h2, su_k (by decide), th0_23]
