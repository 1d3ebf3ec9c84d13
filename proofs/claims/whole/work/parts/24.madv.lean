/-! ===== the reference: advance and fold ===== -/
abbrev p360 (σ : S3) : Prop := nI (nw σ) - nI (nw σ) / 360 * 360 = 0
def dmS (σ : S3) (b : Nat) : S3 := su σ 16 b 0 ((cntM σ (nI b) (nm σ) + 2) / 3)
def dmF (σ : S3) : Nat → S3
  | 0 => σ
  | b + 1 => dmS (dmF σ b) b
def dyF (σ : S3) : S3 := if p360 σ then dmF σ 4 else σ
def eaB (σ : S3) : S3 := if nI (nw (psF σ (nm σ))) - nI (nw (psF σ (nm σ))) / 30 * 30 = 29 then tdF (psF σ (nm σ)) (nw (psF σ (nm σ)) / 30) (nm (psF σ (nm σ))) else psF σ (nm σ)
def eaF (σ : S3) : S3 := dyF (su (eaB σ) 18 0 0 (nI (nw (eaB σ) + 1)))
def eaN (σ : S3) : Nat → S3
  | 0 => σ
  | k + 1 => eaF (eaN σ k)
theorem nw_dmF (σ : S3) : ∀ j, nw (dmF σ j) = nw σ
  | 0 => rfl
  | j + 1 => (nw_suk (by decide)).trans (nw_dmF σ j)
theorem nm_dmF (σ : S3) : ∀ j, nm (dmF σ j) = nm σ
  | 0 => rfl
  | j + 1 => (nm_suk (by decide)).trans (nm_dmF σ j)
theorem th_dmF (σ : S3) : ∀ j, dmF σ j 23 0 0 = σ 23 0 0
  | 0 => rfl
  | j + 1 => by
    show dmS (dmF σ j) j 23 0 0 = σ 23 0 0
    unfold dmS
    rw [su_k (by decide), th_dmF σ j]
theorem nw_dyF (σ : S3) : nw (dyF σ) = nw σ := by
  unfold dyF
  split
  · exact nw_dmF σ 4
  · rfl
theorem nm_dyF (σ : S3) : nm (dyF σ) = nm σ := by
  unfold dyF
  split
  · exact nm_dmF σ 4
  · rfl
theorem th_dyF (σ : S3) : dyF σ 23 0 0 = σ 23 0 0 := by
  unfold dyF
  split
  · exact th_dmF σ 4
  · rfl
theorem th_mlF (σ : S3) (i : Nat) : ∀ m, mlF σ i m 23 0 0 = σ 23 0 0
  | 0 => rfl
  | m + 1 => by
    show mlS (mlF σ i m) i m 23 0 0 = σ 23 0 0
    unfold mlS
    rw [su_k (by decide), su_k (by decide), su_k (by decide), su_k (by decide), su_k (by decide), th_mlF σ i m]
theorem th_psF (σ : S3) : ∀ j, psF σ j 23 0 0 = σ 23 0 0
  | 0 => rfl
  | j + 1 => by
    show psS (psF σ j) j 23 0 0 = σ 23 0 0
    unfold psS
    split
    · rw [su_k (by decide), su_k (by decide), th_psF σ j]
    · exact th_psF σ j
theorem th_tdF (σ : S3) (m : Nat) : ∀ j, tdF σ m j 23 0 0 = σ 23 0 0
  | 0 => rfl
  | j + 1 => by
    show tdS (tdF σ m j) m j 23 0 0 = σ 23 0 0
    unfold tdS
    split
    · show mlF _ j 60 23 0 0 = _
      rw [th_mlF, su_k (by decide), th_tdF σ m j]
    · exact th_tdF σ m j
theorem nw_eaB (σ : S3) : nw (eaB σ) = nw σ := by
  unfold eaB
  split
  · rw [nw_tdF, nw_psF]
  · rw [nw_psF]
theorem nm_eaB (σ : S3) : nm (eaB σ) = nm σ := by
  unfold eaB
  split
  · rw [nm_tdF, nm_psF]
  · rw [nm_psF]
theorem th_eaB (σ : S3) : eaB σ 23 0 0 = σ 23 0 0 := by
  unfold eaB
  split
  · rw [th_tdF, th_psF]
  · rw [th_psF]
theorem nw_eaF {σ : S3} (h : nw σ < 1800) : nw (eaF σ) = nw σ + 1 := by
  unfold eaF
  rw [nw_dyF, nw_su (by rw [nw_eaB]; omega), nw_eaB]
theorem nm_eaF (σ : S3) : nm (eaF σ) = nm σ := by
  unfold eaF
  rw [nm_dyF, nm_suk (by decide), nm_eaB]
theorem th_eaF (σ : S3) : eaF σ 23 0 0 = σ 23 0 0 := by
  unfold eaF
  rw [th_dyF, su_k (by decide), th_eaB]
theorem nw_eaN (σ : S3) : ∀ j, nw σ + j ≤ 1800 → nw (eaN σ j) = nw σ + j
  | 0, _ => rfl
  | j + 1, h => by
    have ih := nw_eaN σ j (by omega)
    show nw (eaF (eaN σ j)) = _
    rw [nw_eaF (by omega), ih]
    omega
theorem nm_eaN (σ : S3) : ∀ j, nm (eaN σ j) = nm σ
  | 0 => rfl
  | j + 1 => (nm_eaF _).trans (nm_eaN σ j)
theorem th_eaN (σ : S3) : ∀ j, eaN σ j 23 0 0 = σ 23 0 0
  | 0 => rfl
  | j + 1 => (th_eaF _).trans (th_eaN σ j)
theorem le1800 {a b : Nat} (ha : a ≤ 1800) (hb : b ≤ 100) (h : nI a + nI b ≤ 1800) : a + b ≤ 1800 := by
  rw [nI_add, show (1800 : Int32) = nI 1800 from rfl] at h
  exact (nI_leI (by omega) (by omega)).mp h
abbrev rmX4_advance : Room := { frames := 2, cells := 0, slots := 0, locals := 46 }
theorem inX4_advance_X4 : (∀ w ∈ wsX40, w ∈ wsX4_advance) := by decide +kernel
set_option maxHeartbeats 1000000 in
set_option maxRecDepth 100000 in
theorem lp_X4_advance_d {p : Program} {l : Launch} {e : Env} {s : State} {m : MethodId} {args : Array Value} {below : List Frame} {meth : Method} {c : Code} {Q : State → Prop} (S : CallFix p m c cX4_advance 4 s args wsX4_advance RX4) {D : va_G} {cy : Nat → ClassId} {ad : Nat → Nat} {σ : S3} {dd q : Nat} (hX : True) : ∀ (k : Nat) (j : Nat) (τ : S3) (H : Heap) (locs : List Loc) (ls : Array Slot), 4 - j < k → j ≤ 4 → (p360 σ ∧ τ = dmF σ j) ∨ (τ = σ ∧ ¬ p360 σ ∧ j = 0) → MW D cy s ad τ H locs → lv_has ls 4 [(0, .ref (ad 0)), (1, .int (nI dd)), (2, .int (nI q)), (3, .int (nI j))] → (∀ (H : Heap) (locs : List Loc) (ls : Array Slot), MW D cy s ad (dyF σ) H locs → lv_has ls 4 [(0, .ref (ad 0)), (1, .int (nI dd)), (2, .int (nI q))] → W p l e rmX4_advance s m args below meth c H locs 0 0 Q (F0 m 118 ls [])) → W p l e rmX4_advance s m args below meth c H locs 0 0 Q (F0 m 81 ls []) := by
  have hx := S.1
  have hb := S.2.1
  have hts := S.2.2.2.2
  intro k
  induction k with
  | zero => intro j τ H locs ls hk; exact absurd hk (Nat.not_lt_zero _)
  | succ k ih =>
    intro j τ H locs ls hk hj hτ hw hl kk
    refine lv_iload_n hx hb dX4_advance_81 rfl (lv_at hl 3 rfl) ?_
    refine lv_iconst (v := 4) hx hb dX4_advance_82 (by decide) ?_
    refine lv_icmp_ge (tgt := 118) hx hb dX4_advance_83 (by decide) (fun c1 => ?_) (fun c1 => ?_)
    · have hj6 : j = 4 := by
        rcases Nat.lt_or_ge j 4 with q | q
        · exact absurd c1 ((lt4 (by omega)).mpr q)
        · omega
      exact kk H locs ls (by
        rcases hτ with ⟨h1, h2⟩ | ⟨_, _, h3⟩
        · rw [show dyF σ = dmF σ 4 from if_pos h1, ← hj6, ← h2]; exact hw
        · omega) (lv_sub hl [0, 1, 2] rfl)
    · have hj6 : j < 4 := (lt4 (by omega)).mp c1
      refine lv_aload_n hx hb dX4_advance_86 rfl (lv_at hl 0 rfl) ?_
      refine xr_get S hw (j := 2) (by decide) rfl rfl inX4_advance_X4 (by decide) (hts (.fieldLink RX4 79 "UnionOfficeModel" "now" "I") (by decide +kernel)) rfl dX4_advance_87 ?_
      refine lv_sipush (v := 360) hx hb dX4_advance_90 (by decide) ?_
      refine lv_irem hx hb dX4_advance_93 (by decide) ?_
      refine lv_if_ne (tgt := 118) hx hb dX4_advance_94 (by decide) (fun c2 => ?_) (fun c2 => ?_)
      · exact kk H locs ls (by
          rcases hτ with ⟨h1, h2⟩ | ⟨h1, h2, _⟩
          · exact absurd (by rw [h2, nw_dmF]; exact h1) c2
          · rw [show dyF σ = σ from if_neg h2, ← h1]; exact hw) (lv_sub hl [0, 1, 2] rfl)
      · refine lv_aload_n hx hb dX4_advance_97 rfl (lv_at hl 0 rfl) ?_
        refine xr_get S hw (j := 21) (by decide) rfl rfl inX4_advance_X4 (by decide) (hts (.fieldLink RX4 59 "UnionOfficeModel" "delegateMany" "[I") (by decide +kernel)) rfl dX4_advance_98 ?_
        refine lv_iload_n hx hb dX4_advance_101 rfl (lv_at hl 3 rfl) ?_
        refine lv_aload_n hx hb dX4_advance_102 rfl (lv_at hl 0 rfl) ?_
        refine lv_iload_n hx hb dX4_advance_103 rfl (lv_at hl 3 rfl) ?_
        refine xc_Mi hw (va_runV (As := [.int (nI j)]) (rest := [.int (nI j), .ref (ad 17)]) S (c_X4_standing l D cy ad τ (nI j) _) (cwV 1 S.2.2.2.2 gX4_advance_X4_standing rfl rfl rfl (by decide +kernel) ⟨Nat.le_of_ble_eq_true rfl, Nat.le_of_ble_eq_true rfl⟩) (xc_preV (XOK.tt _ _) hX hw (by decide) rfl rfl rfl) rfl rfl hl.1 rfl (lv_room (Nat.le_of_ble_eq_true rfl)) dX4_advance_104 ⟨Nat.le_of_ble_eq_true rfl, Nat.le_of_ble_eq_true rfl⟩) (fun r9 u H locs hp hw => ?_)
        obtain ⟨hu9, hr9⟩ := hp
        rw [hu9] at hw
        rw [hr9]
        clear hu9 hr9
        refine lv_iconst (v := 2) hx hb dX4_advance_107 (by decide) ?_
        refine lv_iadd hx hb dX4_advance_108 ?_
        refine lv_iconst (v := 3) hx hb dX4_advance_109 (by decide) ?_
        refine lv_idiv hx hb dX4_advance_110 (by decide) ?_
        obtain ⟨σ1, hσ1⟩ : ∃ y : S3, y = su τ 16 j 0 (((cntM τ (nI j) (nm τ)) + 2) / 3) := ⟨_, rfl⟩
        refine xn_iast S hw (t0 := 0) (by decide) rfl rfl (by omega) (by decide) dX4_advance_111 (mE cy ad σ1) (by rw [hσ1]; exact mu_deleg _ _ _ j _) (fun H locs hw => ?_)
        refine lv_iinc (v := nI (j + 1)) (lv' := [(3, .int (nI (j + 1))), (0, .ref (ad 0)), (1, .int (nI dd)), (2, .int (nI q))]) hx hb dX4_advance_112 hl (k := 3) rfl (nI_1 j) (by decide) rfl (fun ls hl => ?_)
        refine lv_goto (tgt := 81) hx hb dX4_advance_115 (by decide) ?_
        have hps : p360 σ := by
          rcases hτ with ⟨h1, _⟩ | ⟨h1, h2, _⟩
          · exact h1
          · rw [h1] at c2; exact c2
        exact ih (j + 1) σ1 H locs ls (by omega) (by omega) (Or.inl ⟨hps, by
          rcases hτ with ⟨_, h2⟩ | ⟨_, h2, _⟩
          · rw [hσ1, h2]; rfl
          · exact absurd hps h2⟩) hw (lv_sub hl [1, 2, 3, 0] rfl) kk
set_option maxHeartbeats 1000000 in
set_option maxRecDepth 100000 in
theorem lp_X4_advance {p : Program} {l : Launch} {e : Env} {s : State} {m : MethodId} {args : Array Value} {below : List Frame} {meth : Method} {c : Code} {Q : State → Prop} (S : CallFix p m c cX4_advance 4 s args wsX4_advance RX4) {D : va_G} {cy : Nat → ClassId} {ad : Nat → Nat} {σ : S3} {dd : Nat} (hX : True) (hdd : dd ≤ 100) (hP2 : nw σ + dd ≤ 1800) (hth : σ 23 0 0 = 0) : ∀ (k : Nat) (j : Nat) (τ : S3) (H : Heap) (locs : List Loc) (ls : Array Slot), dd - j < k → j ≤ dd → τ = eaN σ j → MW D cy s ad τ H locs → lv_has ls 4 [(0, .ref (ad 0)), (1, .int (nI dd)), (2, .int (nI j))] → (∀ (H : Heap) (locs : List Loc) (ls : Array Slot), MW D cy s ad (eaN σ dd) H locs → lv_has ls 4 [(0, .ref (ad 0))] → W p l e rmX4_advance s m args below meth c H locs 0 0 Q (F0 m 124 ls [])) → W p l e rmX4_advance s m args below meth c H locs 0 0 Q (F0 m 37 ls []) := by
  have hx := S.1
  have hb := S.2.1
  have hts := S.2.2.2.2
  intro k
  induction k with
  | zero => intro j τ H locs ls hk; exact absurd hk (Nat.not_lt_zero _)
  | succ k ih =>
    intro j τ H locs ls hk hj hτ hw hl kk
    refine lv_iload_n hx hb dX4_advance_37 rfl (lv_at hl 2 rfl) ?_
    refine lv_iload_n hx hb dX4_advance_38 rfl (lv_at hl 1 rfl) ?_
    refine lv_icmp_ge (tgt := 124) hx hb dX4_advance_39 (by decide) (fun c1 => ?_) (fun c1 => ?_)
    · have hj6 : j = dd := by
        have := (nI_leI (by omega) (by omega)).mp c1
        omega
      exact kk H locs ls (by rw [← hj6, ← hτ]; exact hw) (lv_sub hl [0] rfl)
    · have hj6 : j < dd := by
        rcases Nat.lt_or_ge j dd with q | q
        · exact q
        · exact absurd ((nI_leI (by omega) (by omega)).mpr q) c1
      have hnτ : nw τ = nw σ + j := by rw [hτ]; exact nw_eaN σ j (by omega)
      have hthτ : τ 23 0 0 = 0 := by rw [hτ, th_eaN]; exact hth
      refine lv_aload_n hx hb dX4_advance_42 rfl (lv_at hl 0 rfl) ?_
      have hth1 : τ 23 0 0 = 0 := hthτ
      refine xr_get S hw (j := 22) (v := .int 0) (by decide) rfl rfl inX4_advance_X4 (by decide) (hts (.fieldLink RX4 69 "UnionOfficeModel" "thrown" "I") (by decide +kernel)) (congrArg (fun z => some (Value.int z)) hth1) dX4_advance_43 ?_
      refine lv_if_ne (tgt := 124) hx hb dX4_advance_46 (by decide) (fun h => absurd h (by decide)) (fun _ => ?_)
      refine lv_aload_n hx hb dX4_advance_49 rfl (lv_at hl 0 rfl) ?_
      refine xc_Mv hw (va_runV (As := []) (rest := []) S (c_X4_payStrikes l D cy ad τ _) (cwV 0 S.2.2.2.2 gX4_advance_X4_payStrikes rfl rfl rfl (by decide +kernel) ⟨Nat.le_of_ble_eq_true rfl, Nat.le_of_ble_eq_true rfl⟩) (xc_preV (XOK.tt _ _) hX hw (by decide) rfl rfl rfl) rfl rfl hl.1 rfl (lv_room (Nat.le_of_ble_eq_true rfl)) dX4_advance_50 ⟨Nat.le_of_ble_eq_true rfl, Nat.le_of_ble_eq_true rfl⟩) (fun u H locs hp hw => ?_)
      obtain rfl := hp
      refine lv_aload_n hx hb dX4_advance_53 rfl (lv_at hl 0 rfl) ?_
      refine xr_get S hw (j := 2) (by decide) rfl rfl inX4_advance_X4 (by decide) (hts (.fieldLink RX4 79 "UnionOfficeModel" "now" "I") (by decide +kernel)) rfl dX4_advance_54 ?_
      refine lv_bipush (v := 30) hx hb dX4_advance_57 (by decide) ?_
      refine lv_irem hx hb dX4_advance_59 (by decide) ?_
      refine lv_bipush (v := 29) hx hb dX4_advance_60 (by decide) ?_
      refine lv_icmp_ne (tgt := 69) hx hb dX4_advance_62 (by decide) (fun c3 => ?_) (fun c3 => ?_)
      · have hnq : nw (psF τ (nm τ)) = nw σ + j := by first | (rw [nw_psF]; exact hnτ) | (rw [nw_tdF, nw_psF]; exact hnτ)
        refine lv_aload_n hx hb dX4_advance_69 rfl (lv_at hl 0 rfl) ?_
        refine lv_dup hx hb dX4_advance_70 rfl ?_
        refine xr_get S hw (j := 2) (by decide) rfl rfl inX4_advance_X4 (by decide) (hts (.fieldLink RX4 79 "UnionOfficeModel" "now" "I") (by decide +kernel)) rfl dX4_advance_71 ?_
        refine lv_iconst (v := 1) hx hb dX4_advance_74 (by decide) ?_
        refine lv_iadd hx hb dX4_advance_75 ?_
        rw [show nI (nw (psF τ (nm τ))) + 1 = nI (nw (psF τ (nm τ)) + 1) from nI_1 _]
        obtain ⟨σ1, hσ1⟩ : ∃ y : S3, y = su (psF τ (nm τ)) 18 0 0 (nI (nw (psF τ (nm τ)) + 1)) := ⟨_, rfl⟩
        refine xr_put S hw tyX4 tyX4_ok nmX4 (j := 2) (by decide) rfl rfl inX4_advance_X4 (by decide) (hts (.fieldLink RX4 79 "UnionOfficeModel" "now" "I") (by decide +kernel)) rfl (tyX4_ok 2 (by decide)) rfl rfl (Nat.le_of_ble_eq_true rfl) dX4_advance_76 (mE cy ad σ1) (by rw [hσ1]; exact mu_now _ _ _ (by omega)) (fun H locs hw => ?_)
        refine lv_iconst (v := 0) hx hb dX4_advance_79 (by decide) ?_
        refine lv_istore_n (lv' := [(3, .int 0), (0, .ref (ad 0)), (1, .int (nI dd)), (2, .int (nI j))]) hx hb dX4_advance_80 rfl hl (by decide) rfl (fun ls hl => ?_)
        refine lp_X4_advance_d (σ := σ1) S trivial 5 0 σ1 _ _ ls (by decide) (by decide) (by by_cases h9 : p360 σ1; exact Or.inl ⟨h9, rfl⟩; exact Or.inr ⟨rfl, h9, rfl⟩) hw (lv_sub hl [1, 2, 3, 0] rfl) (fun H locs ls hw hl => ?_)
        refine lv_iinc (v := nI (j + 1)) (lv' := [(2, .int (nI (j + 1))), (0, .ref (ad 0)), (1, .int (nI dd))]) hx hb dX4_advance_118 hl (k := 2) rfl (nI_1 j) (by decide) rfl (fun ls hl => ?_)
        refine lv_goto (tgt := 37) hx hb dX4_advance_121 (by decide) ?_
        exact ih (j + 1) (dyF σ1) H locs ls (by omega) (by omega) (by
          show _ = eaF (eaN σ j)
          rw [← hτ]
          have hB : eaB τ = _ := if_neg c3
          unfold eaF
          rw [hB, hσ1]) hw (lv_sub hl [1, 2, 0] rfl) kk
      · refine lv_aload_n hx hb dX4_advance_65 rfl (lv_at hl 0 rfl) ?_
        refine xc_Mv hw (va_runV (As := []) (rest := []) S (c_X4_takeDues l D cy ad (psF τ (nm τ)) (by rw [nw_psF]; omega) _) (cwV 0 S.2.2.2.2 gX4_advance_X4_takeDues rfl rfl rfl (by decide +kernel) ⟨Nat.le_of_ble_eq_true rfl, Nat.le_of_ble_eq_true rfl⟩) (xc_preV (XOK.tt _ _) hX hw (by decide) rfl rfl rfl) rfl rfl hl.1 rfl (lv_room (Nat.le_of_ble_eq_true rfl)) dX4_advance_66 ⟨Nat.le_of_ble_eq_true rfl, Nat.le_of_ble_eq_true rfl⟩) (fun u H locs hp hw => ?_)
        obtain rfl := hp
        have hnq : nw (tdF (psF τ (nm τ)) (nw (psF τ (nm τ)) / 30) (nm (psF τ (nm τ)))) = nw σ + j := by first | (rw [nw_psF]; exact hnτ) | (rw [nw_tdF, nw_psF]; exact hnτ)
        refine lv_aload_n hx hb dX4_advance_69 rfl (lv_at hl 0 rfl) ?_
        refine lv_dup hx hb dX4_advance_70 rfl ?_
        refine xr_get S hw (j := 2) (by decide) rfl rfl inX4_advance_X4 (by decide) (hts (.fieldLink RX4 79 "UnionOfficeModel" "now" "I") (by decide +kernel)) rfl dX4_advance_71 ?_
        refine lv_iconst (v := 1) hx hb dX4_advance_74 (by decide) ?_
        refine lv_iadd hx hb dX4_advance_75 ?_
        rw [show nI (nw (tdF (psF τ (nm τ)) (nw (psF τ (nm τ)) / 30) (nm (psF τ (nm τ))))) + 1 = nI (nw (tdF (psF τ (nm τ)) (nw (psF τ (nm τ)) / 30) (nm (psF τ (nm τ)))) + 1) from nI_1 _]
        obtain ⟨σ2, hσ2⟩ : ∃ y : S3, y = su (tdF (psF τ (nm τ)) (nw (psF τ (nm τ)) / 30) (nm (psF τ (nm τ)))) 18 0 0 (nI (nw (tdF (psF τ (nm τ)) (nw (psF τ (nm τ)) / 30) (nm (psF τ (nm τ)))) + 1)) := ⟨_, rfl⟩
        refine xr_put S hw tyX4 tyX4_ok nmX4 (j := 2) (by decide) rfl rfl inX4_advance_X4 (by decide) (hts (.fieldLink RX4 79 "UnionOfficeModel" "now" "I") (by decide +kernel)) rfl (tyX4_ok 2 (by decide)) rfl rfl (Nat.le_of_ble_eq_true rfl) dX4_advance_76 (mE cy ad σ2) (by rw [hσ2]; exact mu_now _ _ _ (by omega)) (fun H locs hw => ?_)
        refine lv_iconst (v := 0) hx hb dX4_advance_79 (by decide) ?_
        refine lv_istore_n (lv' := [(3, .int 0), (0, .ref (ad 0)), (1, .int (nI dd)), (2, .int (nI j))]) hx hb dX4_advance_80 rfl hl (by decide) rfl (fun ls hl => ?_)
        refine lp_X4_advance_d (σ := σ2) S trivial 5 0 σ2 _ _ ls (by decide) (by decide) (by by_cases h9 : p360 σ2; exact Or.inl ⟨h9, rfl⟩; exact Or.inr ⟨rfl, h9, rfl⟩) hw (lv_sub hl [1, 2, 3, 0] rfl) (fun H locs ls hw hl => ?_)
        refine lv_iinc (v := nI (j + 1)) (lv' := [(2, .int (nI (j + 1))), (0, .ref (ad 0)), (1, .int (nI dd))]) hx hb dX4_advance_118 hl (k := 2) rfl (nI_1 j) (by decide) rfl (fun ls hl => ?_)
        refine lv_goto (tgt := 37) hx hb dX4_advance_121 (by decide) ?_
        exact ih (j + 1) (dyF σ2) H locs ls (by omega) (by omega) (by
          show _ = eaF (eaN σ j)
          rw [← hτ]
          have hB : eaB τ = _ := if_pos c3
          unfold eaF
          rw [hB, hσ2]) hw (lv_sub hl [1, 2, 0] rfl) kk
set_option maxHeartbeats 1000000 in
set_option maxRecDepth 100000 in
/-- advance -/
theorem c_X4_advance (l : Launch) (D : va_G) (cy : Nat → ClassId) (ad : Nat → Nat) (σ : S3) (x0 : Int32) : MM l yX4_advance wsX4_advance rmX4_advance D cy ad [.ref (ad 0), .int x0] σ (xPi (mP2 σ (rgI x0 1 100) (nI (nw σ) + x0 ≤ 1800) (nI (nw (eaN (th0 σ) x0.toNatClampNeg))) (eaN (th0 σ) x0.toNatClampNeg))) := by
  refine xs_M (cc := cX4_advance) (maxL := 4) (ret := (some .int)) (by decide +kernel) rfl (Nat.le_of_ble_eq_true rfl) ?_
  intro p e s m below meth c ls S hr hlocks hnm hw hX hl
  have S : CallFix p m c cX4_advance 4 s [.ref (ad 0), .int x0].toArray wsX4_advance RX4 := S
  have hx := S.1
  have hb := S.2.1
  have hts := S.2.2.2.2
  have hl : lv_has ls 4 [(0, .ref (ad 0)), (1, .int x0)] := hl
  have hnm16 := nm_le σ
  have hnw18 := nw_le σ
  refine lv_aload_n hx hb dX4_advance_0 rfl (lv_at hl 0 rfl) ?_
  refine lv_iload_n hx hb dX4_advance_1 rfl (lv_at hl 1 rfl) ?_
  refine lv_iconst (v := 1) hx hb dX4_advance_2 (by decide) ?_
  refine lv_bipush (v := 100) hx hb dX4_advance_3 (by decide) ?_
  refine xc_Mi hw (va_runS (As := [.int x0, .int 1, .int 100]) (rest := [.ref (ad 0)]) S (c_X4_in l D cy ad σ x0 1 100 _) (va_cwS 3 S.2.2.2.2 gX4_advance_X4_in rfl rfl rfl (by decide +kernel) ⟨Nat.le_of_ble_eq_true rfl, Nat.le_of_ble_eq_true rfl⟩) (xc_preS (XOK.tt _ _) hX hw _) rfl rfl hl.1 rfl (lv_room (Nat.le_of_ble_eq_true rfl)) dX4_advance_5 ⟨Nat.le_of_ble_eq_true rfl, Nat.le_of_ble_eq_true rfl⟩) (fun r9 u H locs hp hw => ?_)
  obtain ⟨hu9, hr9⟩ := hp
  rw [hu9] at hw
  rw [hr9]
  clear hu9 hr9
  refine lv_if_ne (tgt := 15) hx hb dX4_advance_8 (by decide) (fun c1 => ?_) (fun c1 => ?_)
  · have hc1 : rgI x0 1 100 := bI_1.mp c1
    obtain ⟨dd, hdd, rfl⟩ := nI_of2 (n := 100) (M := 100) rfl (fun h => hc1.1 (Int32.lt_trans h (by decide))) hc1.2
    refine lv_aload_n hx hb dX4_advance_15 rfl (lv_at hl 0 rfl) ?_
    refine xr_get S hw (j := 2) (by decide) rfl rfl inX4_advance_X4 (by decide) (hts (.fieldLink RX4 79 "UnionOfficeModel" "now" "I") (by decide +kernel)) rfl dX4_advance_16 ?_
    refine lv_iload_n hx hb dX4_advance_19 rfl (lv_at hl 1 rfl) ?_
    refine lv_iadd hx hb dX4_advance_20 ?_
    refine lv_sipush (v := 1800) hx hb dX4_advance_21 (by decide) ?_
    refine lv_icmp_le (tgt := 31) hx hb dX4_advance_24 (by decide) (fun c2 => ?_) (fun c2 => ?_)
    · have h1800 : nw σ + dd ≤ 1800 := le1800 (nw_le σ) hdd c2
      refine lv_iconst (v := 0) hx hb dX4_advance_31 (by decide) ?_
      obtain ⟨σ1, hσ1⟩ : ∃ y : S3, y = su σ 23 0 0 0 := ⟨_, rfl⟩
      refine xr_put S hw tyX4 tyX4_ok nmX4 (j := 22) (by decide) rfl rfl inX4_advance_X4 (by decide) (hts (.fieldLink RX4 69 "UnionOfficeModel" "thrown" "I") (by decide +kernel)) rfl (tyX4_ok 22 (by decide)) rfl rfl (Nat.le_of_ble_eq_true rfl) dX4_advance_32 (mE cy ad σ1) (by rw [hσ1]; exact mu_thrown _ _ _ _) (fun H locs hw => ?_)
      refine lv_iconst (v := 0) hx hb dX4_advance_35 (by decide) ?_
      refine lv_istore_n (lv' := [(2, .int 0), (0, .ref (ad 0)), (1, .int (nI dd))]) hx hb dX4_advance_36 rfl hl (by decide) rfl (fun ls hl => ?_)
      have hth0 : σ1 23 0 0 = 0 := by rw [hσ1]; rfl
      refine lp_X4_advance (σ := σ1) S trivial hdd (by rw [hσ1, nw_suk (by decide)]; exact h1800) hth0 (dd + 1) 0 σ1 _ _ ls (by omega) (by omega) rfl hw (lv_sub hl [1, 2, 0] rfl) (fun H locs ls hw hl => ?_)
      refine lv_aload_n hx hb dX4_advance_124 rfl (lv_at hl 0 rfl) ?_
      have hth1 : (eaN σ1 dd) 23 0 0 = 0 := by rw [th_eaN]; exact hth0
      refine xr_get S hw (j := 22) (v := .int 0) (by decide) rfl rfl inX4_advance_X4 (by decide) (hts (.fieldLink RX4 69 "UnionOfficeModel" "thrown" "I") (by decide +kernel)) (congrArg (fun z => some (Value.int z)) hth1) dX4_advance_125 ?_
      refine lv_if_ne (tgt := 138) hx hb dX4_advance_128 (by decide) (fun h => absurd h (by decide)) (fun _ => ?_)
      refine lv_aload_n hx hb dX4_advance_131 rfl (lv_at hl 0 rfl) ?_
      refine xr_get S hw (j := 2) (by decide) rfl rfl inX4_advance_X4 (by decide) (hts (.fieldLink RX4 79 "UnionOfficeModel" "now" "I") (by decide +kernel)) rfl dX4_advance_132 ?_
      refine lv_goto (tgt := 139) hx hb dX4_advance_135 (by decide) ?_
      exact xe_i S.1 S.2.1 hr hlocks hw (Or.inr (Or.inr ⟨hc1, c2, by rw [cl_nI (by omega), hσ1], by rw [cl_nI (by omega), hσ1]⟩)) (Nat.le_of_ble_eq_true rfl) (Nat.le_of_ble_eq_true rfl) dX4_advance_139
    · refine lv_iconst (v := 2) hx hb dX4_advance_27 (by decide) ?_
      refine lv_goto (tgt := 32) hx hb dX4_advance_28 (by decide) ?_
      obtain ⟨σ2, hσ2⟩ : ∃ y : S3, y = su σ 23 0 0 2 := ⟨_, rfl⟩
      refine xr_put S hw tyX4 tyX4_ok nmX4 (j := 22) (by decide) rfl rfl inX4_advance_X4 (by decide) (hts (.fieldLink RX4 69 "UnionOfficeModel" "thrown" "I") (by decide +kernel)) rfl (tyX4_ok 22 (by decide)) rfl rfl (Nat.le_of_ble_eq_true rfl) dX4_advance_32 (mE cy ad σ2) (by rw [hσ2]; exact mu_thrown _ _ _ _) (fun H locs hw => ?_)
      refine lv_iconst (v := 0) hx hb dX4_advance_35 (by decide) ?_
      refine lv_istore_n (lv' := [(2, .int 0), (0, .ref (ad 0)), (1, .int (nI dd))]) hx hb dX4_advance_36 rfl hl (by decide) rfl (fun ls hl => ?_)
      refine lv_iload_n hx hb dX4_advance_37 rfl (lv_at hl 0 rfl) ?_
      refine lv_iload_n hx hb dX4_advance_38 rfl (lv_at hl 2 rfl) ?_
      refine lv_icmp_ge (tgt := 124) hx hb dX4_advance_39 (by decide) (fun c4 => ?_) (fun c4 => ?_)
      · refine lv_aload_n hx hb dX4_advance_124 rfl (lv_at hl 1 rfl) ?_
        have hth2 : σ2 23 0 0 = 2 := by rw [hσ2]; rfl
        refine xr_get S hw (j := 22) (v := .int 2) (by decide) rfl rfl inX4_advance_X4 (by decide) (hts (.fieldLink RX4 69 "UnionOfficeModel" "thrown" "I") (by decide +kernel)) (congrArg (fun z => some (Value.int z)) hth2) dX4_advance_125 ?_
        refine lv_if_ne (tgt := 138) hx hb dX4_advance_128 (by decide) (fun _ => ?_) (fun h => absurd h (by decide))
        refine lv_iconst (v := 0) hx hb dX4_advance_138 (by decide) ?_
        exact xe_i S.1 S.2.1 hr hlocks hw (Or.inr (Or.inl ⟨hc1, c2, rfl, hσ2⟩)) (Nat.le_of_ble_eq_true rfl) (Nat.le_of_ble_eq_true rfl) dX4_advance_139
      · refine lv_aload_n hx hb dX4_advance_42 rfl (lv_at hl 1 rfl) ?_
        have hth3 : σ2 23 0 0 = 2 := by rw [hσ2]; rfl
        refine xr_get S hw (j := 22) (v := .int 2) (by decide) rfl rfl inX4_advance_X4 (by decide) (hts (.fieldLink RX4 69 "UnionOfficeModel" "thrown" "I") (by decide +kernel)) (congrArg (fun z => some (Value.int z)) hth3) dX4_advance_43 ?_
        refine lv_if_ne (tgt := 124) hx hb dX4_advance_46 (by decide) (fun _ => ?_) (fun h => absurd h (by decide))
        refine lv_aload_n hx hb dX4_advance_124 rfl (lv_at hl 1 rfl) ?_
        have hth4 : σ2 23 0 0 = 2 := by rw [hσ2]; rfl
        refine xr_get S hw (j := 22) (v := .int 2) (by decide) rfl rfl inX4_advance_X4 (by decide) (hts (.fieldLink RX4 69 "UnionOfficeModel" "thrown" "I") (by decide +kernel)) (congrArg (fun z => some (Value.int z)) hth4) dX4_advance_125 ?_
        refine lv_if_ne (tgt := 138) hx hb dX4_advance_128 (by decide) (fun _ => ?_) (fun h => absurd h (by decide))
        refine lv_iconst (v := 0) hx hb dX4_advance_138 (by decide) ?_
        exact xe_i S.1 S.2.1 hr hlocks hw (Or.inr (Or.inl ⟨hc1, c2, rfl, hσ2⟩)) (Nat.le_of_ble_eq_true rfl) (Nat.le_of_ble_eq_true rfl) dX4_advance_139
  · have hc1 : ¬ (rgI x0 1 100) := bI_0.mp c1
    refine lv_iconst (v := 1) hx hb dX4_advance_11 (by decide) ?_
    refine lv_goto (tgt := 32) hx hb dX4_advance_12 (by decide) ?_
    obtain ⟨σ3, hσ3⟩ : ∃ y : S3, y = su σ 23 0 0 1 := ⟨_, rfl⟩
    refine xr_put S hw tyX4 tyX4_ok nmX4 (j := 22) (by decide) rfl rfl inX4_advance_X4 (by decide) (hts (.fieldLink RX4 69 "UnionOfficeModel" "thrown" "I") (by decide +kernel)) rfl (tyX4_ok 22 (by decide)) rfl rfl (Nat.le_of_ble_eq_true rfl) dX4_advance_32 (mE cy ad σ3) (by rw [hσ3]; exact mu_thrown _ _ _ _) (fun H locs hw => ?_)
    refine lv_iconst (v := 0) hx hb dX4_advance_35 (by decide) ?_
    refine lv_istore_n (lv' := [(2, .int 0), (0, .ref (ad 0)), (1, .int x0)]) hx hb dX4_advance_36 rfl hl (by decide) rfl (fun ls hl => ?_)
    refine lv_iload_n hx hb dX4_advance_37 rfl (lv_at hl 0 rfl) ?_
    refine lv_iload_n hx hb dX4_advance_38 rfl (lv_at hl 2 rfl) ?_
    refine lv_icmp_ge (tgt := 124) hx hb dX4_advance_39 (by decide) (fun c8 => ?_) (fun c8 => ?_)
    · refine lv_aload_n hx hb dX4_advance_124 rfl (lv_at hl 1 rfl) ?_
      have hth5 : σ3 23 0 0 = 1 := by rw [hσ3]; rfl
      refine xr_get S hw (j := 22) (v := .int 1) (by decide) rfl rfl inX4_advance_X4 (by decide) (hts (.fieldLink RX4 69 "UnionOfficeModel" "thrown" "I") (by decide +kernel)) (congrArg (fun z => some (Value.int z)) hth5) dX4_advance_125 ?_
      refine lv_if_ne (tgt := 138) hx hb dX4_advance_128 (by decide) (fun _ => ?_) (fun h => absurd h (by decide))
      refine lv_iconst (v := 0) hx hb dX4_advance_138 (by decide) ?_
      exact xe_i S.1 S.2.1 hr hlocks hw (Or.inl ⟨hc1, rfl, hσ3⟩) (Nat.le_of_ble_eq_true rfl) (Nat.le_of_ble_eq_true rfl) dX4_advance_139
    · refine lv_aload_n hx hb dX4_advance_42 rfl (lv_at hl 1 rfl) ?_
      have hth6 : σ3 23 0 0 = 1 := by rw [hσ3]; rfl
      refine xr_get S hw (j := 22) (v := .int 1) (by decide) rfl rfl inX4_advance_X4 (by decide) (hts (.fieldLink RX4 69 "UnionOfficeModel" "thrown" "I") (by decide +kernel)) (congrArg (fun z => some (Value.int z)) hth6) dX4_advance_43 ?_
      refine lv_if_ne (tgt := 124) hx hb dX4_advance_46 (by decide) (fun _ => ?_) (fun h => absurd h (by decide))
      refine lv_aload_n hx hb dX4_advance_124 rfl (lv_at hl 1 rfl) ?_
      have hth7 : σ3 23 0 0 = 1 := by rw [hσ3]; rfl
      refine xr_get S hw (j := 22) (v := .int 1) (by decide) rfl rfl inX4_advance_X4 (by decide) (hts (.fieldLink RX4 69 "UnionOfficeModel" "thrown" "I") (by decide +kernel)) (congrArg (fun z => some (Value.int z)) hth7) dX4_advance_125 ?_
      refine lv_if_ne (tgt := 138) hx hb dX4_advance_128 (by decide) (fun _ => ?_) (fun h => absurd h (by decide))
      refine lv_iconst (v := 0) hx hb dX4_advance_138 (by decide) ?_
      exact xe_i S.1 S.2.1 hr hlocks hw (Or.inl ⟨hc1, rfl, hσ3⟩) (Nat.le_of_ble_eq_true rfl) (Nat.le_of_ble_eq_true rfl) dX4_advance_139
theorem fo_le {f k : Nat} (hf : f < 2 ^ 31) (hk : k < 2 ^ 30) (h : nI f - 1 < nI k) : f ≤ k := by
  cases f with
  | zero => exact Nat.zero_le _
  | succ g =>
    rw [nI_pred] at h
    exact (nI_ltI (by omega) (by omega)).mp h
def aiF (σ : S3) (f b : Nat) (a : Int32) : Nat → Int32
  | 0 => a
  | k + 1 => aiF σ f b a k + σ 9 b (f + k)
def aoF (σ : S3) (f d : Nat) : Nat → Int32
  | 0 => 0
  | b + 1 => aiF σ f b (aoF σ f d b) d
abbrev foP (σ : S3) (x : Int32) : Prop := ¬ x < 0 ∧ ¬ 60 < x ∧ ehP σ x ∧ nI (fo σ) - 1 < x
theorem inX4_fold_X4 : (∀ w ∈ wsX40, w ∈ wsX4_fold) := by decide +kernel
set_option maxHeartbeats 1000000 in
set_option maxRecDepth 100000 in
theorem lp_X4_fold_m {p : Program} {l : Launch} {e : Env} {R : Room} {s : State} {m : MethodId} {args : Array Value} {below : List Frame} {meth : Method} {c : Code} {cells slots : Nat} {Q : State → Prop} (S : CallFix p m c cX4_fold 5 s args wsX4_fold RX4) {D : va_G} {cy : Nat → ClassId} {ad : Nat → Nat} {σ : S3} {mm f b : Nat} {a : Int32} (hmm : mm < 60) (hf : f ≤ mm) (hb4 : b < 4) : ∀ (k : Nat) (j : Nat) (acc : Int32) (H : Heap) (locs : List Loc) (ls : Array Slot), 60 - j < k → j ≤ mm + 1 - f → acc = aiF σ f b a j → MW D cy s ad σ H locs → lv_has ls 5 [(0, .ref (ad 0)), (1, .int (nI mm)), (2, .int acc), (3, .int (nI b)), (4, .int (nI (f + j)))] → (∀ (r : Int32) (H : Heap) (locs : List Loc) (ls : Array Slot), r = aiF σ f b a (mm + 1 - f) → MW D cy s ad σ H locs → lv_has ls 5 [(0, .ref (ad 0)), (1, .int (nI mm)), (2, .int r), (3, .int (nI b))] → W p l e R s m args below meth c H locs cells slots Q (F0 m 88 ls [])) → W p l e R s m args below meth c H locs cells slots Q (F0 m 61 ls []) := by
  have hx := S.1
  have hb := S.2.1
  have hts := S.2.2.2.2
  intro k
  induction k with
  | zero => intro j acc H locs ls hk; exact absurd hk (Nat.not_lt_zero _)
  | succ k ih =>
    intro j acc H locs ls hk hj hacc hw hl kk
    refine lv_iload hx hb dX4_fold_61 (lv_at hl 4 rfl) ?_
    refine lv_iload_n hx hb dX4_fold_63 rfl (lv_at hl 1 rfl) ?_
    refine lv_icmp_gt (tgt := 88) hx hb dX4_fold_64 (by decide) (fun c1 => ?_) (fun c1 => ?_)
    · have hj6 : j = mm + 1 - f := by
        have := (nI_ltI (by omega) (by omega)).mp c1
        omega
      exact kk acc H locs ls (by rw [hacc, hj6]) hw (lv_sub hl [0, 1, 2, 3] rfl)
    · have hj6 : f + j ≤ mm := by
        rcases Nat.lt_or_ge mm (f + j) with q | q
        · exact absurd ((nI_ltI (by omega) (by omega)).mpr q) c1
        · exact q
      refine lv_iload_n hx hb dX4_fold_67 rfl (lv_at hl 2 rfl) ?_
      refine lv_aload_n hx hb dX4_fold_68 rfl (lv_at hl 0 rfl) ?_
      refine xr_get S hw (j := 14) (by decide) rfl rfl inX4_fold_X4 (by decide) (hts (.fieldLink RX4 38 "UnionOfficeModel" "laidOf" "[I") (by decide +kernel)) rfl dX4_fold_69 ?_
      refine lv_bipush (v := 60) hx hb dX4_fold_72 (by decide) ?_
      refine lv_iload_n hx hb dX4_fold_74 rfl (lv_at hl 3 rfl) ?_
      refine lv_imul hx hb dX4_fold_75 ?_
      refine lv_iload hx hb dX4_fold_76 (lv_at hl 4 rfl) ?_
      refine lv_iadd hx hb dX4_fold_78 ?_
      rw [show ((60 * (nI b)) + (nI (f + j))) = nI (60 * b + (f + j)) from mulN 60 b (f + j)]
      refine xv_iald S hw (t0 := 0) (v := σ 9 b (f + j)) (by decide) rfl rfl (by omega) (by decide) (fl60 _ (by omega)) dX4_fold_79 ?_
      refine lv_iadd hx hb dX4_fold_80 ?_
      refine lv_istore_n (lv' := [(2, .int (acc + (σ 9 b (f + j)))), (0, .ref (ad 0)), (1, .int (nI mm)), (3, .int (nI b)), (4, .int (nI (f + j)))]) hx hb dX4_fold_81 rfl hl (by decide) rfl (fun ls hl => ?_)
      refine lv_iinc (v := nI ((f + j) + 1)) (lv' := [(4, .int (nI ((f + j) + 1))), (2, .int (acc + (σ 9 b (f + j)))), (0, .ref (ad 0)), (1, .int (nI mm)), (3, .int (nI b))]) hx hb dX4_fold_82 hl (k := 4) rfl (nI_1 (f + j)) (by decide) rfl (fun ls hl => ?_)
      refine lv_goto (tgt := 61) hx hb dX4_fold_85 (by decide) ?_
      exact ih (j + 1) (acc + (σ 9 b (f + j))) H locs ls (by omega) (by omega) (by rw [hacc]; rfl) hw (lv_sub hl [2, 3, 1, 4, 0] rfl) kk
set_option maxHeartbeats 1000000 in
set_option maxRecDepth 100000 in
theorem lp_X4_fold {p : Program} {l : Launch} {e : Env} {R : Room} {s : State} {m : MethodId} {args : Array Value} {below : List Frame} {meth : Method} {c : Code} {cells slots : Nat} {Q : State → Prop} (S : CallFix p m c cX4_fold 5 s args wsX4_fold RX4) {D : va_G} {cy : Nat → ClassId} {ad : Nat → Nat} {σ : S3} {mm : Nat} (hmm : mm < 60) (hf : fo σ ≤ mm) : ∀ (k : Nat) (j : Nat) (acc : Int32) (H : Heap) (locs : List Loc) (ls : Array Slot), 4 - j < k → j ≤ 4 → acc = aoF σ (fo σ) (mm + 1 - fo σ) j → MW D cy s ad σ H locs → lv_has ls 5 [(0, .ref (ad 0)), (1, .int (nI mm)), (2, .int acc), (3, .int (nI j))] → (∀ (r : Int32) (H : Heap) (locs : List Loc) (ls : Array Slot), r = aoF σ (fo σ) (mm + 1 - fo σ) 4 → MW D cy s ad σ H locs → lv_has ls 5 [(0, .ref (ad 0)), (1, .int (nI mm)), (2, .int r)] → W p l e R s m args below meth c H locs cells slots Q (F0 m 94 ls [])) → W p l e R s m args below meth c H locs cells slots Q (F0 m 48 ls []) := by
  have hx := S.1
  have hb := S.2.1
  have hts := S.2.2.2.2
  intro k
  induction k with
  | zero => intro j acc H locs ls hk; exact absurd hk (Nat.not_lt_zero _)
  | succ k ih =>
    intro j acc H locs ls hk hj hacc hw hl kk
    refine lv_iload_n hx hb dX4_fold_48 rfl (lv_at hl 3 rfl) ?_
    refine lv_iconst (v := 4) hx hb dX4_fold_49 (by decide) ?_
    refine lv_icmp_ge (tgt := 94) hx hb dX4_fold_50 (by decide) (fun c1 => ?_) (fun c1 => ?_)
    · have hj6 : j = 4 := by
        rcases Nat.lt_or_ge j 4 with q | q
        · exact absurd c1 ((lt4 (by omega)).mpr q)
        · omega
      exact kk acc H locs ls (by rw [hacc, hj6]) hw (lv_sub hl [0, 1, 2] rfl)
    · have hj6 : j < 4 := (lt4 (by omega)).mp c1
      refine lv_aload_n hx hb dX4_fold_53 rfl (lv_at hl 0 rfl) ?_
      refine xr_get S hw (j := 4) (by decide) rfl rfl inX4_fold_X4 (by decide) (hts (.fieldLink RX4 66 "UnionOfficeModel" "folded" "I") (by decide +kernel)) rfl dX4_fold_54 ?_
      refine lv_iconst (v := 1) hx hb dX4_fold_57 (by decide) ?_
      refine lv_iadd hx hb dX4_fold_58 ?_
      rw [show nI (fo σ) - 1 + 1 = nI (fo σ) from Int32.sub_add_cancel _ _]
      refine lv_istore (lv' := [(4, .int (nI (fo σ))), (0, .ref (ad 0)), (1, .int (nI mm)), (2, .int acc), (3, .int (nI j))]) hx hb dX4_fold_59 hl (by decide) rfl (fun ls hl => ?_)
      refine lp_X4_fold_m (f := fo σ) (a := acc) S hmm hf hj6 61 0 acc _ _ ls (by omega) (by omega) rfl hw (lv_sub hl [1, 2, 3, 4, 0] rfl) (fun r H locs ls hr9 hw hl => ?_)
      refine lv_iinc (v := nI (j + 1)) (lv' := [(3, .int (nI (j + 1))), (0, .ref (ad 0)), (1, .int (nI mm)), (2, .int r)]) hx hb dX4_fold_88 hl (k := 3) rfl (nI_1 j) (by decide) rfl (fun ls hl => ?_)
      refine lv_goto (tgt := 48) hx hb dX4_fold_91 (by decide) ?_
      exact ih (j + 1) r H locs ls (by omega) (by omega) (by rw [hr9, hacc]; rfl) hw (lv_sub hl [1, 2, 3, 0] rfl) kk
abbrev rmX4_fold : Room := { frames := 1, cells := 0, slots := 0, locals := 21 }
set_option maxHeartbeats 1000000 in
set_option maxRecDepth 100000 in
/-- fold -/
theorem c_X4_fold (l : Launch) (D : va_G) (cy : Nat → ClassId) (ad : Nat → Nat) (σ : S3) (x0 : Int32) : MM l yX4_fold wsX4_fold rmX4_fold D cy ad [.ref (ad 0), .int x0] σ (xPi (mP1 σ (foP σ x0) (aoF (th0 σ) (fo (th0 σ)) (x0.toNatClampNeg + 1 - fo (th0 σ)) 4) (su (th0 σ) 20 0 0 (nI (x0.toNatClampNeg + 1))))) := by
  refine xs_M (cc := cX4_fold) (maxL := 5) (ret := (some .int)) (by decide +kernel) rfl (Nat.le_of_ble_eq_true rfl) ?_
  intro p e s m below meth c ls S hr hlocks hnm hw hX hl
  have S : CallFix p m c cX4_fold 5 s [.ref (ad 0), .int x0].toArray wsX4_fold RX4 := S
  have hx := S.1
  have hb := S.2.1
  have hts := S.2.2.2.2
  have hl : lv_has ls 5 [(0, .ref (ad 0)), (1, .int x0)] := hl
  have hnm16 := nm_le σ
  have hnw18 := nw_le σ
  refine lv_aload_n hx hb dX4_fold_0 rfl (lv_at hl 0 rfl) ?_
  refine lv_iload_n hx hb dX4_fold_1 rfl (lv_at hl 1 rfl) ?_
  refine lv_if_lt (tgt := 27) hx hb dX4_fold_2 (by decide) (fun c1 => ?_) (fun c1 => ?_)
  · refine lv_iconst (v := 1) hx hb dX4_fold_27 (by decide) ?_
    refine lv_goto (tgt := 32) hx hb dX4_fold_28 (by decide) ?_
    obtain ⟨σ1, hσ1⟩ : ∃ y : S3, y = su σ 23 0 0 1 := ⟨_, rfl⟩
    refine xr_put S hw tyX4 tyX4_ok nmX4 (j := 22) (by decide) rfl rfl inX4_fold_X4 (by decide) (hts (.fieldLink RX4 69 "UnionOfficeModel" "thrown" "I") (by decide +kernel)) rfl (tyX4_ok 22 (by decide)) rfl rfl (Nat.le_of_ble_eq_true rfl) dX4_fold_32 (mE cy ad σ1) (by rw [hσ1]; exact mu_thrown _ _ _ _) (fun H locs hw => ?_)
    refine lv_aload_n hx hb dX4_fold_35 rfl (lv_at hl 0 rfl) ?_
    have hth1 : σ1 23 0 0 = 1 := by rw [hσ1]; rfl
    refine xr_get S hw (j := 22) (v := .int 1) (by decide) rfl rfl inX4_fold_X4 (by decide) (hts (.fieldLink RX4 69 "UnionOfficeModel" "thrown" "I") (by decide +kernel)) (congrArg (fun z => some (Value.int z)) hth1) dX4_fold_36 ?_
    refine lv_if_le (tgt := 44) hx hb dX4_fold_39 (by decide) (fun h => absurd h (by decide)) (fun _ => ?_)
    refine lv_iconst (v := 0) hx hb dX4_fold_42 (by decide) ?_
    exact xe_i S.1 S.2.1 hr hlocks hw (Or.inl ⟨fun h => h.1 c1, rfl, hσ1⟩) (Nat.le_of_ble_eq_true rfl) (Nat.le_of_ble_eq_true rfl) dX4_fold_43
  · refine lv_iload_n hx hb dX4_fold_5 rfl (lv_at hl 1 rfl) ?_
    refine lv_bipush (v := 60) hx hb dX4_fold_6 (by decide) ?_
    refine lv_icmp_gt (tgt := 27) hx hb dX4_fold_8 (by decide) (fun c3 => ?_) (fun c3 => ?_)
    · refine lv_iconst (v := 1) hx hb dX4_fold_27 (by decide) ?_
      refine lv_goto (tgt := 32) hx hb dX4_fold_28 (by decide) ?_
      obtain ⟨σ2, hσ2⟩ : ∃ y : S3, y = su σ 23 0 0 1 := ⟨_, rfl⟩
      refine xr_put S hw tyX4 tyX4_ok nmX4 (j := 22) (by decide) rfl rfl inX4_fold_X4 (by decide) (hts (.fieldLink RX4 69 "UnionOfficeModel" "thrown" "I") (by decide +kernel)) rfl (tyX4_ok 22 (by decide)) rfl rfl (Nat.le_of_ble_eq_true rfl) dX4_fold_32 (mE cy ad σ2) (by rw [hσ2]; exact mu_thrown _ _ _ _) (fun H locs hw => ?_)
      refine lv_aload_n hx hb dX4_fold_35 rfl (lv_at hl 0 rfl) ?_
      have hth2 : σ2 23 0 0 = 1 := by rw [hσ2]; rfl
      refine xr_get S hw (j := 22) (v := .int 1) (by decide) rfl rfl inX4_fold_X4 (by decide) (hts (.fieldLink RX4 69 "UnionOfficeModel" "thrown" "I") (by decide +kernel)) (congrArg (fun z => some (Value.int z)) hth2) dX4_fold_36 ?_
      refine lv_if_le (tgt := 44) hx hb dX4_fold_39 (by decide) (fun h => absurd h (by decide)) (fun _ => ?_)
      refine lv_iconst (v := 0) hx hb dX4_fold_42 (by decide) ?_
      exact xe_i S.1 S.2.1 hr hlocks hw (Or.inl ⟨fun h => h.2.1 c3, rfl, hσ2⟩) (Nat.le_of_ble_eq_true rfl) (Nat.le_of_ble_eq_true rfl) dX4_fold_43
    · refine lv_aload_n hx hb dX4_fold_11 rfl (lv_at hl 0 rfl) ?_
      refine lv_iload_n hx hb dX4_fold_12 rfl (lv_at hl 1 rfl) ?_
      refine xc_Mi hw (va_runV (As := [.int x0]) (rest := [.ref (ad 0)]) S (c_X4_hasEnded l D cy ad σ x0 _) (cwV 1 S.2.2.2.2 gX4_fold_X4_hasEnded rfl rfl rfl (by decide +kernel) ⟨Nat.le_of_ble_eq_true rfl, Nat.le_of_ble_eq_true rfl⟩) (xc_preV (XOK.tt _ _) hX hw (by decide) rfl rfl rfl) rfl rfl hl.1 rfl (lv_room (Nat.le_of_ble_eq_true rfl)) dX4_fold_13 ⟨Nat.le_of_ble_eq_true rfl, Nat.le_of_ble_eq_true rfl⟩) (fun r9 u H locs hp hw => ?_)
      obtain ⟨hu9, hr9⟩ := hp
      rw [hu9] at hw
      rw [hr9]
      clear hu9 hr9
      refine lv_if_eq (tgt := 27) hx hb dX4_fold_16 (by decide) (fun c5 => ?_) (fun c5 => ?_)
      · have hc5 : ¬ (ehP σ x0) := bI_0.mp c5
        refine lv_iconst (v := 1) hx hb dX4_fold_27 (by decide) ?_
        refine lv_goto (tgt := 32) hx hb dX4_fold_28 (by decide) ?_
        obtain ⟨σ3, hσ3⟩ : ∃ y : S3, y = su σ 23 0 0 1 := ⟨_, rfl⟩
        refine xr_put S hw tyX4 tyX4_ok nmX4 (j := 22) (by decide) rfl rfl inX4_fold_X4 (by decide) (hts (.fieldLink RX4 69 "UnionOfficeModel" "thrown" "I") (by decide +kernel)) rfl (tyX4_ok 22 (by decide)) rfl rfl (Nat.le_of_ble_eq_true rfl) dX4_fold_32 (mE cy ad σ3) (by rw [hσ3]; exact mu_thrown _ _ _ _) (fun H locs hw => ?_)
        refine lv_aload_n hx hb dX4_fold_35 rfl (lv_at hl 0 rfl) ?_
        have hth3 : σ3 23 0 0 = 1 := by rw [hσ3]; rfl
        refine xr_get S hw (j := 22) (v := .int 1) (by decide) rfl rfl inX4_fold_X4 (by decide) (hts (.fieldLink RX4 69 "UnionOfficeModel" "thrown" "I") (by decide +kernel)) (congrArg (fun z => some (Value.int z)) hth3) dX4_fold_36 ?_
        refine lv_if_le (tgt := 44) hx hb dX4_fold_39 (by decide) (fun h => absurd h (by decide)) (fun _ => ?_)
        refine lv_iconst (v := 0) hx hb dX4_fold_42 (by decide) ?_
        exact xe_i S.1 S.2.1 hr hlocks hw (Or.inl ⟨fun h => hc5 h.2.2.1, rfl, hσ3⟩) (Nat.le_of_ble_eq_true rfl) (Nat.le_of_ble_eq_true rfl) dX4_fold_43
      · have hc5 : ehP σ x0 := bI_1.mp c5
        obtain ⟨mm, hmm, rfl⟩ := eh60 c3 hc5
        refine lv_iload_n hx hb dX4_fold_19 rfl (lv_at hl 1 rfl) ?_
        refine lv_aload_n hx hb dX4_fold_20 rfl (lv_at hl 0 rfl) ?_
        refine xr_get S hw (j := 4) (by decide) rfl rfl inX4_fold_X4 (by decide) (hts (.fieldLink RX4 66 "UnionOfficeModel" "folded" "I") (by decide +kernel)) rfl dX4_fold_21 ?_
        refine lv_icmp_gt (tgt := 31) hx hb dX4_fold_24 (by decide) (fun c7 => ?_) (fun c7 => ?_)
        · have hfo : fo σ ≤ mm := fo_le (fo_lt σ) (by omega) c7
          refine lv_iconst (v := 0) hx hb dX4_fold_31 (by decide) ?_
          obtain ⟨σ4, hσ4⟩ : ∃ y : S3, y = su σ 23 0 0 0 := ⟨_, rfl⟩
          refine xr_put S hw tyX4 tyX4_ok nmX4 (j := 22) (by decide) rfl rfl inX4_fold_X4 (by decide) (hts (.fieldLink RX4 69 "UnionOfficeModel" "thrown" "I") (by decide +kernel)) rfl (tyX4_ok 22 (by decide)) rfl rfl (Nat.le_of_ble_eq_true rfl) dX4_fold_32 (mE cy ad σ4) (by rw [hσ4]; exact mu_thrown _ _ _ _) (fun H locs hw => ?_)
          refine lv_aload_n hx hb dX4_fold_35 rfl (lv_at hl 0 rfl) ?_
          have hth4 : σ4 23 0 0 = 0 := by rw [hσ4]; rfl
          refine xr_get S hw (j := 22) (v := .int 0) (by decide) rfl rfl inX4_fold_X4 (by decide) (hts (.fieldLink RX4 69 "UnionOfficeModel" "thrown" "I") (by decide +kernel)) (congrArg (fun z => some (Value.int z)) hth4) dX4_fold_36 ?_
          refine lv_if_le (tgt := 44) hx hb dX4_fold_39 (by decide) (fun _ => ?_) (fun h => absurd h (by decide))
          refine lv_iconst (v := 0) hx hb dX4_fold_44 (by decide) ?_
          refine lv_istore_n (lv' := [(2, .int 0), (0, .ref (ad 0)), (1, .int (nI mm))]) hx hb dX4_fold_45 rfl hl (by decide) rfl (fun ls hl => ?_)
          refine lv_iconst (v := 0) hx hb dX4_fold_46 (by decide) ?_
          refine lv_istore_n (lv' := [(3, .int 0), (2, .int 0), (0, .ref (ad 0)), (1, .int (nI mm))]) hx hb dX4_fold_47 rfl hl (by decide) rfl (fun ls hl => ?_)
          refine lp_X4_fold (σ := σ4) S hmm (by rw [hσ4, fo_suk (by decide)]; exact hfo) 5 0 0 _ _ ls (by decide) (by decide) rfl hw (lv_sub hl [2, 3, 1, 0] rfl) (fun r H locs ls hr9 hw hl => ?_)
          refine lv_aload_n hx hb dX4_fold_94 rfl (lv_at hl 0 rfl) ?_
          refine lv_iload_n hx hb dX4_fold_95 rfl (lv_at hl 1 rfl) ?_
          obtain ⟨σ5, hσ5⟩ : ∃ y : S3, y = su σ4 20 0 0 (nI (mm + 1)) := ⟨_, rfl⟩
          refine xr_put S hw tyX4 tyX4_ok nmX4 (j := 4) (by decide) rfl rfl inX4_fold_X4 (by decide) (hts (.fieldLink RX4 66 "UnionOfficeModel" "folded" "I") (by decide +kernel)) rfl (tyX4_ok 4 (by decide)) rfl rfl (Nat.le_of_ble_eq_true rfl) dX4_fold_96 (mE cy ad σ5) (by rw [hσ5]; exact (by have h9 := mu_folded cy ad σ4 (d := mm + 1) (by omega); rw [nI_pred] at h9; exact h9)) (fun H locs hw => ?_)
          refine lv_iload_n hx hb dX4_fold_99 rfl (lv_at hl 2 rfl) ?_
          exact xe_i S.1 S.2.1 hr hlocks hw (Or.inr ⟨⟨c1, c3, hc5, c7⟩, by rw [cl_nI (show mm < 2 ^ 31 by omega), hr9, hσ4], by rw [cl_nI (show mm < 2 ^ 31 by omega), hσ5, hσ4]⟩) (Nat.le_of_ble_eq_true rfl) (Nat.le_of_ble_eq_true rfl) dX4_fold_100
        · refine lv_iconst (v := 1) hx hb dX4_fold_27 (by decide) ?_
          refine lv_goto (tgt := 32) hx hb dX4_fold_28 (by decide) ?_
          obtain ⟨σ6, hσ6⟩ : ∃ y : S3, y = su σ 23 0 0 1 := ⟨_, rfl⟩
          refine xr_put S hw tyX4 tyX4_ok nmX4 (j := 22) (by decide) rfl rfl inX4_fold_X4 (by decide) (hts (.fieldLink RX4 69 "UnionOfficeModel" "thrown" "I") (by decide +kernel)) rfl (tyX4_ok 22 (by decide)) rfl rfl (Nat.le_of_ble_eq_true rfl) dX4_fold_32 (mE cy ad σ6) (by rw [hσ6]; exact mu_thrown _ _ _ _) (fun H locs hw => ?_)
          refine lv_aload_n hx hb dX4_fold_35 rfl (lv_at hl 0 rfl) ?_
          have hth5 : σ6 23 0 0 = 1 := by rw [hσ6]; rfl
          refine xr_get S hw (j := 22) (v := .int 1) (by decide) rfl rfl inX4_fold_X4 (by decide) (hts (.fieldLink RX4 69 "UnionOfficeModel" "thrown" "I") (by decide +kernel)) (congrArg (fun z => some (Value.int z)) hth5) dX4_fold_36 ?_
          refine lv_if_le (tgt := 44) hx hb dX4_fold_39 (by decide) (fun h => absurd h (by decide)) (fun _ => ?_)
          refine lv_iconst (v := 0) hx hb dX4_fold_42 (by decide) ?_
          exact xe_i S.1 S.2.1 hr hlocks hw (Or.inl ⟨fun h => c7 h.2.2.2, rfl, hσ6⟩) (Nat.le_of_ble_eq_true rfl) (Nat.le_of_ble_eq_true rfl) dX4_fold_43
