/-! ===== MAKE goes off ===== -/
theorem make_ok {cx : Cx} {nA nW nT nC nP m hd nR nCe nQ p a c k q n : Nat} {pr : Nat → Nat} {σ τ : St} (hF : Fire cx nA nW nT nC nP m hd nR nCe nQ p a c k q pr σ τ) (hn : n ≤ 200) :
    ∃ (σ' τ' : St) (r : Int32), (∀ K : St → Prop, K σ' → b_X4_goMake_41 K σ (nI a) (nI c) 0 (nI n)) ∧ (∀ K : Int32 → St → Prop, K r τ' → w_X10_makes τ (nI p) (nI n) K) ∧ Done cx nA nW nT hd σ' τ' ∧ zb r := by
  obtain ⟨hG, hR, hgo, hp, h14, h15, ha, hc, h0, hk22, h2, hq1, hq3, hjq, hvr, h17, hq2, hr1, hr2⟩ := hF
  have hP := hR.2.1.1
  have hA := hG.1
  have hC6 := hR.1.2.1
  obtain ⟨g1, g2, g3, g4, g5, g6, -⟩ := hR.2.2.2.2.2.1
  have hpi : vp_in (nI p) 3000 := vp_in_nI (by omega) (by decide)
  have hai : vp_in (nI a) 80 := vp_in_nI (by omega) (by decide)
  have hin : ∀ K : Int32 → St → Prop, K 1 τ → w_X10_in τ (nI n) 0 200 K := fun K h => ev_in_ok (nI_pos (by omega)) (nI_nlt (b := n) (a := 200) (by omega) (by decide)) h
  have e0 : nI nCe + nI n = nI (nCe + n) := nI_add nCe n
  by_cases hfull : nR = 300 ∨ 2000 < nCe + n
  · refine ⟨_, _, 0, fun K hK => ?_, fun K hK => ?_, Done_full hG hR hgo, Or.inl rfl⟩
    · unfold b_X4_goMake_41
      refine jbr lg00 ?_
      unfold w_X6_make
      rw [g3, g5, e0]
      by_cases x : nR = 300
      · subst x
        exact jbr (by decide) (jbm rfl hK)
      · exact jbf (nI_ge (b := 300) (by omega) (by decide)) (jbf (nI_ge (a := 2000) (by omega) (by omega)) (jbm rfl hK))
    · unfold w_X10_makes
      refine hin _ (jbn (by decide) ?_)
      unfold w_X10_stops
      rw [g4, g6, e0]
      by_cases x : nR = 300
      · subst x
        exact jbr rfl hK
      · exact jbf (fun z => x (nI_inj (b := 300) (by omega) (by decide) z)) (jbf (nI_ge (a := 2000) (by omega) (by omega)) hK)
  · have hR3 : nR < 300 := by omega
    have hs : nCe + n ≤ 2000 := by omega
    have hri : vp_in (nI nR) 300 := vp_in_nI (by omega) (by decide)
    obtain ⟨σ1, z1, z2, z3, z4, z5, z6⟩ := lp_makeC (x2 := nI nR) hn hs n 0 (sA (sA (sS σ 12 (nI (nR + 1))) 14 nR (nI nCe)) 15 nR (nI n)) (by omega) (by simp only [gS_sS, gS_sA, gS_sL, gS_fA, gS_fL, gA_sS, gA_sA, gA_sL, gA_fA, gA_fL, gL_sS, gL_sA, gL_sL, gL_fA, gL_fL, reduceIte, Nat.reduceEqDiff, jupd, jupdL]; exact g5)
    obtain ⟨τ1, y1, y2, y3, y4⟩ := lp_makeM (p := p) hn hs n 0 (sA (sA (sA (sA τ 25 nR (nI nCe)) 26 nR (nI n)) 27 nR (nI a)) 28 nR (nI c)) (by omega) (by simp only [gS_sS, gS_sA, gS_sL, gS_fA, gS_fL, gA_sS, gA_sA, gA_sL, gA_fA, gA_fL, gL_sS, gL_sA, gL_sL, gL_fA, gL_fL, reduceIte, Nat.reduceEqDiff, jupd, jupdL]; exact g6)
    have hstep : ∃ σ2 : St, (∀ K : St → Prop, w_X4_give σ2 (nI a) 0 (nI c) (encR nR) K → b_X4_goMake_41 K σ (nI a) (nI c) 0 (nI n)) ∧ (∀ k, gS σ2 k = gS σ1 k) ∧ (∀ k, k ≠ 13 → gA σ2 k = gA σ1 k) ∧ (∀ r, gA σ2 13 r = if c = 0 ∧ r = a then nI nR else gA σ1 13 r) ∧ (∀ k, gL σ2 k = gL σ1 k) := by
      by_cases c0 : c = 0
      · subst c0
        refine ⟨sA σ1 13 a (nI nR), fun K hK => ?_, fun k => by simp only [gS_sA], fun k hk => by simp only [gA_sA, if_neg hk], fun r => by simp only [gS_sS, gS_sA, gS_sL, gS_fA, gS_fL, gA_sS, gA_sA, gA_sL, gA_fA, gA_fL, gL_sS, gL_sA, gL_sL, gL_fA, gL_fL, reduceIte, Nat.reduceEqDiff, jupd, jupdL]; simp, fun k => by simp only [gL_sA]⟩
        unfold b_X4_goMake_41 w_X6_make w_X8_ofRow
        dsimp only
        rw [g3, g5, e0, nI_clamp (show nR < 2 ^ 31 by omega), nI_clamp (show a < 2 ^ 31 by omega), nI_1]
        refine jbr lg00 (jbf (nI_ge (b := 300) (by omega) (by decide)) (jbr (nI_le (b := 2000) (by omega) (by decide)) ⟨hri, hri, n + 1, z1 _ ?_ (n + 1) (by omega)⟩))
        refine jbn (nI_m1 (by omega)) (jbm rfl ⟨hai, ?_⟩)
        rw [ev_ofRow (by omega)]
        exact hK
      · refine ⟨σ1, fun K hK => ?_, fun k => rfl, fun k hk => rfl, fun r => by rw [if_neg (fun z => c0 z.1)], fun k => rfl⟩
        unfold b_X4_goMake_41 w_X6_make w_X8_ofRow
        dsimp only
        rw [g3, g5, e0, nI_clamp (show nR < 2 ^ 31 by omega), nI_1]
        refine jbr lg00 (jbf (nI_ge (b := 300) (by omega) (by decide)) (jbr (nI_le (b := 2000) (by omega) (by decide)) ⟨hri, hri, n + 1, z1 _ ?_ (n + 1) (by omega)⟩))
        refine jbn (nI_m1 (by omega)) (jbn (nI_ne0 (by omega) (by omega)) ?_)
        rw [ev_ofRow (by omega)]
        exact hK
    obtain ⟨σ2, w1, w2, w3, w4, w5⟩ := hstep
    have y2' : ∀ k, gS τ1 k = gS τ k := fun k => by rw [y2 k]; simp only [gS_sA]
    have y3' : ∀ k, k ≠ 25 → k ≠ 26 → k ≠ 27 → k ≠ 28 → k ≠ 29 → gA τ1 k = gA τ k := fun k h1 h2 h3 h4 h5 => by rw [y3 k h5]; simp only [gA_sA, if_neg h1, if_neg h2, if_neg h3, if_neg h4]
    have fC : FsC σ σ2 := by
      refine ⟨fun k k1 k2 k3 => ?_, fun k hk => ?_, fun k hk => ?_⟩
      · rw [w2 k, z3 k k3]
        simp only [gS_sA, gS_sS, if_neg k2]
      · rw [w3 k (by omega), z4 k (by omega) (by omega)]
        simp only [gA_sA, gA_sS, if_neg (show ¬ k = 14 by omega), if_neg (show ¬ k = 15 by omega)]
      · rw [w5 k, z5 k hk]
        simp only [gL_sA, gL_sS]
    have fM : FsM τ (sS (sS τ1 16 (nI (nCe + n))) 15 (nI (nR + 1))) := by
      refine ⟨fun k k1 k2 k3 => ?_, fun k hk => ?_⟩
      · simp only [gS_sS, if_neg k1, if_neg k2]
        exact y2' k
      · simp only [gA_sS]
        exact y3' k (by omega) (by omega) (by omega) (by omega) (by omega)
    have hR' : RR cx nA nC nP m hd (nR + 1) (nCe + n) nQ pr σ2 (sS (sS τ1 16 (nI (nCe + n))) 15 (nI (nR + 1))) := by
      refine RR_make hR hR3 hs hn (show a < 80 by omega) hC6 hc hp h17 h14 h15 hr2 fC fM ?_ ?_ ?_ ?_ ?_ ?_ ?_ ?_ ?_ ?_ ?_ ?_ ?_ ?_ ?_ ?_ ?_ ?_ ?_ ?_
      · rw [w2, z3 11 (by decide)]; simp only [gS_sS, gS_sA, gS_sL, gS_fA, gS_fL, gA_sS, gA_sA, gA_sL, gA_fA, gA_fL, gL_sS, gL_sA, gL_sL, gL_fA, gL_fL, reduceIte, Nat.reduceEqDiff, jupd, jupdL]
      · rw [w2, z3 12 (by decide)]; simp only [gS_sS, gS_sA, gS_sL, gS_fA, gS_fL, gA_sS, gA_sA, gA_sL, gA_fA, gA_fL, gL_sS, gL_sA, gL_sL, gL_fA, gL_fL, reduceIte, Nat.reduceEqDiff, jupd, jupdL]
      · rw [w2, z2]
      · intro r; rw [w3 14 (by decide), z4 14 (by decide) (by decide)]; simp only [gS_sS, gS_sA, gS_sL, gS_fA, gS_fL, gA_sS, gA_sA, gA_sL, gA_fA, gA_fL, gL_sS, gL_sA, gL_sL, gL_fA, gL_fL, reduceIte, Nat.reduceEqDiff, jupd, jupdL]
      · intro r; rw [w3 15 (by decide), z4 15 (by decide) (by decide)]; simp only [gS_sS, gS_sA, gS_sL, gS_fA, gS_fL, gA_sS, gA_sA, gA_sL, gA_fA, gA_fL, gL_sS, gL_sA, gL_sL, gL_fA, gL_fL, reduceIte, Nat.reduceEqDiff, jupd, jupdL]
      · intro r; rw [w4, z4 13 (by decide) (by decide)]; simp only [gS_sS, gS_sA, gS_sL, gS_fA, gS_fL, gA_sS, gA_sA, gA_sL, gA_fA, gA_fL, gL_sS, gL_sA, gL_sL, gL_fA, gL_fL, reduceIte, Nat.reduceEqDiff, jupd, jupdL]
      · rw [w3 18 (by decide), z4 18 (by decide) (by decide)]; simp only [gS_sS, gS_sA, gS_sL, gS_fA, gS_fL, gA_sS, gA_sA, gA_sL, gA_fA, gA_fL, gL_sS, gL_sA, gL_sL, gL_fA, gL_fL, reduceIte, Nat.reduceEqDiff, jupd, jupdL]
      · intro j
        have := z6 j
        rw [w5, w3 16 (by decide), w3 17 (by decide)]
        simp only [gS_sS, gS_sA, gS_sL, gS_fA, gS_fL, gA_sS, gA_sA, gA_sL, gA_fA, gA_fL, gL_sS, gL_sA, gL_sL, gL_fA, gL_fL, reduceIte, Nat.reduceEqDiff, jupd, jupdL, Nat.add_zero] at this ⊢
        exact this
      · simp only [gS_sS, gS_sA, gS_sL, gS_fA, gS_fL, gA_sS, gA_sA, gA_sL, gA_fA, gA_fL, gL_sS, gL_sA, gL_sL, gL_fA, gL_fL, reduceIte, Nat.reduceEqDiff, jupd, jupdL]
      · simp only [gS_sS, gS_sA, gS_sL, gS_fA, gS_fL, gA_sS, gA_sA, gA_sL, gA_fA, gA_fL, gL_sS, gL_sA, gL_sL, gL_fA, gL_fL, reduceIte, Nat.reduceEqDiff, jupd, jupdL]
      · simp only [gS_sS, gS_sA, gS_sL, gS_fA, gS_fL, gA_sS, gA_sA, gA_sL, gA_fA, gA_fL, gL_sS, gL_sA, gL_sL, gL_fA, gL_fL, reduceIte, Nat.reduceEqDiff, jupd, jupdL]; exact y2' 17
      · intro r; simp only [gS_sS, gS_sA, gS_sL, gS_fA, gS_fL, gA_sS, gA_sA, gA_sL, gA_fA, gA_fL, gL_sS, gL_sA, gL_sL, gL_fA, gL_fL, reduceIte, Nat.reduceEqDiff, jupd, jupdL]; rw [y3 25 (by decide)]; simp only [gS_sS, gS_sA, gS_sL, gS_fA, gS_fL, gA_sS, gA_sA, gA_sL, gA_fA, gA_fL, gL_sS, gL_sA, gL_sL, gL_fA, gL_fL, reduceIte, Nat.reduceEqDiff, jupd, jupdL]
      · intro r; simp only [gS_sS, gS_sA, gS_sL, gS_fA, gS_fL, gA_sS, gA_sA, gA_sL, gA_fA, gA_fL, gL_sS, gL_sA, gL_sL, gL_fA, gL_fL, reduceIte, Nat.reduceEqDiff, jupd, jupdL]; rw [y3 26 (by decide)]; simp only [gS_sS, gS_sA, gS_sL, gS_fA, gS_fL, gA_sS, gA_sA, gA_sL, gA_fA, gA_fL, gL_sS, gL_sA, gL_sL, gL_fA, gL_fL, reduceIte, Nat.reduceEqDiff, jupd, jupdL]
      · intro r; simp only [gS_sS, gS_sA, gS_sL, gS_fA, gS_fL, gA_sS, gA_sA, gA_sL, gA_fA, gA_fL, gL_sS, gL_sA, gL_sL, gL_fA, gL_fL, reduceIte, Nat.reduceEqDiff, jupd, jupdL]; rw [y3 27 (by decide)]; simp only [gS_sS, gS_sA, gS_sL, gS_fA, gS_fL, gA_sS, gA_sA, gA_sL, gA_fA, gA_fL, gL_sS, gL_sA, gL_sL, gL_fA, gL_fL, reduceIte, Nat.reduceEqDiff, jupd, jupdL]
      · intro r; simp only [gS_sS, gS_sA, gS_sL, gS_fA, gS_fL, gA_sS, gA_sA, gA_sL, gA_fA, gA_fL, gL_sS, gL_sA, gL_sL, gL_fA, gL_fL, reduceIte, Nat.reduceEqDiff, jupd, jupdL]; rw [y3 28 (by decide)]; simp only [gS_sS, gS_sA, gS_sL, gS_fA, gS_fL, gA_sS, gA_sA, gA_sL, gA_fA, gA_fL, gL_sS, gL_sA, gL_sL, gL_fA, gL_fL, reduceIte, Nat.reduceEqDiff, jupd, jupdL]
      · simp only [gS_sS, gS_sA, gS_sL, gS_fA, gS_fL, gA_sS, gA_sA, gA_sL, gA_fA, gA_fL, gL_sS, gL_sA, gL_sL, gL_fA, gL_fL, reduceIte, Nat.reduceEqDiff, jupd, jupdL]; exact y3' 30 (by decide) (by decide) (by decide) (by decide) (by decide)
      · simp only [gS_sS, gS_sA, gS_sL, gS_fA, gS_fL, gA_sS, gA_sA, gA_sL, gA_fA, gA_fL, gL_sS, gL_sA, gL_sL, gL_fA, gL_fL, reduceIte, Nat.reduceEqDiff, jupd, jupdL]; exact y3' 31 (by decide) (by decide) (by decide) (by decide) (by decide)
      · simp only [gS_sS, gS_sA, gS_sL, gS_fA, gS_fL, gA_sS, gA_sA, gA_sL, gA_fA, gA_fL, gL_sS, gL_sA, gL_sL, gL_fA, gL_fL, reduceIte, Nat.reduceEqDiff, jupd, jupdL]; exact y3' 32 (by decide) (by decide) (by decide) (by decide) (by decide)
      · simp only [gS_sS, gS_sA, gS_sL, gS_fA, gS_fL, gA_sS, gA_sA, gA_sL, gA_fA, gA_fL, gL_sS, gL_sA, gL_sL, gL_fA, gL_fL, reduceIte, Nat.reduceEqDiff, jupd, jupdL]; exact y3' 33 (by decide) (by decide) (by decide) (by decide) (by decide)
      · intro j
        have := y4 j
        simp only [gS_sS, gS_sA, gS_sL, gS_fA, gS_fL, gA_sS, gA_sA, gA_sL, gA_fA, gA_fL, gL_sS, gL_sA, gL_sL, gL_fA, gL_fL, reduceIte, Nat.reduceEqDiff, jupd, jupdL, Nat.add_zero] at this ⊢
        exact this
    obtain ⟨σ', τ', r, x1, x2, x3, x4⟩ := gv (hG.fs fC fM) hR' (hgo.fs fC fM) (show a < 80 by omega) (show 0 < 2 by decide) hc (x := encR nR) (kk := 2) (v := nI nR) (of := -1) (Or.inr (Or.inl ⟨rfl, nR, by omega, rfl, rfl⟩))
    refine ⟨σ', τ', r, fun K hK => w1 K (x1 K hK), fun K hK => ?_, x3, x4⟩
    unfold w_X10_makes
    refine hin _ (jbn (by decide) ?_)
    rw [g4, g6, e0, nI_clamp (show nR < 2 ^ 31 by omega), nI_clamp (show p < 2 ^ 31 by omega), h14, h15]
    refine jbf (fun z => by have := nI_inj (b := 300) (by omega) (by decide) z; omega) (jbr (nI_le (b := 2000) (by omega) (by decide)) ⟨hri, hri, hpi, hri, hpi, hri, n + 1, y1 K ?_ (n + 1) (by omega)⟩)
    unfold b_X10_makes_113
    refine jbr (nI_le (Nat.le_refl _) (by omega)) ⟨hpi, hpi, ?_⟩
    rw [nI_clamp (show p < 2 ^ 31 by omega), y2', y2', g4, g6, e0, nI_1, nI_pred, y3' 14 (by decide) (by decide) (by decide) (by decide) (by decide), y3' 15 (by decide) (by decide) (by decide) (by decide) (by decide), h14, h15]
    exact x2 K hK
theorem fire_make {cx : Cx} {nA nW nT nC nP m hd nR nCe nQ p a c k q : Nat} {pr : Nat → Nat} {σ τ : St} (hF : Fire cx nA nW nT nC nP m hd nR nCe nQ p a c k q pr σ τ) (hk : k = 17) :
    ∃ (σ' τ' : St) (r : Int32), (∀ K : St → Prop, K σ' → w_X4_goMake σ (nI a) (nI c) (gL σ 4 (3 * p + 0)) K) ∧ (∀ K : Int32 → St → Prop, K r τ' → w_X10_goesOff τ (nI p) K) ∧ Done cx nA nW nT hd σ' τ' ∧ zb r := by
  have hF0 := hF
  obtain ⟨hG, hR, hgo, hp, h14, h15, ha, hc, h0, hk22, h2, hq1, hq3, hjq, hvr, h17, hq2, hr1, hr2⟩ := hF
  have hP := hR.2.1.1
  have hA := hG.1
  have hR3 := hR.2.2.2.2.2.1.1
  subst hk
  have hq : q = 1 := hjq (by decide)
  subst hq
  have v0 := hvr 0 (by decide)
  have hp3 : p < 3000 := by omega
  have ha8 : a < 80 := by omega
  have hpi : vp_in (nI p) 3000 := vp_in_nI hp3 (by decide)
  by_cases e0 : gA τ 19 (3 * p + 0) = 3
  · rw [e0] at v0
    obtain ⟨σ', τ', r, z1, z2, z3, z4⟩ := gv hG hR hgo ha8 (show 0 < 2 by decide) hc v0
    refine ⟨σ', τ', r, fun K hK => ?_, fun K hK => ?_, z3, z4⟩
    · unfold w_X4_goMake
      refine ev_refuse_f v0 hR3 ?_
      unfold w_X8_contentOf b_X4_goMake_41
      have hne := lgne (v0.ne0 hR3)
      exact jbn hne (jbf hne (z1 K hK))
    · exact ev_goes_def hp3 ha8 h14 h15 h0 h2 hk22 (by omega) (ev_197_at hp3 (by decide) (j0 := 0) (by decide) (fun j hj => by omega) e0 (z2 K hK))
  · have hnf : ∀ j, j < 1 → ¬ gA τ 19 (3 * p + j) = 3 := fun j hj => by
      rcases (show j = 0 by omega) with rfl
      exact e0
    have hgo2 : ∀ K : Int32 → St → Prop, w_X10_reckons τ (nI p) (nI 17) K → w_X10_goesOff τ (nI p) K := fun K h => ev_goes_def hp3 ha8 h14 h15 h0 h2 hk22 (by omega) (ev_197_none (t1 := 0) hp3 (by decide) hnf (jbf (by decide) (jbm (by decide) h)))
    have hne4 := lgne (encF_ne (nR := nR) (c := 4) (a := a) (by decide) (by decide) ha8 hR3)
    have hne3 := lgne (encF_ne (nR := nR) (c := 3) (a := a) (by decide) (by decide) ha8 hR3)
    by_cases e1 : gA τ 19 (3 * p + 0) = 1
    · have hall : ∀ j, j < 1 → gA τ 19 (3 * p + j) = 1 := fun j hj => by
        rcases (show j = 0 by omega) with rfl
        exact e1
      have hM : ∀ K : Int32 → St → Prop, w_X10_makes τ (nI p) (gA τ 20 (3 * p + 0)) K → w_X10_goesOff τ (nI p) K := fun K h => by
        refine hgo2 K (ev_reck_ne8 hp3 h14 h15 hk22 (by decide) ⟨2, lp_reck hp3 ha8 h2 (by decide) hall ?_ 1 0 2 (by omega) (by omega)⟩)
        unfold jsw
        exact jbf (by decide) (jbf (by decide) (jbf (by decide) (jbf (by decide) (jbf (by decide) (jbf (by decide) (jbf (by decide) h))))))
      rw [e1] at v0
      have hC : ∀ K : St → Prop, ((gA τ 20 (3 * p + 0) < 0 → b_X4_goMake_41 K σ (nI a) (nI c) (encF 3 a) (gA τ 20 (3 * p + 0))) ∧ (¬ gA τ 20 (3 * p + 0) < 0 → ((gA τ 20 (3 * p + 0) ≤ 200 → b_X4_goMake_41 K σ (nI a) (nI c) 0 (gA τ 20 (3 * p + 0))) ∧ (¬ gA τ 20 (3 * p + 0) ≤ 200 → b_X4_goMake_41 K σ (nI a) (nI c) (encF 3 a) (gA τ 20 (3 * p + 0)))))) → w_X4_goMake σ (nI a) (nI c) (gL σ 4 (3 * p + 0)) K := fun K h => by
        unfold w_X4_goMake w_X8_contentOf
        refine ev_refuse_ok v0 hR3 (by decide) (jbm lg00 ?_)
        rw [v0.con]
        exact ⟨fun z => ev_fault (c := 3) (by decide) ha8 (h.1 z), fun z => ⟨fun y => (h.2 z).1 y, fun y => ev_fault (c := 3) (by decide) ha8 ((h.2 z).2 y)⟩⟩
      have hbad : (gA τ 20 (3 * p + 0) < 0 ∨ (¬ gA τ 20 (3 * p + 0) < 0 ∧ ¬ gA τ 20 (3 * p + 0) ≤ 200)) → ∃ (σ' τ' : St) (r : Int32), (∀ K : St → Prop, K σ' → w_X4_goMake σ (nI a) (nI c) (gL σ 4 (3 * p + 0)) K) ∧ (∀ K : Int32 → St → Prop, K r τ' → w_X10_goesOff τ (nI p) K) ∧ Done cx nA nW nT hd σ' τ' ∧ zb r := by
        intro hb
        obtain ⟨σ', τ', r, z1, z2, z3, z4⟩ := gv hG hR hgo ha8 (show 0 < 2 by decide) hc (vr_fault (c := 3) (a := a) (by decide) (by decide) ha8)
        refine ⟨σ', τ', r, fun K hK => hC K ?_, fun K hK => hM K ?_, z3, z4⟩
        · have h41 : b_X4_goMake_41 K σ (nI a) (nI c) (encF 3 a) (gA τ 20 (3 * p + 0)) := by
            unfold b_X4_goMake_41
            exact jbf hne3 (z1 K hK)
          rcases hb with h | ⟨h1, h2⟩
          · exact jbr h h41
          · exact jbf h1 (jbf h2 h41)
        · unfold w_X10_makes
          have hin : ∀ K : Int32 → St → Prop, K 0 τ → w_X10_in τ (gA τ 20 (3 * p + 0)) 0 200 K := fun K h => by
            rcases hb with x | ⟨h1, h2⟩
            · exact ev_in_lo x h
            · exact ev_in_hi h1 (Int32.not_le.mp h2) h
          refine hin _ (jbm rfl ⟨hpi, hpi, ?_⟩)
          rw [nI_clamp (show p < 2 ^ 31 by omega), h14, h15]
          exact z2 K hK
      by_cases l0 : gA τ 20 (3 * p + 0) < 0
      · exact hbad (Or.inl l0)
      · by_cases l2 : gA τ 20 (3 * p + 0) ≤ 200
        · obtain ⟨n, hn, hv⟩ := nI_of2 (M := 200) (n := 200) (by decide) l0 l2
          obtain ⟨σ', τ', r, z1, z2, z3, z4⟩ := make_ok hF0 hn
          rw [hv] at hC hM l0 l2
          exact ⟨σ', τ', r, fun K hK => hC K (jbf l0 (jbr l2 (z1 K hK))), fun K hK => hM K (z2 K hK), z3, z4⟩
        · exact hbad (Or.inr ⟨l0, l2⟩)
    · obtain ⟨σ', τ', r, z1, z2, z3, z4⟩ := gv hG hR hgo ha8 (show 0 < 2 by decide) hc (vr_fault (c := 4) (a := a) (by decide) (by decide) ha8)
      refine ⟨σ', τ', r, fun K hK => ?_, fun K hK => hgo2 K (ev_reck_ne8 hp3 h14 h15 hk22 (by decide) ⟨3, ?_⟩), z3, z4⟩
      · unfold w_X4_goMake
        refine ev_refuse_bad v0 hR3 e0 e1 ha8 ?_
        unfold w_X8_contentOf b_X4_goMake_41
        exact jbn hne4 (jbf hne4 (z1 K hK))
      · exact lp_reck_bad hp3 ha8 h2 (by decide) (j0 := 0) (by decide) (fun j hj => by omega) e1 (z2 K hK) 0 0 3 (by omega) (by omega)
