/-! ===== plain kinds, all of them ===== -/
theorem ev_sizeOf {nR nCe r z : Nat} {σ τ : St} {K : Int32 → St → Prop} (hS : RS nR nCe σ τ) (hr : r < nR) (hz : gA σ 15 r = nI z) (hk : K (nI z) σ) : w_X6_sizeOf σ (nI r) K := by
  unfold w_X6_sizeOf
  have h3 := hS.1
  rw [hS.2.2.1, nI_clamp (show r < 2 ^ 31 by omega), hz]
  exact jbf (nI_pos (by omega)) (jbf (nI_ge hr (by omega)) ⟨vp_in_nI (by omega) (by decide), hk⟩)
theorem ev_goes_197 {τ : St} {p a c k q : Nat} {K : Int32 → St → Prop} (hp : p < 3000) (ha : a < 80) (h14 : gA τ 14 p = nI a) (h15 : gA τ 15 p = nI c) (h0 : gA τ 0 a = nI k) (h2 : gA τ 2 a = nI q) (hk : k = 19) (h : b_X10_goesOff_197 K τ (nI p) (nI a) (nI c) (nI k) (nI p) (nI 2)) : w_X10_goesOff τ (nI p) K := by
  subst hk
  unfold w_X10_goesOff
  have hpi : vp_in (nI p) 3000 := vp_in_nI hp (by decide)
  have hai : vp_in (nI a) 80 := vp_in_nI ha (by decide)
  rw [nI_clamp (show p < 2 ^ 31 by omega), h14, nI_clamp (show a < 2 ^ 31 by omega), h0, h15]
  exact ⟨hpi, hpi, hai, jbf (by decide) (jbf (by decide) (jbf (by decide) (jbf (by decide) (jbf (by decide) (jbf (by decide) (jbf (by decide) (jbm (by decide) h)))))))⟩
theorem plain1 {cx : Cx} {nA nW nT nC nP m hd nR nCe nQ p a c k q : Nat} {pr : Nat → Nat} {σ τ : St} (hF : Fire cx nA nW nT nC nP m hd nR nCe nQ p a c k q pr σ τ) (hk : k = 0 ∨ k = 15 ∨ k = 1 ∨ (2 ≤ k ∧ k ≤ 8) ∨ k = 9 ∨ k = 20) :
    ∃ (y : Int64) (kk v of : Int32), vr nR y kk v of ∧ (∀ K : Int64 → St → Prop, K y σ → w_X4_plainResult σ (nI p) (nI a) (gL σ 4 (3 * p + 0)) K) ∧ (∀ K : Int32 → St → Prop, w_X10_gives τ (nI a) 0 (nI c) kk v of K → w_X10_goesOff τ (nI p) K) := by
  have hF0 := hF
  obtain ⟨hG, hR, hgo, hp, h14, h15, ha, hc, h0, hk22, h2, hq1, hq3, hjq, hvr, h17, hq2, hr1, hr2⟩ := hF
  have hP := hR.2.1.1
  have hA := hG.1
  have hS := hR.2.2.2.2.2.1
  have hR3 := hS.1
  have hp3 : p < 3000 := by omega
  have ha8 : a < 80 := by omega
  have hpi : vp_in (nI p) 3000 := vp_in_nI hp3 (by decide)
  have hai : vp_in (nI a) 80 := vp_in_nI ha8 (by decide)
  have h0C : gA σ 0 a = nI k := by rw [← (hG.2.2.2.2.2.2.2.2.2.1 a ha).1]; exact h0
  have v0 := hvr 0 (by omega)
  have n : ∀ j, j < 100 → k ≠ j → ¬ nI k = nI j := fun j hj hne => nkne hk22 hj hne
  rcases hk with hk | hk | hk | hk | hk | hk
  · subst hk
    refine ⟨_, _, _, _, v0, fun K hK => ?_, fun K hK => ?_⟩
    · unfold w_X4_plainResult
      rw [nI_clamp (show a < 2 ^ 31 by omega), h0C]
      exact ⟨hai, jbr (Or.inl rfl) hK⟩
    · unfold w_X10_goesOff
      rw [nI_clamp (show p < 2 ^ 31 by omega), h14, nI_clamp (show a < 2 ^ 31 by omega), h0, h15]
      exact ⟨hpi, hpi, hai, jbr (Or.inl rfl) (ev_passes hp3 h14 hK)⟩
  · subst hk
    refine ⟨_, _, _, _, v0, fun K hK => ?_, fun K hK => ?_⟩
    · unfold w_X4_plainResult
      rw [nI_clamp (show a < 2 ^ 31 by omega), h0C]
      exact ⟨hai, jbr (Or.inr rfl) hK⟩
    · unfold w_X10_goesOff
      rw [nI_clamp (show p < 2 ^ 31 by omega), h14, nI_clamp (show a < 2 ^ 31 by omega), h0, h15]
      exact ⟨hpi, hpi, hai, jbr (Or.inr rfl) (ev_passes hp3 h14 hK)⟩
  · subst hk
    refine ⟨encN (gA τ 1 a), 1, gA τ 1 a, -1, vr_num _ _, fun K hK => ?_, fun K hK => ?_⟩
    · unfold w_X4_plainResult
      rw [nI_clamp (show a < 2 ^ 31 by omega), h0C, ← (hG.2.2.2.2.2.2.2.2.2.1 a ha).2.1]
      exact ⟨hai, jbf (by decide) (jbr (by decide) ⟨hai, ev_num hK⟩)⟩
    · unfold w_X10_goesOff
      rw [nI_clamp (show p < 2 ^ 31 by omega), h14, nI_clamp (show a < 2 ^ 31 by omega), h0, h15]
      exact ⟨hpi, hpi, hai, jbf (by decide) (jbr (by decide) ⟨hai, ev_number hp3 h14 h15 hK⟩)⟩
  · obtain ⟨y, kk, v, of, z1, z2, z3⟩ := plain2 hF0 hk.1 hk.2
    refine ⟨y, kk, v, of, z1, fun K hK => ?_, z3⟩
    unfold w_X4_plainResult
    rw [nI_clamp (show a < 2 ^ 31 by omega), h0C]
    refine ⟨hai, jbf (fun z => z.elim (n 0 (by decide) (by omega)) (n 15 (by decide) (by omega))) (jbf (n 1 (by decide) (by omega)) (jbf (n 9 (by decide) (by omega)) (jbf (n 20 (by decide) (by omega)) ?_)))⟩
    exact ev_came (j := 1) hp3 (by decide) (z2 K hK)
  · subst hk
    have hq : q = 1 := hjq (by decide)
    subst hq
    have hpl : ∀ K : Int64 → St → Prop, w_X7_not σ (nI a) (gL σ 4 (3 * p + 0)) K → w_X4_plainResult σ (nI p) (nI a) (gL σ 4 (3 * p + 0)) K := fun K h => by
      unfold w_X4_plainResult
      rw [nI_clamp (show a < 2 ^ 31 by omega), h0C]
      exact ⟨hai, jbf (by decide) (jbf (by decide) (jbr (by decide) h))⟩
    by_cases e0 : gA τ 19 (3 * p + 0) = 3
    · rw [e0] at v0
      refine ⟨_, 3, _, _, v0, fun K hK => hpl K ?_, fun K hK => ?_⟩
      · unfold w_X7_not
        exact ev_refuse_f v0 hR3 (jbf (lgne (v0.ne0 hR3)) hK)
      · exact ev_goes_def hp3 ha8 h14 h15 h0 h2 hk22 (by omega) (ev_197_at hp3 (by decide) (j0 := 0) (by decide) (fun j hj => by omega) e0 hK)
    · have hnf : ∀ j, j < 1 → ¬ gA τ 19 (3 * p + j) = 3 := fun j hj => by
        rcases (show j = 0 by omega) with rfl
        exact e0
      have hgo2 : ∀ K : Int32 → St → Prop, w_X10_reckons τ (nI p) (nI 9) K → w_X10_goesOff τ (nI p) K := fun K h => ev_goes_def hp3 ha8 h14 h15 h0 h2 hk22 (by omega) (ev_197_none (t1 := 0) hp3 (by decide) hnf (jbr (by decide) h))
      by_cases e1 : gA τ 19 (3 * p + 0) = 1
      · have hall : ∀ j, j < 1 → gA τ 19 (3 * p + j) = 1 := fun j hj => by
          rcases (show j = 0 by omega) with rfl
          exact e1
        have hM : ∀ K : Int32 → St → Prop, jsw K τ (nI p) (nI 9) (nI a) (nI c) (gA τ 20 (3 * p + 0)) (gA τ 20 (3 * p + 1)) → w_X10_goesOff τ (nI p) K := fun K h => hgo2 K (ev_reck_ne8 hp3 h14 h15 hk22 (by decide) ⟨2, lp_reck hp3 ha8 h2 (by decide) hall h 1 0 2 (by omega) (by omega)⟩)
        rw [e1] at v0
        by_cases ez : gA τ 20 (3 * p + 0) = 0
        · refine ⟨encN 1, 1, 1, -1, vr_num _ _, fun K hK => hpl K ?_, fun K hK => hM K ?_⟩
          · unfold w_X7_not w_X8_contentOf
            refine ev_refuse_ok v0 hR3 (by decide) (jbr lg00 ?_)
            rw [v0.con]
            exact jbm ez (ev_truth1 hK)
          · unfold jsw
            exact jbf (by decide) (jbf (by decide) (jbf (by decide) (jbf (by decide) (jbf (by decide) (jbf (by decide) (jbr (by decide) (jbm ez (ev_number hp3 h14 h15 hK))))))))
        · refine ⟨encN 0, 1, 0, -1, vr_num _ _, fun K hK => hpl K ?_, fun K hK => hM K ?_⟩
          · unfold w_X7_not w_X8_contentOf
            refine ev_refuse_ok v0 hR3 (by decide) (jbr lg00 ?_)
            rw [v0.con]
            exact jbn ez (ev_truth0 hK)
          · unfold jsw
            exact jbf (by decide) (jbf (by decide) (jbf (by decide) (jbf (by decide) (jbf (by decide) (jbf (by decide) (jbr (by decide) (jbn ez (ev_number hp3 h14 h15 hK))))))))
      · refine ⟨encF 4 a, 3, 4, nI a, vr_fault (c := 4) (by decide) (by decide) ha8, fun K hK => hpl K ?_, fun K hK => hgo2 K (ev_reck_ne8 hp3 h14 h15 hk22 (by decide) ⟨3, ?_⟩)⟩
        · unfold w_X7_not
          exact ev_refuse_bad v0 hR3 e0 e1 ha8 (jbf (lgne (encF_ne (nR := nR) (by decide) (by decide) ha8 hR3)) hK)
        · exact lp_reck_bad hp3 ha8 h2 (by decide) (j0 := 0) (by decide) (fun j hj => by omega) e1 hK 0 0 3 (by omega) (by omega)
  · subst hk
    have hq : q = 1 := hjq (by decide)
    subst hq
    have hpl : ∀ K : Int64 → St → Prop, w_X8_refuse σ (nI a) (gL σ 4 (3 * p + 0)) 2 (fun r u => w_X8_contentOf u (gL σ 4 (3 * p + 0)) (fun r2 u2 => (lg_cmp r 0 = 0 → w_X6_sizeOf u2 r2 (fun r3 u3 => w_X8_ofNumber u3 r3 K)) ∧ (¬ lg_cmp r 0 = 0 → K r u2))) → w_X4_plainResult σ (nI p) (nI a) (gL σ 4 (3 * p + 0)) K := fun K h => by
      unfold w_X4_plainResult
      rw [nI_clamp (show a < 2 ^ 31 by omega), h0C]
      exact ⟨hai, jbf (by decide) (jbf (by decide) (jbf (by decide) (jbr (by decide) h)))⟩
    by_cases e0 : gA τ 19 (3 * p + 0) = 3
    · rw [e0] at v0
      refine ⟨_, 3, _, _, v0, fun K hK => hpl K ?_, fun K hK => ?_⟩
      · exact ev_refuse_f v0 hR3 (jbf (lgne (v0.ne0 hR3)) hK)
      · exact ev_goes_def hp3 ha8 h14 h15 h0 h2 hk22 (by omega) (ev_197_at hp3 (by decide) (j0 := 0) (by decide) (fun j hj => by omega) e0 hK)
    · have hnf : ∀ j, j < 1 → ¬ gA τ 19 (3 * p + j) = 3 := fun j hj => by
        rcases (show j = 0 by omega) with rfl
        exact e0
      have hgo2 : ∀ K : Int32 → St → Prop, ((¬ gA τ 19 (3 * p + 0) = 2 → w_X10_faults τ (nI a) (nI c) 4 K) ∧ (gA τ 19 (3 * p + 0) = 2 → b_X10_cells_50 K τ (nI p) (nI 20) (nI a) (nI c))) → w_X10_goesOff τ (nI p) K := fun K h => by
        refine ev_goes_def hp3 ha8 h14 h15 h0 h2 hk22 (by omega) (ev_197_none (t1 := 0) hp3 (by decide) hnf (jbf (by decide) (jbn (by decide) ?_)))
        unfold w_X10_cells
        rw [nI_clamp (show p < 2 ^ 31 by omega), h14, h15]
        refine ⟨hpi, hpi, ?_⟩
        refine ev_kindAt (j := 0) hp3 (by decide) ⟨h.1, fun z => jbr (by decide) (h.2 z)⟩
      by_cases e2 : gA τ 19 (3 * p + 0) = 2
      · rcases id v0 with ⟨z, -⟩ | ⟨-, r, hr, hrv, hrx⟩ | ⟨z, -⟩
        · rw [e2] at z; exact absurd z (by decide)
        · obtain ⟨-, s, z, g1, g2, g3, g4, g5, g6⟩ := hS.2.2.2.2.2.2.1 r hr
          rw [e2] at v0
          refine ⟨encN (nI z), 1, nI z, -1, vr_num _ _, fun K hK => hpl K ?_, fun K hK => hgo2 K (jbm e2 ?_)⟩
          · unfold w_X8_contentOf
            refine ev_refuse_ok v0 hR3 (by decide) (jbr lg00 ?_)
            rw [v0.con, hrv]
            exact ev_sizeOf hS hr g3 (ev_num hK)
          · unfold b_X10_cells_50
            refine ev_valueAt (j := 0) hp3 (by decide) (jbm (by decide) ?_)
            rw [hrv, nI_clamp (show r < 2 ^ 31 by omega), g4]
            exact ⟨vp_in_nI (by omega) (by decide), ev_number hp3 h14 h15 hK⟩
        · exact absurd z e0
      · refine ⟨encF 4 a, 3, 4, nI a, vr_fault (c := 4) (by decide) (by decide) ha8, fun K hK => hpl K ?_, fun K hK => hgo2 K (jbn e2 hK)⟩
        exact ev_refuse_bad v0 hR3 e0 e2 ha8 (jbf (lgne (encF_ne (nR := nR) (by decide) (by decide) ha8 hR3)) hK)
theorem fire_plain {cx : Cx} {nA nW nT nC nP m hd nR nCe nQ p a c k q : Nat} {pr : Nat → Nat} {σ τ : St} (hF : Fire cx nA nW nT nC nP m hd nR nCe nQ p a c k q pr σ τ) (hk : k = 0 ∨ k = 15 ∨ k = 1 ∨ (2 ≤ k ∧ k ≤ 8) ∨ k = 9 ∨ k = 20) :
    ∃ (σ' τ' : St) (r : Int32), (∀ K : St → Prop, K σ' → w_X4_plainResult σ (nI p) (nI a) (gL σ 4 (3 * p + 0)) (fun r u => w_X4_give u (nI a) 0 (nI c) r K)) ∧ (∀ K : Int32 → St → Prop, K r τ' → w_X10_goesOff τ (nI p) K) ∧ Done cx nA nW nT hd σ' τ' ∧ zb r := by
  obtain ⟨y, kk, v, of, z1, z2, z3⟩ := plain1 hF hk
  obtain ⟨hG, hR, hgo, hp, h14, h15, ha, hc, h0, hk22, h2, hq1, hq3, hjq, hvr, h17, hq2, hr1, hr2⟩ := hF
  have hA := hG.1
  obtain ⟨σ', τ', r, w1, w2, w3, w4⟩ := gv hG hR hgo (show a < 80 by omega) (show 0 < 2 by decide) hc z1
  exact ⟨σ', τ', r, fun K hK => z2 _ (w1 K hK), fun K hK => z3 _ (w2 K hK), w3, w4⟩
