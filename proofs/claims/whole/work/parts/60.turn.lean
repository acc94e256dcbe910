/-! ===== loops, returns ===== -/
theorem colView {nC c : Nat} {pr : Nat → Nat} {σ τ : St} (h : RC nC pr σ τ) (hc : c < nC) :
    (gA σ 19 c = -1 ∧ gA τ 10 c = 0) ∨ (∃ l d t, l < 10 ∧ d < nC ∧ t < nC ∧ gA τ 10 c = 1 ∧ gA τ 11 c = nI l ∧ gA τ 12 c = nI t ∧ gA τ 13 c = nI d ∧ gA σ 19 c = nI l ∧ gA σ 20 c = nI d) ∨ (∃ a d, a < 80 ∧ d < nC ∧ gA τ 10 c = 2 ∧ gA τ 11 c = nI a ∧ gA τ 13 c = nI d ∧ gA σ 19 c = nI (10 + a) ∧ gA σ 20 c = nI d) := by
  obtain ⟨hC1, hC6, -, -, h0, h19, hall, -, -⟩ := h
  rcases Nat.eq_zero_or_pos c with rfl | hp
  · exact Or.inl ⟨h19, h0⟩
  · rcases (hall c hp hc).2 with ⟨l, d, hl, hd, q1, q2, q3, q4, q5, ⟨q6, -⟩ | ⟨t, ht, q6, -⟩⟩ | ⟨a, d, hl, hd, q1, q2, q3, q4, q5, q6, -⟩
    · exact Or.inr (Or.inl ⟨l, d, 0, hl, by omega, by omega, q1, q2, q6, q3, q4, q5⟩)
    · exact Or.inr (Or.inl ⟨l, d, t + 1, hl, by omega, by omega, q1, q2, q6, q3, q4, q5⟩)
    · exact Or.inr (Or.inr ⟨a, d, hl, by omega, q1, q2, q4, q5, q6⟩)
theorem ev_fault {σ : St} {c a : Nat} {K : Int64 → St → Prop} (hc : c < 6) (ha : a < 80) (hk : K (encF c a) σ) : w_X8_ofFault σ (nI c) (nI a) K := by
  unfold w_X8_ofFault
  rw [ev_ofFault (by omega) (by omega)]
  exact hk
theorem vr_fault {nR c a : Nat} (hc : c < 6) (h1 : 1 ≤ c) (ha : a < 80) : vr nR (encF c a) 3 (nI c) (nI a) := Or.inr (Or.inr ⟨rfl, c, a, hc, h1, ha, rfl, rfl, rfl⟩)
theorem vr_num {nR : Nat} (v of : Int32) : vr nR (encN v) 1 v of := Or.inl ⟨rfl, rfl⟩
theorem Done_full {cx : Cx} {nA nW nT nC nP m hd nR nCe nQ : Nat} {pr : Nat → Nat} {σ τ : St} (hG : RG nA nW nT σ τ) (hR : RR cx nA nC nP m hd nR nCe nQ pr σ τ) (hgo : Go σ τ) : Done cx nA nW nT hd (sS σ 4 2) (sS (sS (sS τ 5 2) 11 (-1)) 4 1) := by
  have e : sS (sS σ 4 2) 10 (-1) = sS σ 4 2 := by
    have h := sS_same (sS σ 4 2) 10
    rw [show gS (sS σ 4 2) 10 = -1 by simp only [gS_sS, gS_sA, gS_sL, gS_fA, gS_fL, gA_sS, gA_sA, gA_sL, gA_fA, gA_fL, gL_sS, gL_sA, gL_sL, gL_fA, gL_fL, reduceIte, Nat.reduceEqDiff, jupd, jupdL]; exact hgo.2.2.2.2] at h
    exact h
  refine ⟨nC, nP, m, nR, nCe, nQ, pr, RG_r (RG_sS (RG_r hG (by decide)) (by decide) (by decide)) (by decide), ?_, Or.inr ?_⟩
  · have := RR_stop hR 2 (-1) 2 (-1) 1
    rw [e] at this
    exact this
  · unfold Hlt
    simp only [gS_sS, gS_sA, gS_sL, gS_fA, gS_fL, gA_sS, gA_sA, gA_sL, gA_fA, gA_fL, gL_sS, gL_sA, gL_sL, gL_fA, gL_fL, reduceIte, Nat.reduceEqDiff, jupd, jupdL]
    exact ⟨trivial, trivial, by decide, hgo.2.2.2.2⟩
theorem zbK {K : Int32 → St → Prop} {r : Int32} {u : St} (hz : zb r) (hk : K r u) : (r = 0 → K 0 u) ∧ (¬ r = 0 → K 1 u) := by
  rcases hz with rfl | rfl
  · exact jbr rfl hk
  · exact jbf (by decide) hk
/-- x goes on in a colour that is asked for -/
theorem sim_inside {cx : Cx} {nA nW nT nC nP m hd nR nCe nQ p a b : Nat} {pr : Nat → Nat} {ky og ou s o t i : Int32} {σ τ : St} (hG : RG nA nW nT σ τ) (hR : RR cx nA nC nP m hd nR nCe nQ pr σ τ) (hgo : Go σ τ) (hN : colNew nC b ky og ou s o t i τ) (hb : b < nC) (hp : p < nP) (h14 : gA τ 14 p = nI a) (ha : a < 80) (hv : vr nR (gL σ 4 (3 * p + 0)) (gA τ 19 (3 * p + 0)) (gA τ 20 (3 * p + 0)) (gA τ 21 (3 * p + 0))) :
    ∃ (σ' τ' : St) (r : Int32), (∀ K : St → Prop, K σ' → w_X0_reach σ (nI b) ky og ou (fun r u => w_X4_give u (nI a) 0 r (gL σ 4 (3 * p + 0)) K)) ∧ (∀ K : Int32 → St → Prop, K r τ' → w_X10_colour τ s o t i (fun r u => (r < 0 → K 0 u) ∧ (¬ r < 0 → w_X10_passes u (nI p) 0 r (fun r u => (r = 0 → K 0 u) ∧ (¬ r = 0 → K 1 u))))) ∧ Done cx nA nW nT hd σ' τ' ∧ zb r := by
  have hP := hR.2.1.1
  rcases sim_col hR hgo hN hb with ⟨c, nC', pr', σ1, τ1, k1, k2, k3, k4, k5, k6, k7, k8⟩ | ⟨k1, k2⟩
  · have hG1 := hG.fk k7 k8
    have hC6 := k5.1.2.1
    obtain ⟨σ', τ', r, z1, z2, z3, z4⟩ := gv hG1 k5 k6 ha (show 0 < 2 by decide) k1 hv
    refine ⟨σ', τ', r, fun K hK => k3 _ ?_, fun K hK => k4 _ ?_, z3, z4⟩
    · exact z1 K hK
    · refine jbf (nI_pos (by omega)) ?_
      refine ev_passes (by omega) (by rw [k8.2 14 (by decide)]; exact h14) ?_
      rw [k8.2 19 (by decide), k8.2 20 (by decide), k8.2 21 (by decide)]
      exact z2 _ (zbK z4 hK)
  · refine ⟨_, _, 0, fun K hK => k1 _ ?_, fun K hK => k2 _ ?_, Done_full hG hR hgo, Or.inl rfl⟩
    · unfold w_X4_give
      exact jbm rfl hK
    · exact jbr (by decide) hK
theorem fire_enter {cx : Cx} {nA nW nT nC nP m hd nR nCe nQ p a c k q l : Nat} {pr : Nat → Nat} {σ τ : St} (hF : Fire cx nA nW nT nC nP m hd nR nCe nQ p a c k q pr σ τ) (hk : k = 11) (hl : gA τ 1 a = nI l) (hl10 : l < 10) :
    ∃ (σ' τ' : St) (r : Int32), (∀ K : St → Prop, K σ' → w_X0_enter σ (nI c) (nI l) (fun r u => w_X4_give u (nI a) 0 r (gL σ 4 (3 * p + 0)) K)) ∧ (∀ K : Int32 → St → Prop, K r τ' → w_X10_loops τ (nI p) K) ∧ Done cx nA nW nT hd σ' τ' ∧ zb r := by
  obtain ⟨hG, hR, hgo, hp, h14, h15, ha, hc, h0, hk22, h2, hq1, hq3, hjq, hvr, h17, hq2, hr1, hr2⟩ := hF
  have hP := hR.2.1.1
  have hA := hG.1
  subst hk
  obtain ⟨σ', τ', r, z1, z2, z3, z4⟩ := sim_inside hG hR hgo (ky := nI l) (og := nI l) (ou := nI c) (s := 1) (o := nI l) (t := 0) (i := nI c) (Or.inl ⟨l, c, hl10, hc, rfl, rfl, rfl, rfl, rfl, Or.inl ⟨rfl, rfl, rfl⟩⟩) hc hp h14 (show a < 80 by omega) (hvr 0 (by omega))
  refine ⟨σ', τ', r, fun K hK => ?_, fun K hK => ?_, z3, z4⟩
  · unfold w_X0_enter
    exact z1 K hK
  · unfold w_X10_loops
    have hpi : vp_in (nI p) 3000 := vp_in_nI (by omega) (by decide)
    have hai : vp_in (nI a) 80 := vp_in_nI (by omega) (by decide)
    rw [nI_clamp (show p < 2 ^ 31 by omega), h14, h15, nI_clamp (show a < 2 ^ 31 by omega), h0, hl]
    exact ⟨hpi, hpi, hai, hai, jbm rfl (z2 K hK)⟩
theorem fire_turn {cx : Cx} {nA nW nT nC nP m hd nR nCe nQ p a c k q l : Nat} {pr : Nat → Nat} {σ τ : St} (hF : Fire cx nA nW nT nC nP m hd nR nCe nQ p a c k q pr σ τ) (hk : k = 12 ∨ k = 13) (hl : gA τ 1 a = nI l) (hl10 : l < 10) :
    ∃ (σ' τ' : St) (r : Int32), (∀ K : St → Prop, K σ' → w_X4_goTurn σ (nI a) (nI c) (gL σ 4 (3 * p + 0)) K) ∧ (∀ K : Int32 → St → Prop, K r τ' → w_X10_loops τ (nI p) K) ∧ Done cx nA nW nT hd σ' τ' ∧ zb r := by
  obtain ⟨hG, hR, hgo, hp, h14, h15, ha, hc, h0, hk22, h2, hq1, hq3, hjq, hvr, h17, hq2, hr1, hr2⟩ := hF
  have hP := hR.2.1.1
  have hA := hG.1
  have hC6 := hR.1.2.1
  have hpi : vp_in (nI p) 3000 := vp_in_nI (by omega) (by decide)
  have hai : vp_in (nI a) 80 := vp_in_nI (by omega) (by decide)
  have hci : vp_in (nI c) 600 := vp_in_nI (by omega) (by decide)
  have hlC : gA σ 1 a = nI l := by rw [← (hG.2.2.2.2.2.2.2.2.2.1 a ha).2.1]; exact hl
  have h0C : gA σ 0 a = nI k := by rw [← (hG.2.2.2.2.2.2.2.2.2.1 a ha).1]; exact h0
  have hk11 : ¬ nI k = 11 := fun z => by have := nI_inj (b := 11) (by omega) (by decide) z; omega
  have hfault : (¬ gA σ 19 c = nI l) → (gA τ 10 c = 1 → ¬ gA τ 11 c = nI l) → ∃ (σ' τ' : St) (r : Int32), (∀ K : St → Prop, K σ' → w_X4_goTurn σ (nI a) (nI c) (gL σ 4 (3 * p + 0)) K) ∧ (∀ K : Int32 → St → Prop, K r τ' → w_X10_loops τ (nI p) K) ∧ Done cx nA nW nT hd σ' τ' ∧ zb r := by
    intro f1 f2
    obtain ⟨σ', τ', r, z1, z2, z3, z4⟩ := gv hG hR hgo (show a < 80 by omega) (show 0 < 2 by decide) hc (vr_fault (c := 5) (a := a) (by decide) (by decide) (by omega))
    refine ⟨σ', τ', r, fun K hK => ?_, fun K hK => ?_, z3, z4⟩
    · unfold w_X4_goTurn w_X0_isTurnOf
      rw [nI_clamp (show a < 2 ^ 31 by omega), nI_clamp (show c < 2 ^ 31 by omega), hlC]
      refine ⟨hai, hci, jbn f1 (jbm rfl ?_)⟩
      exact ev_fault (c := 5) (by decide) (by omega) (z1 K hK)
    · unfold w_X10_loops w_X10_faults
      rw [nI_clamp (show p < 2 ^ 31 by omega), h14, h15, nI_clamp (show a < 2 ^ 31 by omega), nI_clamp (show c < 2 ^ 31 by omega), h0, hl]
      refine ⟨hpi, hpi, hai, hai, jbn hk11 ⟨hci, ?_⟩⟩
      by_cases e : gA τ 10 c = 1
      · exact jbm e ⟨hci, jbf (f2 e) (z2 K hK)⟩
      · exact jbn e (z2 K hK)
  rcases colView hR.1 hc with ⟨g1, g2⟩ | ⟨l', d, t, y1, y2, y3, y4, y5, y6, y7, y8, y9⟩ | ⟨a', d, y1, y2, y3, y4, y5, y6, y7⟩
  · exact hfault (fun z => nI_m1 (n := l) (by omega) (by rw [← z, g1])) (fun z => absurd (g2.symm.trans z) (by decide))
  · by_cases el : l' = l
    · subst el
      rcases hk with rfl | rfl
      · obtain ⟨σ', τ', r, z1, z2, z3, z4⟩ := sim_inside hG hR hgo (b := c) (ky := nI 90) (og := nI l') (ou := nI d) (s := 1) (o := nI l') (t := nI (t + 1)) (i := nI d) (Or.inl ⟨l', d, hl10, y2, rfl, rfl, rfl, rfl, rfl, Or.inr ⟨t, y3, rfl, rfl, y4, y5, y6, y7⟩⟩) hc hp h14 (show a < 80 by omega) (hvr 0 (by omega))
        refine ⟨σ', τ', r, fun K hK => ?_, fun K hK => ?_, z3, z4⟩
        · unfold w_X4_goTurn w_X0_isTurnOf w_X0_nextTurn
          dsimp only
          rw [nI_clamp (show a < 2 ^ 31 by omega), nI_clamp (show c < 2 ^ 31 by omega), hlC, h0C, y8, y9]
          exact ⟨hai, hci, jbm rfl (jbn (by decide) ⟨hai, jbm rfl ⟨hci, hci, z1 K hK⟩⟩)⟩
        · unfold w_X10_loops
          rw [nI_clamp (show p < 2 ^ 31 by omega), h14, h15, nI_clamp (show a < 2 ^ 31 by omega), nI_clamp (show c < 2 ^ 31 by omega), h0, hl, y4, y5, y6, y7, nI_1]
          exact ⟨hpi, hpi, hai, hai, jbn hk11 ⟨hci, jbm rfl ⟨hci, jbr rfl ⟨hai, jbn (by decide) ⟨hci, hci, z2 K hK⟩⟩⟩⟩⟩
      · obtain ⟨σ', τ', r, z1, z2, z3, z4⟩ := gv hG hR hgo (show a < 80 by omega) (show 0 < 2 by decide) y2 (hvr 0 (by omega))
        refine ⟨σ', τ', r, fun K hK => ?_, fun K hK => ?_, z3, z4⟩
        · unfold w_X4_goTurn w_X0_isTurnOf w_X0_outerOf
          dsimp only
          rw [nI_clamp (show a < 2 ^ 31 by omega), nI_clamp (show c < 2 ^ 31 by omega), hlC, h0C, y8, y9]
          exact ⟨hai, hci, jbm rfl (jbn (by decide) ⟨hai, jbn (by decide) ⟨hci, z1 K hK⟩⟩)⟩
        · unfold w_X10_loops
          rw [nI_clamp (show p < 2 ^ 31 by omega), h14, h15, nI_clamp (show a < 2 ^ 31 by omega), nI_clamp (show c < 2 ^ 31 by omega), h0, hl, y4, y5, y7]
          exact ⟨hpi, hpi, hai, hai, jbn hk11 ⟨hci, jbm rfl ⟨hci, jbr rfl ⟨hai, jbm rfl ⟨hci, ev_passes (by omega) h14 (z2 K hK)⟩⟩⟩⟩⟩
    · exact hfault (fun z => el (nI_inj (by omega) (by omega) (y8.symm.trans z))) (fun _ z => el (nI_inj (by omega) (by omega) (y5.symm.trans z)))
  · exact hfault (fun z => by have := nI_inj (by omega) (by omega) (y6.symm.trans z); omega) (fun z => absurd (y3.symm.trans z) (by decide))
theorem fire_return {cx : Cx} {nA nW nT nC nP m hd nR nCe nQ p a c k q : Nat} {pr : Nat → Nat} {σ τ : St} (hF : Fire cx nA nW nT nC nP m hd nR nCe nQ p a c k q pr σ τ) :
    ∃ (σ' τ' : St) (r : Int32), (∀ K : St → Prop, K σ' → w_X4_goReturn σ (nI c) (gL σ 4 (3 * p + 0)) K) ∧ (∀ K : Int32 → St → Prop, K r τ' → w_X10_returns τ (nI p) K) ∧ Done cx nA nW nT hd σ' τ' ∧ zb r := by
  obtain ⟨hG, hR, hgo, hp, h14, h15, ha, hc, h0, hk22, h2, hq1, hq3, hjq, hvr, h17, hq2, hr1, hr2⟩ := hF
  have hP := hR.2.1.1
  have hC6 := hR.1.2.1
  have hpi : vp_in (nI p) 3000 := vp_in_nI (by omega) (by decide)
  have hci : vp_in (nI c) 600 := vp_in_nI (by omega) (by decide)
  have h9 : vp_in (nI (3 * p)) 9000 := vp_in_nI (by omega) (by decide)
  have hlost : (gA σ 19 c < 10) → ¬ gA τ 10 c = 2 → ∃ (σ' τ' : St) (r : Int32), (∀ K : St → Prop, K σ' → w_X4_goReturn σ (nI c) (gL σ 4 (3 * p + 0)) K) ∧ (∀ K : Int32 → St → Prop, K r τ' → w_X10_returns τ (nI p) K) ∧ Done cx nA nW nT hd σ' τ' ∧ zb r := by
    intro f1 f2
    refine ⟨_, _, 1, fun K hK => ?_, fun K hK => ?_, ⟨nC, nP, m, nR, nCe, nQ, pr, RG_sS hG (by decide) (by decide), RR_lost hR, Or.inl (Go_s hgo (by decide) (by decide) (by decide) (by decide) (by decide))⟩, Or.inr rfl⟩
    · unfold w_X4_goReturn w_X0_callerOf
      rw [nI_clamp (show c < 2 ^ 31 by omega)]
      exact ⟨hci, jbr f1 (jbm rfl hK)⟩
    · unfold w_X10_returns
      rw [nI_clamp (show p < 2 ^ 31 by omega), h15, nI_clamp (show c < 2 ^ 31 by omega)]
      exact ⟨hpi, hci, jbf f2 hK⟩
  rcases colView hR.1 hc with ⟨g1, g2⟩ | ⟨l', d, t, y1, y2, y3, y4, y5, y6, y7, y8, y9⟩ | ⟨a', d, y1, y2, y3, y4, y5, y6, y7⟩
  · exact hlost (by rw [g1]; decide) (by rw [g2]; decide)
  · exact hlost (by rw [y8]; exact nI_lt (b := 10) y1 (by decide)) (by rw [y4]; decide)
  · obtain ⟨σ', τ', r, z1, z2, z3, z4⟩ := gv hG hR hgo y1 (show 0 < 2 by decide) y2 (hvr 0 (by omega))
    refine ⟨σ', τ', r, fun K hK => ?_, fun K hK => ?_, z3, z4⟩
    · unfold w_X4_goReturn w_X0_callerOf w_X0_outerOf
      dsimp only
      rw [nI_clamp (show c < 2 ^ 31 by omega), y6, y7]
      have e : nI (10 + a') - 10 = nI a' := by rw [show (10 : Int32) = nI 10 from rfl, pk_sub (by omega), Nat.add_sub_cancel_left]
      rw [e]
      exact ⟨hci, jbf (nI_nlt (b := 10) (by omega) (by omega)) ⟨hci, jbn (nI_m1 (by omega)) ⟨hci, z1 K hK⟩⟩⟩
    · unfold w_X10_returns
      rw [nI_clamp (show p < 2 ^ 31 by omega), h15, nI_clamp (show c < 2 ^ 31 by omega), y3, y4, y5, i30, nI_clamp (show 3 * p < 2 ^ 31 by omega)]
      exact ⟨hpi, hci, jbr rfl ⟨hci, hci, h9, h9, h9, z2 K hK⟩⟩
