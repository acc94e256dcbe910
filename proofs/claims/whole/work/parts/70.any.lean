/-! ===== an act goes off, whatever its kind ===== -/
theorem fire_any {cx : Cx} {nA nW nT nC nP m hd nR nCe nQ p a c k q : Nat} {pr : Nat → Nat} {σ0 σ τ : St} (hF : Fire cx nA nW nT nC nP m hd nR nCe nQ p a c k q pr σ τ) (hσ : σ = sA (sS σ0 5 (gS σ0 5 + 1)) 12 a (gA σ0 12 a + 1)) :
    ∃ (σ' τ' : St) (r : Int32), (∀ K : St → Prop, K σ' → w_X4_goOff σ0 (nI p) K) ∧ (∀ K : Int32 → St → Prop, K r τ' → w_X10_goesOff τ (nI p) K) ∧ Done cx nA nW nT hd σ' τ' ∧ zb r := by
  have hF0 := hF
  obtain ⟨hG, hR, hgo, hp, h14, h15, ha, hc, h0, hk22, h2, hq1, hq3, hjq, hvr, h17, hq2, hr1, hr2⟩ := hF
  have hP := hR.2.1.1
  have hA := hG.1
  have hp3 : p < 3000 := by omega
  have ha8 : a < 80 := by omega
  have hpi : vp_in (nI p) 3000 := vp_in_nI hp3 (by decide)
  have hai : vp_in (nI a) 80 := vp_in_nI ha8 (by decide)
  have e24 : gA σ0 24 p = nI a := by
    have := (hR.2.1.2.2.2.1 p hp).1
    rw [h14, hσ] at this
    simpa only [gS_sS, gS_sA, gS_sL, gS_fA, gS_fL, gA_sS, gA_sA, gA_sL, gA_fA, gA_fL, gL_sS, gL_sA, gL_sL, gL_fA, gL_fL, reduceIte, Nat.reduceEqDiff, jupd, jupdL] using this
  have e25 : gA σ0 25 p = nI c := by
    have := (hR.2.1.2.2.2.1 p hp).2.1
    rw [h15, hσ] at this
    simpa only [gS_sS, gS_sA, gS_sL, gS_fA, gS_fL, gA_sS, gA_sA, gA_sL, gA_fA, gA_fL, gL_sS, gL_sA, gL_sL, gL_fA, gL_fL, reduceIte, Nat.reduceEqDiff, jupd, jupdL] using this
  have e0 : gA σ0 0 a = nI k := by
    have := (hG.2.2.2.2.2.2.2.2.2.1 a ha).1
    rw [h0, hσ] at this
    simpa only [gS_sS, gS_sA, gS_sL, gS_fA, gS_fL, gA_sS, gA_sA, gA_sL, gA_fA, gA_fL, gL_sS, gL_sA, gL_sL, gL_fA, gL_fL, reduceIte, Nat.reduceEqDiff, jupd, jupdL] using this.symm
  have e1 : gA σ0 1 = gA σ 1 := by rw [hσ]; simp only [gS_sS, gS_sA, gS_sL, gS_fA, gS_fL, gA_sS, gA_sA, gA_sL, gA_fA, gA_fL, gL_sS, gL_sA, gL_sL, gL_fA, gL_fL, reduceIte, Nat.reduceEqDiff, jupd, jupdL]
  have e4 : gL σ0 4 = gL σ 4 := by rw [hσ]; simp only [gS_sS, gS_sA, gS_sL, gS_fA, gS_fL, gA_sS, gA_sA, gA_sL, gA_fA, gA_fL, gL_sS, gL_sA, gL_sL, gL_fA, gL_fL, reduceIte, Nat.reduceEqDiff, jupd, jupdL]
  have n : ∀ j, j < 100 → k ≠ j → ¬ nI k = nI j := fun j hj hne => nkne hk22 hj hne
  have hnum : ((11 ≤ k ∧ k ≤ 14) ∨ k = 21) → ∃ l, l < 10 ∧ gA τ 1 a = nI l ∧ gA σ 1 a = nI l := fun h => by
    obtain ⟨-, x1, -, kk, pp, y1, y2, -, -, -, -, y3, -⟩ := hG.2.2.2.2.2.2.2.2.2.1 a ha
    have : kk = k := nI_inj (by omega) (by omega) (y2.symm.trans h0)
    subst this
    obtain ⟨l, l1, l2⟩ := y3 h
    exact ⟨l, l1, l2, by rw [← x1]; exact l2⟩
  have hC : ∀ K : St → Prop, ((nI k = 10 → w_X1_cameTo σ (nI p) 1 (fun r u => w_X4_goSwitch u (nI a) (nI c) (gL σ 4 (3 * p + 0)) r K)) ∧ (¬ nI k = 10 → ((nI k = 11 → vp_in (nI a) 80 ∧ w_X0_enter σ (nI c) (gA σ 1 a) (fun r u => w_X4_give u (nI a) 0 r (gL σ 4 (3 * p + 0)) K)) ∧ (¬ nI k = 11 → (((nI k = 12 ∨ nI k = 13) → w_X4_goTurn σ (nI a) (nI c) (gL σ 4 (3 * p + 0)) K) ∧ (¬ (nI k = 12 ∨ nI k = 13) → ((nI k = 14 → w_X4_goCall σ (nI p) (nI a) (nI c) K) ∧ (¬ nI k = 14 → ((nI k = 16 → w_X4_goReturn σ (nI c) (gL σ 4 (3 * p + 0)) K) ∧ (¬ nI k = 16 → ((nI k = 17 → w_X4_goMake σ (nI a) (nI c) (gL σ 4 (3 * p + 0)) K) ∧ (¬ nI k = 17 → ((nI k = 18 → w_X4_goRead σ (nI p) (nI a) (nI c) K) ∧ (¬ nI k = 18 → ((nI k = 19 → w_X4_goWrite σ (nI p) (nI a) (nI c) K) ∧ (¬ nI k = 19 → ((nI k = 21 → w_X4_goEnd σ (nI a) (nI c) (gL σ 4 (3 * p + 0)) K) ∧ (¬ nI k = 21 → w_X4_plainResult σ (nI p) (nI a) (gL σ 4 (3 * p + 0)) (fun r u => w_X4_give u (nI a) 0 (nI c) r K))))))))))))))))))) → w_X4_goOff σ0 (nI p) K := fun K h => by
    unfold w_X4_goOff
    rw [nI_clamp (show p < 2 ^ 31 by omega), e24, e25, nI_clamp (show a < 2 ^ 31 by omega)]
    refine jbn (nI_m1 (by omega)) ⟨hpi, hpi, ?_⟩
    refine ev_came (j := 0) hp3 (by decide) ?_
    rw [e0, e1, e4, ← hσ]
    exact ⟨hai, hai, hai, h⟩
  rcases (show k = 10 ∨ k = 11 ∨ (k = 12 ∨ k = 13) ∨ k = 14 ∨ k = 16 ∨ k = 17 ∨ k = 18 ∨ k = 19 ∨ k = 21 ∨ (k = 0 ∨ k = 15 ∨ k = 1 ∨ (2 ≤ k ∧ k ≤ 8) ∨ k = 9 ∨ k = 20) by omega) with hk | hk | hk | hk | hk | hk | hk | hk | hk | hk
  · obtain ⟨σ', τ', r, z1, z2, z3, z4⟩ := fire_switch hF0 hk
    refine ⟨σ', τ', r, fun K hK => hC K ?_, fun K hK => ?_, z3, z4⟩
    · refine jbr (by rw [hk]; rfl) ?_
      exact ev_came (j := 1) hp3 (by decide) (z1 K hK)
    · unfold w_X10_goesOff
      rw [nI_clamp (show p < 2 ^ 31 by omega), h14, nI_clamp (show a < 2 ^ 31 by omega), h0]
      subst hk
      exact ⟨hpi, hpi, hai, jbf (by decide) (jbf (by decide) (jbr (by decide) (z2 K hK)))⟩
  · obtain ⟨l, l1, l2, l3⟩ := hnum (by omega)
    obtain ⟨σ', τ', r, z1, z2, z3, z4⟩ := fire_enter hF0 hk l2 l1
    refine ⟨σ', τ', r, fun K hK => hC K ?_, fun K hK => ?_, z3, z4⟩
    · rw [l3]
      subst hk
      exact jbf (by decide) (jbr rfl ⟨hai, z1 K hK⟩)
    · unfold w_X10_goesOff
      rw [nI_clamp (show p < 2 ^ 31 by omega), h14, nI_clamp (show a < 2 ^ 31 by omega), h0]
      subst hk
      exact ⟨hpi, hpi, hai, jbf (by decide) (jbf (by decide) (jbf (by decide) (jbr (by decide) (z2 K hK))))⟩
  · obtain ⟨l, l1, l2, l3⟩ := hnum (by omega)
    obtain ⟨σ', τ', r, z1, z2, z3, z4⟩ := fire_turn hF0 hk l2 l1
    refine ⟨σ', τ', r, fun K hK => hC K ?_, fun K hK => ?_, z3, z4⟩
    · rcases hk with hk | hk <;> subst hk <;> exact jbf (by decide) (jbf (by decide) (jbr (by decide) (z1 K hK)))
    · unfold w_X10_goesOff
      rw [nI_clamp (show p < 2 ^ 31 by omega), h14, nI_clamp (show a < 2 ^ 31 by omega), h0]
      rcases hk with hk | hk <;> subst hk <;> exact ⟨hpi, hpi, hai, jbf (by decide) (jbf (by decide) (jbf (by decide) (jbr (by decide) (z2 K hK))))⟩
  · obtain ⟨l, l1, l2, l3⟩ := hnum (by omega)
    obtain ⟨σ', τ', r, z1, z2, z3, z4⟩ := fire_call hF0 l2 l1
    refine ⟨σ', τ', r, fun K hK => hC K ?_, fun K hK => ?_, z3, z4⟩
    · subst hk
      exact jbf (by decide) (jbf (by decide) (jbf (by decide) (jbr rfl (z1 K hK))))
    · unfold w_X10_goesOff
      rw [nI_clamp (show p < 2 ^ 31 by omega), h14, nI_clamp (show a < 2 ^ 31 by omega), h0]
      subst hk
      exact ⟨hpi, hpi, hai, jbf (by decide) (jbf (by decide) (jbf (by decide) (jbf (by decide) (jbr (by decide) (z2 K hK)))))⟩
  · obtain ⟨σ', τ', r, z1, z2, z3, z4⟩ := fire_return hF0
    refine ⟨σ', τ', r, fun K hK => hC K ?_, fun K hK => ?_, z3, z4⟩
    · subst hk
      exact jbf (by decide) (jbf (by decide) (jbf (by decide) (jbf (by decide) (jbr rfl (z1 K hK)))))
    · unfold w_X10_goesOff
      rw [nI_clamp (show p < 2 ^ 31 by omega), h14, nI_clamp (show a < 2 ^ 31 by omega), h0]
      subst hk
      exact ⟨hpi, hpi, hai, jbf (by decide) (jbf (by decide) (jbf (by decide) (jbf (by decide) (jbf (by decide) (jbr (by decide) (z2 K hK))))))⟩
  · obtain ⟨σ', τ', r, z1, z2, z3, z4⟩ := fire_make hF0 hk
    refine ⟨σ', τ', r, fun K hK => hC K ?_, z2, z3, z4⟩
    subst hk
    exact jbf (by decide) (jbf (by decide) (jbf (by decide) (jbf (by decide) (jbf (by decide) (jbr rfl (z1 K hK))))))
  · obtain ⟨σ', τ', r, z1, z2, z3, z4⟩ := fire_read hF0 hk
    refine ⟨σ', τ', r, fun K hK => hC K ?_, z2, z3, z4⟩
    subst hk
    exact jbf (by decide) (jbf (by decide) (jbf (by decide) (jbf (by decide) (jbf (by decide) (jbf (by decide) (jbr rfl (z1 K hK)))))))
  · obtain ⟨σ', τ', r, z1, z2, z3, z4⟩ := fire_write hF0 hk
    refine ⟨σ', τ', r, fun K hK => hC K ?_, z2, z3, z4⟩
    subst hk
    exact jbf (by decide) (jbf (by decide) (jbf (by decide) (jbf (by decide) (jbf (by decide) (jbf (by decide) (jbf (by decide) (jbr rfl (z1 K hK))))))))
  · obtain ⟨l, l1, l2, l3⟩ := hnum (by omega)
    obtain ⟨σ', τ', r, z1, z2, z3, z4⟩ := fire_end hF0 l2 l1
    refine ⟨σ', τ', r, fun K hK => hC K ?_, fun K hK => ?_, z3, z4⟩
    · subst hk
      exact jbf (by decide) (jbf (by decide) (jbf (by decide) (jbf (by decide) (jbf (by decide) (jbf (by decide) (jbf (by decide) (jbf (by decide) (jbr rfl (z1 K hK)))))))))
    · unfold w_X10_goesOff
      rw [nI_clamp (show p < 2 ^ 31 by omega), h14, nI_clamp (show a < 2 ^ 31 by omega), h0]
      subst hk
      exact ⟨hpi, hpi, hai, jbf (by decide) (jbf (by decide) (jbf (by decide) (jbf (by decide) (jbf (by decide) (jbf (by decide) (jbr (by decide) (z2 K hK)))))))⟩
  · obtain ⟨σ', τ', r, z1, z2, z3, z4⟩ := fire_plain hF0 hk
    refine ⟨σ', τ', r, fun K hK => hC K ?_, z2, z3, z4⟩
    exact jbf (n 10 (by decide) (by omega)) (jbf (n 11 (by decide) (by omega)) (jbf (fun z => z.elim (n 12 (by decide) (by omega)) (n 13 (by decide) (by omega))) (jbf (n 14 (by decide) (by omega)) (jbf (n 16 (by decide) (by omega)) (jbf (n 17 (by decide) (by omega)) (jbf (n 18 (by decide) (by omega)) (jbf (n 19 (by decide) (by omega)) (jbf (n 21 (by decide) (by omega)) (z1 K hK)))))))))
