/-! ===== ticks ===== -/
theorem m_lt {nP m hd nA nC : Nat} {σ τ : St} (hY : RY nP m hd σ τ) (hP : RP nA nC nP σ τ) : m ≤ 3000 := by
  have := sm_le (f := fun p => if gA τ 17 p = 0 then 0 else 1) (b := 1) (n := nP) (fun i _ => by split <;> omega)
  have h1 := hY.2.2.2.1
  have h2 := hP.1
  omega
theorem lp_tick {nA nW nT F w : Nat} (hF : F ≤ 4000) (hw : w ≤ 3000) : ∀ (d x n hd e : Nat) (cx : Cx) (σ τ : St), x + d = w → n ≤ F → Done cx nA nW nT hd σ τ → cx.1 0 = nI n → cx.1 4 = nI e → d ≤ e → e ≤ 3000 →
    ∃ (σ' τ' : St) (x' hd' : Nat) (cx' : Cx), (∀ K : St → Prop, b_X4_goTick_41 K σ' (nI x') → ∀ f, d < f → w_X4_goTick_10 K f σ (nI F) (nI w) (nI x)) ∧ (∀ (L : St → Int32 → Prop) (K : Int32 → St → Prop), b_X10_ticks_114 L K τ' (nI F) (nI x') → ∀ f, d + 1 < f → w_X10_ticks_69 L K f τ (nI F) (nI w) (nI x) (nI x)) ∧ Done cx' nA nW nT hd' σ' τ' ∧ x ≤ x' ∧ x' ≤ w ∧ n + (x' - x) ≤ F ∧ cx'.1 0 = nI (n + (x' - x)) ∧ cx'.1 1 = cx.1 1 ∧ cx'.1 2 = cx.1 2 ∧ cx'.1 3 = cx.1 3 ∧ cx'.1 5 = cx.1 5 ∧ cx'.2 = cx.2 ∧ (Go σ τ → 0 < d → n < F → x < x') := by
  intro d
  induction d with
  | zero =>
    intro x n hd e cx σ τ hx hn hD h0 h4 hde he
    refine ⟨σ, τ, x, hd, cx, fun K hK f hf => ?_, fun L K hK f hf => ?_, hD, Nat.le_refl _, by omega, by omega, by rw [h0]; congr 1; omega, rfl, rfl, rfl, rfl, rfl, fun _ h => by omega⟩
    · obtain ⟨f, rfl⟩ : ∃ z, f = z + 1 := ⟨f - 1, by omega⟩
      show b_X4_goTick_10 (w_X4_goTick_10 K f) K σ (nI F) (nI w) (nI x)
      unfold b_X4_goTick_10
      exact jbr (nI_le (by omega) (by omega)) hK
    · obtain ⟨f, rfl⟩ : ∃ z, f = z + 1 := ⟨f - 1, by omega⟩
      show b_X10_ticks_69 L (w_X10_ticks_69 L K f) K τ (nI F) (nI w) (nI x) (nI x)
      unfold b_X10_ticks_69
      exact jbr (nI_le (by omega) (by omega)) hK
  | succ d ih =>
    intro x n hd e cx σ τ hx hn hD h0 h4 hde he
    have hD0 := hD
    obtain ⟨nC, nP, m, nR, nCe, nQ, pr, hG, hR, hgh⟩ := hD
    have hY := hR.2.2.2.1
    obtain ⟨k1, k2, k3, k4, k5, k6, k7, k8, k9, k10, k11, k12, k13, k14, k15⟩ := hR.2.2.2.2.2.2.2.2.2
    have h5 : gS σ 5 = nI n := by rw [k1, k7, h0]
    have h6 : gS τ 6 = nI n := by rw [k7, h0]
    have hm3 := m_lt hY hR.2.1
    have hem : e ≤ m := by
      rw [h4, hY.1] at k13
      exact (nI_leI (by omega) (by omega)).mp k13
    have hle : ¬ nI w ≤ nI x := nI_ge (by omega) (by omega)
    rcases hgh with hgo | hlt
    · by_cases nF : n = F
      · refine ⟨sS σ 4 3, sS (sS (sS τ 5 3) 11 (-1)) 4 1, x, hd, cx, fun K hK f hf => ?_, fun L K hK f hf => ?_, ⟨nC, nP, m, nR, nCe, nQ, pr, hG.ct ((CtC.rf σ).s 4 3 (by decide)) ((CtM.rf τ).s 5 3 (by decide) |>.s 11 _ (by decide) |>.s 4 _ (by decide)), hR.ct ((CtC.rf σ).s 4 3 (by decide)) ((CtM.rf τ).s 5 3 (by decide) |>.s 11 _ (by decide) |>.s 4 _ (by decide)) (by simp only [gS_sS, gS_sA, gS_sL, gS_fA, gS_fL, gA_sS, gA_sA, gA_sL, gA_fA, gA_fL, gL_sS, gL_sA, gL_sL, gL_fA, gL_fL, reduceIte, Nat.reduceEqDiff, jupd, jupdL]; exact k2) rfl (by simp only [gS_sS, gS_sA, gS_sL, gS_fA, gS_fL, gA_sS, gA_sA, gA_sL, gA_fA, gA_fL, gL_sS, gL_sA, gL_sL, gL_fA, gL_fL, reduceIte, Nat.reduceEqDiff, jupd, jupdL]; exact k8.symm) (by simp only [gS_sS, gS_sA, gS_sL, gS_fA, gS_fL, gA_sS, gA_sA, gA_sL, gA_fA, gA_fL, gL_sS, gL_sA, gL_sL, gL_fA, gL_fL, reduceIte, Nat.reduceEqDiff, jupd, jupdL]; exact k9.symm) (by simp only [gS_sS, gS_sA, gS_sL, gS_fA, gS_fL, gA_sS, gA_sA, gA_sL, gA_fA, gA_fL, gL_sS, gL_sA, gL_sL, gL_fA, gL_fL, reduceIte, Nat.reduceEqDiff, jupd, jupdL]; exact k10.symm) (by rw [← hY.1]; exact k13), Or.inr ?_⟩, Nat.le_refl _, by omega, by omega, by rw [h0]; congr 1; omega, rfl, rfl, rfl, rfl, rfl, fun _ _ h => by omega⟩
        · obtain ⟨f, rfl⟩ : ∃ z, f = z + 1 := ⟨f - 1, by omega⟩
          show b_X4_goTick_10 (w_X4_goTick_10 K f) K σ (nI F) (nI w) (nI x)
          unfold b_X4_goTick_10 w_X4_mayStep
          refine jbf hle (jbm hgo.1 ?_)
          exact ev_size hY (jbn (nI_ne0 (by omega) (by omega)) (jbf (by rw [h5, nF]; exact nI_nlt (Nat.le_refl _) (by omega)) (jbn (by decide) (jbr rfl hK))))
        · obtain ⟨f, rfl⟩ : ∃ z, f = z + 2 := ⟨f - 2, by omega⟩
          show b_X10_ticks_69 L (w_X10_ticks_69 L K (f + 1)) K τ (nI F) (nI w) (nI x) (nI x)
          unfold b_X10_ticks_69 w_X10_stops
          refine jbf hle (jbm hgo.2.1 (jbm (by rw [h6, nF]) ?_))
          show b_X10_ticks_69 L (w_X10_ticks_69 L K f) K (sS (sS (sS τ 5 3) 11 (-1)) 4 1) (nI F) (nI w) (nI x) (nI x + 1)
          unfold b_X10_ticks_69
          exact ⟨fun _ => hK, fun _ => jbn (by simp only [gS_sS, gS_sA, gS_sL, gS_fA, gS_fL, gA_sS, gA_sA, gA_sL, gA_fA, gA_fL, gL_sS, gL_sA, gL_sL, gL_fA, gL_fL, reduceIte, Nat.reduceEqDiff, jupd, jupdL]; decide) hK⟩
        · unfold Hlt
          simp only [gS_sS, gS_sA, gS_sL, gS_fA, gS_fL, gA_sS, gA_sA, gA_sL, gA_fA, gA_fL, gL_sS, gL_sA, gL_sL, gL_fA, gL_fL, reduceIte, Nat.reduceEqDiff, jupd, jupdL]
          exact ⟨trivial, trivial, by decide, hgo.2.2.2.2⟩
      · obtain ⟨σ1, τ1, hd1, c1, c2, c3⟩ := sim_step (i := 0) hG hR hgo (show 0 < m by omega)
        obtain ⟨σ', τ', x', hd', cx', z1, z2, z3, z4, z5, z6, z7, z8, z9, z10, z11, z13, z12⟩ := ih (x + 1) (n + 1) hd1 (m - 1) _ σ1 τ1 (by omega) (by omega) c3 (by show cx.1 0 + 1 = _; rw [h0, nI_1]) rfl (by omega) (by omega)
        refine ⟨σ', τ', x', hd', cx', fun K hK f hf => ?_, fun L K hK f hf => ?_, z3, by omega, z5, by omega, by rw [z7]; congr 1; omega, z8, z9, z10, z11, z13, fun _ _ _ => by omega⟩
        · obtain ⟨f, rfl⟩ : ∃ z, f = z + 1 := ⟨f - 1, by omega⟩
          show b_X4_goTick_10 (w_X4_goTick_10 K f) K σ (nI F) (nI w) (nI x)
          unfold b_X4_goTick_10 w_X4_mayStep
          refine jbf hle (jbm hgo.1 ?_)
          refine ev_size hY (jbn (nI_ne0 (by omega) (by omega)) (jbr (by rw [h5]; exact nI_lt (by omega) (by omega)) (jbm hgo.1 (jbf (by decide) ?_))))
          rw [nI_1]
          exact c1 _ (z1 K hK f (by omega))
        · obtain ⟨f, rfl⟩ : ∃ z, f = z + 1 := ⟨f - 1, by omega⟩
          show b_X10_ticks_69 L (w_X10_ticks_69 L K f) K τ (nI F) (nI w) (nI x) (nI x)
          unfold b_X10_ticks_69
          rw [nI_1]
          exact jbf hle (jbm hgo.2.1 (jbn (by rw [h6]; exact fun z => nF (nI_inj (by omega) (by omega) z)) (c2 _ (z2 L K hK f (by omega)))))
    · refine ⟨σ, τ, x, hd, cx, fun K hK f hf => ?_, fun L K hK f hf => ?_, hD0, Nat.le_refl _, by omega, by omega, by rw [h0]; congr 1; omega, rfl, rfl, rfl, rfl, rfl, fun h => absurd h.1 hlt.2.2.1⟩
      · obtain ⟨f, rfl⟩ : ∃ z, f = z + 1 := ⟨f - 1, by omega⟩
        show b_X4_goTick_10 (w_X4_goTick_10 K f) K σ (nI F) (nI w) (nI x)
        unfold b_X4_goTick_10 w_X4_mayStep
        exact jbf hle (jbn hlt.2.2.1 (jbn hlt.2.2.1 (jbr rfl hK)))
      · obtain ⟨f, rfl⟩ : ∃ z, f = z + 1 := ⟨f - 1, by omega⟩
        show b_X10_ticks_69 L (w_X10_ticks_69 L K f) K τ (nI F) (nI w) (nI x) (nI x)
        unfold b_X10_ticks_69
        exact jbf hle (jbn (by rw [hlt.1]; decide) hK)
theorem Go.ct {σ τ σ' τ' : St} (h : Go σ τ) (h1 : gS σ' 4 = gS σ 4) (h2 : gS σ' 10 = gS σ 10) (h3 : gS τ' 4 = gS τ 4) (h4 : gS τ' 5 = gS τ 5) (h5 : gS τ' 11 = gS τ 11) : Go σ' τ' := by
  unfold Go at h ⊢
  rw [h1, h2, h3, h4, h5]
  exact h
theorem Hlt.ct {σ τ σ' τ' : St} (h : Hlt σ τ) (h1 : gS σ' 4 = gS σ 4) (h2 : gS σ' 10 = gS σ 10) (h3 : gS τ' 4 = gS τ 4) (h4 : gS τ' 5 = gS τ 5) (h5 : gS τ' 11 = gS τ 11) : Hlt σ' τ' := by
  unfold Hlt at h ⊢
  rw [h1, h2, h3, h4, h5]
  exact h
theorem lp_ticks {nA nW nT F : Nat} (hF : F ≤ 4000) : ∀ (d n t hd : Nat) (cx : Cx) (σ τ : St), n + d = F → t ≤ n → Done cx nA nW nT hd σ τ → cx.1 0 = nI n → cx.1 5 = cx.1 1 → cx.1 2 = cx.1 3 →
    ∃ (σ' τ' : St) (v : Int32), (∀ K : Int32 → St → Prop, K v σ' → ∀ f, d + 2 < f → w_X4_goByTicks_6 K f σ (nI F) (nI t)) ∧ (∀ K : Int32 → St → Prop, K v τ' → ∀ f, d + 2 < f → w_X10_ticks_17 K f τ (nI F)) ∧ (RG nA nW nT σ' τ' ∧ RO nA σ' τ' ∧ Ran nA cx.2.1 cx.2.2 σ' τ') := by
  intro d
  induction d using Nat.strongRecOn with
  | ind d ih =>
    intro n t hd cx σ τ hn ht hD h0 h51 h23
    obtain ⟨nC, nP, m, nR, nCe, nQ, pr, hG, hR, hgh⟩ := hD
    have hY := hR.2.2.2.1
    obtain ⟨k1, k2, k3, k4, k5, k6, k7, k8, k9, k10, k11, k12, k13, k14, k15⟩ := hR.2.2.2.2.2.2.2.2.2
    have h5 : gS σ 5 = nI n := by rw [k1, k7, h0]
    have h6 : gS τ 6 = nI n := by rw [k7, h0]
    have hm3 := m_lt hY hR.2.1
    have h78 : gS σ 7 = gS τ 8 := by rw [k9, k10, h23]
    have h67 : gS σ 6 = gS τ 7 := by rw [k2, k8, h51]
    have htF : ¬ nI F < nI t := nI_nlt (by omega) (by omega)
    rcases hgh with hgo | hlt
    · by_cases m0 : m = 0
      · refine ⟨sS σ 4 0, τ, 0, fun K hK f hf => ?_, fun K hK f hf => ?_, Rel_of (hG.ct ((CtC.rf σ).s 4 0 (by decide)) (CtM.rf τ)) (hR.ct (cx' := cx) ((CtC.rf σ).s 4 0 (by decide)) (CtM.rf τ) (by simp only [gS_sS, gS_sA, gS_sL, gS_fA, gS_fL, gA_sS, gA_sA, gA_sL, gA_fA, gA_fL, gL_sS, gL_sA, gL_sL, gL_fA, gL_fL, reduceIte, Nat.reduceEqDiff, jupd, jupdL]; exact k2) rfl k8.symm (by simp only [gS_sS, gS_sA, gS_sL, gS_fA, gS_fL, gA_sS, gA_sA, gA_sL, gA_fA, gA_fL, gL_sS, gL_sA, gL_sL, gL_fA, gL_fL, reduceIte, Nat.reduceEqDiff, jupd, jupdL]; exact k9.symm) k10.symm (by rw [← hY.1]; exact k13)) (by simp only [gS_sS, gS_sA, gS_sL, gS_fA, gS_fL, gA_sS, gA_sA, gA_sL, gA_fA, gA_fL, gL_sS, gL_sA, gL_sL, gL_fA, gL_fL, reduceIte, Nat.reduceEqDiff, jupd, jupdL]; exact hgo.2.2.1.symm) (by simp only [gS_sS, gS_sA, gS_sL, gS_fA, gS_fL, gA_sS, gA_sA, gA_sL, gA_fA, gA_fL, gL_sS, gL_sA, gL_sL, gL_fA, gL_fL, reduceIte, Nat.reduceEqDiff, jupd, jupdL]; exact h78) (by simp only [gS_sS, gS_sA, gS_sL, gS_fA, gS_fL, gA_sS, gA_sA, gA_sL, gA_fA, gA_fL, gL_sS, gL_sA, gL_sL, gL_fA, gL_fL, reduceIte, Nat.reduceEqDiff, jupd, jupdL]; rw [hgo.2.2.2.1, hgo.2.2.2.2]) (by simp only [gS_sS, gS_sA, gS_sL, gS_fA, gS_fL, gA_sS, gA_sA, gA_sL, gA_fA, gA_fL, gL_sS, gL_sA, gL_sL, gL_fA, gL_fL, reduceIte, Nat.reduceEqDiff, jupd, jupdL]; exact h67)⟩
        · obtain ⟨f, rfl⟩ : ∃ z, f = z + 1 := ⟨f - 1, by omega⟩
          show b_X4_goByTicks_6 (w_X4_goByTicks_6 K f) K σ (nI F) (nI t)
          unfold b_X4_goByTicks_6 w_X4_mayStep
          refine jbf htF (jbm hgo.1 ?_)
          refine ev_size hY (jbm (by rw [m0]; rfl) (jbn (by decide) (jbr rfl ?_)))
          simp only [gS_sS, gS_sA, gS_sL, gS_fA, gS_fL, gA_sS, gA_sA, gA_sL, gA_fA, gA_fL, gL_sS, gL_sA, gL_sL, gL_fA, gL_fL, reduceIte, Nat.reduceEqDiff, jupd, jupdL]
          exact hK
        · obtain ⟨f, rfl⟩ : ∃ z, f = z + 1 := ⟨f - 1, by omega⟩
          show b_X10_ticks_17 (w_X10_ticks_17 K f) K τ (nI F)
          unfold b_X10_ticks_17
          rw [hgo.2.2.1]
          exact jbm hgo.2.1 (jbr (by rw [hY.1, m0]; decide) hK)
      · by_cases nF : n = F
        · refine ⟨sS σ 4 3, sS (sS (sS τ 5 3) 11 (-1)) 4 1, 3, fun K hK f hf => ?_, fun K hK f hf => ?_, Rel_of (hG.ct ((CtC.rf σ).s 4 3 (by decide)) ((CtM.rf τ).s 5 3 (by decide) |>.s 11 _ (by decide) |>.s 4 _ (by decide))) (hR.ct (cx' := cx) ((CtC.rf σ).s 4 3 (by decide)) ((CtM.rf τ).s 5 3 (by decide) |>.s 11 _ (by decide) |>.s 4 _ (by decide)) (by simp only [gS_sS, gS_sA, gS_sL, gS_fA, gS_fL, gA_sS, gA_sA, gA_sL, gA_fA, gA_fL, gL_sS, gL_sA, gL_sL, gL_fA, gL_fL, reduceIte, Nat.reduceEqDiff, jupd, jupdL]; exact k2) rfl (by simp only [gS_sS, gS_sA, gS_sL, gS_fA, gS_fL, gA_sS, gA_sA, gA_sL, gA_fA, gA_fL, gL_sS, gL_sA, gL_sL, gL_fA, gL_fL, reduceIte, Nat.reduceEqDiff, jupd, jupdL]; exact k8.symm) (by simp only [gS_sS, gS_sA, gS_sL, gS_fA, gS_fL, gA_sS, gA_sA, gA_sL, gA_fA, gA_fL, gL_sS, gL_sA, gL_sL, gL_fA, gL_fL, reduceIte, Nat.reduceEqDiff, jupd, jupdL]; exact k9.symm) (by simp only [gS_sS, gS_sA, gS_sL, gS_fA, gS_fL, gA_sS, gA_sA, gA_sL, gA_fA, gA_fL, gL_sS, gL_sA, gL_sL, gL_fA, gL_fL, reduceIte, Nat.reduceEqDiff, jupd, jupdL]; exact k10.symm) (by rw [← hY.1]; exact k13)) (by simp only [gS_sS, gS_sA, gS_sL, gS_fA, gS_fL, gA_sS, gA_sA, gA_sL, gA_fA, gA_fL, gL_sS, gL_sA, gL_sL, gL_fA, gL_fL, reduceIte, Nat.reduceEqDiff, jupd, jupdL]) (by simp only [gS_sS, gS_sA, gS_sL, gS_fA, gS_fL, gA_sS, gA_sA, gA_sL, gA_fA, gA_fL, gL_sS, gL_sA, gL_sL, gL_fA, gL_fL, reduceIte, Nat.reduceEqDiff, jupd, jupdL]; exact h78) (by simp only [gS_sS, gS_sA, gS_sL, gS_fA, gS_fL, gA_sS, gA_sA, gA_sL, gA_fA, gA_fL, gL_sS, gL_sA, gL_sL, gL_fA, gL_fL, reduceIte, Nat.reduceEqDiff, jupd, jupdL]; exact hgo.2.2.2.2) (by simp only [gS_sS, gS_sA, gS_sL, gS_fA, gS_fL, gA_sS, gA_sA, gA_sL, gA_fA, gA_fL, gL_sS, gL_sA, gL_sL, gL_fA, gL_fL, reduceIte, Nat.reduceEqDiff, jupd, jupdL]; exact h67)⟩
          · obtain ⟨f, rfl⟩ : ∃ z, f = z + 1 := ⟨f - 1, by omega⟩
            show b_X4_goByTicks_6 (w_X4_goByTicks_6 K f) K σ (nI F) (nI t)
            unfold b_X4_goByTicks_6 w_X4_mayStep
            refine jbf htF (jbm hgo.1 ?_)
            refine ev_size hY (jbn (nI_ne0 (by omega) (by omega)) (jbf (by rw [h5]; exact nI_nlt (by omega) (by omega)) (jbn (by decide) (jbr rfl ?_))))
            simp only [gS_sS, gS_sA, gS_sL, gS_fA, gS_fL, gA_sS, gA_sA, gA_sL, gA_fA, gA_fL, gL_sS, gL_sA, gL_sL, gL_fA, gL_fL, reduceIte, Nat.reduceEqDiff, jupd, jupdL]
            exact hK
          · obtain ⟨f, rfl⟩ : ∃ z, f = z + 2 := ⟨f - 2, by omega⟩
            show b_X10_ticks_17 (w_X10_ticks_17 K (f + 1)) K τ (nI F)
            unfold b_X10_ticks_17 w_X10_stops
            refine jbm hgo.2.1 (jbf (by rw [hY.1]; exact nI_nle (by omega) (by omega)) (jbm (by rw [h6, nF]) ?_))
            show b_X10_ticks_17 (w_X10_ticks_17 K f) K (sS (sS (sS τ 5 3) 11 (-1)) 4 1) (nI F)
            unfold b_X10_ticks_17
            simp only [gS_sS, gS_sA, gS_sL, gS_fA, gS_fL, gA_sS, gA_sA, gA_sL, gA_fA, gA_fL, gL_sS, gL_sA, gL_sL, gL_fA, gL_fL, reduceIte, Nat.reduceEqDiff, jupd, jupdL]
            exact jbn (by decide) hK
        · have hG2 := hG.ct (CtC.rf σ) ((CtM.rf τ).s 7 (gS τ 7 + 1) (by decide))
          have hR2 := hR.ct (cx' := ⟨fun j => if j = 0 then cx.1 0 else if j = 1 then gS τ 7 + 1 else if j = 2 then gS σ 7 else if j = 3 then gS τ 8 else if j = 4 then nI m else gS σ 6, cx.2.1, cx.2.2⟩) (CtC.rf σ) ((CtM.rf τ).s 7 (gS τ 7 + 1) (by decide)) rfl rfl (by simp only [gS_sS, gS_sA, gS_sL, gS_fA, gS_fL, gA_sS, gA_sA, gA_sL, gA_fA, gA_fL, gL_sS, gL_sA, gL_sL, gL_fA, gL_fL, reduceIte, Nat.reduceEqDiff, jupd, jupdL]) rfl (by simp only [gS_sS, gS_sA, gS_sL, gS_fA, gS_fL, gA_sS, gA_sA, gA_sL, gA_fA, gA_fL, gL_sS, gL_sA, gL_sL, gL_fA, gL_fL, reduceIte, Nat.reduceEqDiff, jupd, jupdL]) (nI_le (Nat.le_refl _) (by omega))
          have hgo2 : Go σ (sS τ 7 (gS τ 7 + 1)) := hgo.ct rfl rfl (by simp only [gS_sS, gS_sA, gS_sL, gS_fA, gS_fL, gA_sS, gA_sA, gA_sL, gA_fA, gA_fL, gL_sS, gL_sA, gL_sL, gL_fA, gL_fL, reduceIte, Nat.reduceEqDiff, jupd, jupdL]) (by simp only [gS_sS, gS_sA, gS_sL, gS_fA, gS_fL, gA_sS, gA_sA, gA_sL, gA_fA, gA_fL, gL_sS, gL_sA, gL_sL, gL_fA, gL_fL, reduceIte, Nat.reduceEqDiff, jupd, jupdL]) (by simp only [gS_sS, gS_sA, gS_sL, gS_fA, gS_fL, gA_sS, gA_sA, gA_sL, gA_fA, gA_fL, gL_sS, gL_sA, gL_sL, gL_fA, gL_fL, reduceIte, Nat.reduceEqDiff, jupd, jupdL])
          obtain ⟨σ1, τ1, x', hd1, cx1, z1, z2, z3, z4, z5, z6, z7, z8, z9, z10, z11, z13, z12⟩ := lp_tick (w := m) hF hm3 m 0 n hd m _ σ (sS τ 7 (gS τ 7 + 1)) (by omega) (by omega) ⟨nC, nP, m, nR, nCe, nQ, pr, hG2, hR2, Or.inl hgo2⟩ h0 rfl (Nat.le_refl _) hm3
          have hx' := z12 hgo2 (by omega) (by omega)
          obtain ⟨nC1, nP1, m1, nR1, nCe1, nQ1, pr1, hG1, hR1, hgh1⟩ := z3
          obtain ⟨q1, q2, q3, q4, q5, q6, q7, q8, q9, q10, q11, q12, q13, q14, q15⟩ := hR1.2.2.2.2.2.2.2.2.2
          have e78 : gS σ1 7 = gS τ1 8 := by rw [q9, q10, z9, z10]; exact h78
          have hD2 : Done ⟨fun j => if j = 0 then cx1.1 0 else if j = 1 then gS τ1 7 else if j = 2 then (if gS σ1 7 < nI x' then nI x' else gS σ1 7) else if j = 3 then (if gS σ1 7 < nI x' then nI x' else gS σ1 7) else if j = 4 then cx1.1 4 else gS σ1 6 + 1, cx1.2.1, cx1.2.2⟩ nA nW nT hd1 (sS (sS σ1 6 (gS σ1 6 + 1)) 7 (if gS σ1 7 < nI x' then nI x' else gS σ1 7)) (sS τ1 8 (if gS σ1 7 < nI x' then nI x' else gS σ1 7)) := by
            refine ⟨nC1, nP1, m1, nR1, nCe1, nQ1, pr1, hG1.ct ((CtC.rf σ1).s 6 _ (by decide) |>.s 7 _ (by decide)) ((CtM.rf τ1).s 8 _ (by decide)), hR1.ct ((CtC.rf σ1).s 6 _ (by decide) |>.s 7 _ (by decide)) ((CtM.rf τ1).s 8 _ (by decide)) (by simp only [gS_sS, gS_sA, gS_sL, gS_fA, gS_fL, gA_sS, gA_sA, gA_sL, gA_fA, gA_fL, gL_sS, gL_sA, gL_sL, gL_fA, gL_fL, reduceIte, Nat.reduceEqDiff, jupd, jupdL]) rfl (by simp only [gS_sS, gS_sA, gS_sL, gS_fA, gS_fL, gA_sS, gA_sA, gA_sL, gA_fA, gA_fL, gL_sS, gL_sA, gL_sL, gL_fA, gL_fL, reduceIte, Nat.reduceEqDiff, jupd, jupdL]) (by simp only [gS_sS, gS_sA, gS_sL, gS_fA, gS_fL, gA_sS, gA_sA, gA_sL, gA_fA, gA_fL, gL_sS, gL_sA, gL_sL, gL_fA, gL_fL, reduceIte, Nat.reduceEqDiff, jupd, jupdL]) (by simp only [gS_sS, gS_sA, gS_sL, gS_fA, gS_fL, gA_sS, gA_sA, gA_sL, gA_fA, gA_fL, gL_sS, gL_sA, gL_sL, gL_fA, gL_fL, reduceIte, Nat.reduceEqDiff, jupd, jupdL]) (by rw [← hR1.2.2.2.1.1]; exact q13), ?_⟩
            rcases hgh1 with h | h
            · exact Or.inl (h.ct (by simp only [gS_sS, gS_sA, gS_sL, gS_fA, gS_fL, gA_sS, gA_sA, gA_sL, gA_fA, gA_fL, gL_sS, gL_sA, gL_sL, gL_fA, gL_fL, reduceIte, Nat.reduceEqDiff, jupd, jupdL]) (by simp only [gS_sS, gS_sA, gS_sL, gS_fA, gS_fL, gA_sS, gA_sA, gA_sL, gA_fA, gA_fL, gL_sS, gL_sA, gL_sL, gL_fA, gL_fL, reduceIte, Nat.reduceEqDiff, jupd, jupdL]) (by simp only [gS_sS, gS_sA, gS_sL, gS_fA, gS_fL, gA_sS, gA_sA, gA_sL, gA_fA, gA_fL, gL_sS, gL_sA, gL_sL, gL_fA, gL_fL, reduceIte, Nat.reduceEqDiff, jupd, jupdL]) (by simp only [gS_sS, gS_sA, gS_sL, gS_fA, gS_fL, gA_sS, gA_sA, gA_sL, gA_fA, gA_fL, gL_sS, gL_sA, gL_sL, gL_fA, gL_fL, reduceIte, Nat.reduceEqDiff, jupd, jupdL]) (by simp only [gS_sS, gS_sA, gS_sL, gS_fA, gS_fL, gA_sS, gA_sA, gA_sL, gA_fA, gA_fL, gL_sS, gL_sA, gL_sL, gL_fA, gL_fL, reduceIte, Nat.reduceEqDiff, jupd, jupdL]))
            · exact Or.inr (h.ct (by simp only [gS_sS, gS_sA, gS_sL, gS_fA, gS_fL, gA_sS, gA_sA, gA_sL, gA_fA, gA_fL, gL_sS, gL_sA, gL_sL, gL_fA, gL_fL, reduceIte, Nat.reduceEqDiff, jupd, jupdL]) (by simp only [gS_sS, gS_sA, gS_sL, gS_fA, gS_fL, gA_sS, gA_sA, gA_sL, gA_fA, gA_fL, gL_sS, gL_sA, gL_sL, gL_fA, gL_fL, reduceIte, Nat.reduceEqDiff, jupd, jupdL]) (by simp only [gS_sS, gS_sA, gS_sL, gS_fA, gS_fL, gA_sS, gA_sA, gA_sL, gA_fA, gA_fL, gL_sS, gL_sA, gL_sL, gL_fA, gL_fL, reduceIte, Nat.reduceEqDiff, jupd, jupdL]) (by simp only [gS_sS, gS_sA, gS_sL, gS_fA, gS_fL, gA_sS, gA_sA, gA_sL, gA_fA, gA_fL, gL_sS, gL_sA, gL_sL, gL_fA, gL_fL, reduceIte, Nat.reduceEqDiff, jupd, jupdL]) (by simp only [gS_sS, gS_sA, gS_sL, gS_fA, gS_fL, gA_sS, gA_sA, gA_sL, gA_fA, gA_fL, gL_sS, gL_sA, gL_sL, gL_fA, gL_fL, reduceIte, Nat.reduceEqDiff, jupd, jupdL]))
          obtain ⟨σ', τ', v, y1, y2, y3⟩ := ih (F - (n + x')) (by omega) (n + x') (t + 1) hd1 _ _ _ (by omega) (by omega) hD2 (by show cx1.1 0 = _; rw [z7]; congr 1) (by show gS σ1 6 + 1 = gS τ1 7; rw [q2, q8, z8, z11]; show gS σ 6 + 1 = gS τ 7 + 1; rw [h67]) rfl
          rw [show (cx1.2.1, cx1.2.2) = cx.2 from z13] at y3
          refine ⟨σ', τ', v, fun K hK f hf => ?_, fun K hK f hf => ?_, y3⟩
          · obtain ⟨f, rfl⟩ : ∃ z, f = z + 1 := ⟨f - 1, by omega⟩
            show b_X4_goByTicks_6 (w_X4_goByTicks_6 K f) K σ (nI F) (nI t)
            unfold b_X4_goByTicks_6 w_X4_mayStep
            refine jbf htF (jbm hgo.1 ?_)
            refine ev_size hY (jbn (nI_ne0 (by omega) (by omega)) (jbr (by rw [h5]; exact nI_lt (by omega) (by omega)) (jbm hgo.1 (jbf (by decide) ?_))))
            unfold w_X4_goTick
            refine ev_size hY ⟨m + 1, z1 _ ?_ (m + 1) (by omega)⟩
            unfold b_X4_goTick_41
            rw [nI_1]
            exact y1 K hK f (by omega)
          · obtain ⟨f, rfl⟩ : ∃ z, f = z + 1 := ⟨f - 1, by omega⟩
            show b_X10_ticks_17 (w_X10_ticks_17 K f) K τ (nI F)
            unfold b_X10_ticks_17
            rw [hY.1]
            refine jbm hgo.2.1 (jbf (nI_nle (by omega) (by omega)) (jbn (by rw [h6]; exact fun z => nF (nI_inj (by omega) (by omega) z)) ⟨m + 2, z2 _ K ?_ (m + 2) (by omega)⟩))
            unfold b_X10_ticks_114
            rw [← e78]
            have hy := y2 K hK f (by omega)
            by_cases hx : gS σ1 7 < nI x'
            · rw [if_pos hx] at hy
              exact jbf (Int32.not_le.mpr hx) hy
            · rw [if_neg hx] at hy
              exact jbr (Int32.not_lt.mp hx) hy
    · refine ⟨σ, τ, gS σ 4, fun K hK f hf => ?_, fun K hK f hf => ?_, Rel_of hG hR hlt.2.1 h78 hlt.2.2.2 h67⟩
      · obtain ⟨f, rfl⟩ : ∃ z, f = z + 1 := ⟨f - 1, by omega⟩
        show b_X4_goByTicks_6 (w_X4_goByTicks_6 K f) K σ (nI F) (nI t)
        unfold b_X4_goByTicks_6 w_X4_mayStep
        exact jbf htF (jbn hlt.2.2.1 (jbn hlt.2.2.1 (jbr rfl hK)))
      · obtain ⟨f, rfl⟩ : ∃ z, f = z + 1 := ⟨f - 1, by omega⟩
        show b_X10_ticks_17 (w_X10_ticks_17 K f) K τ (nI F)
        unfold b_X10_ticks_17
        rw [← hlt.2.1]
        exact jbn (by rw [hlt.1]; decide) hK
theorem sim_ticks {nA nW nT F : Nat} {σ τ : St} (hG : RG nA nW nT σ τ) (h0 : gS σ 0 = 1) (hF : F ≤ 4000) :
    ∃ (σ' τ' : St) (v : Int32), (∀ K : Int32 → St → Prop, K v σ' → w_X4_goByTicks σ (nI F) K) ∧ (∀ K : Int32 → St → Prop, K v τ' → w_X10_begins τ (fun u => ∃ n : Nat, w_X10_ticks_17 K n u (nI F))) ∧ (RG nA nW nT σ' τ' ∧ RO nA σ' τ' ∧ Ran nA (fun i => if i < 100 then gL σ 0 i else gL σ 1 (i - 100)) (gA τ 37) σ' τ') := by
  obtain ⟨σ1, τ1, b1, b2, b3⟩ := sim_begin hG h0
  obtain ⟨σ', τ', v, z1, z2, z3⟩ := lp_ticks hF F 0 0 0 _ σ1 τ1 (by omega) (by omega) b3 rfl rfl rfl
  exact ⟨σ', τ', v, fun K hK => b1 _ ⟨F + 3, z1 K hK (F + 3) (by omega)⟩, fun K hK => b2 _ ⟨F + 3, z2 K hK (F + 3) (by omega)⟩, z3⟩
