/-! ===== one step: a ready pair is taken and goes off ===== -/
theorem lp_shift {m : Nat} (hm : m ≤ 3000) {x2 : Int32} : ∀ (d j : Nat) (τ : St), j + d = m → 1 ≤ j → gS τ 14 = nI m →
    ∃ τ' : St, (∀ K : St → Prop, b_X10_stepped_11 (fun _ _ _ => False) K τ' x2 (nI m) → ∀ f, d < f → w_X10_stepped_11 K f τ x2 (nI j)) ∧ (∀ k, gS τ' k = gS τ k) ∧ (∀ k, k ≠ 24 → gA τ' k = gA τ k) ∧ (∀ t, (j ≤ t + 1 ∧ t + 1 < m → gA τ' 24 t = gA τ 24 (t + 1)) ∧ (¬ (j ≤ t + 1 ∧ t + 1 < m) → gA τ' 24 t = gA τ 24 t)) := by
  intro d
  induction d with
  | zero =>
    intro j τ hj h1 h14
    refine ⟨τ, fun K hK f hf => ?_, fun _ => rfl, fun _ _ => rfl, fun t => ⟨fun h => by omega, fun _ => rfl⟩⟩
    obtain ⟨f, rfl⟩ : ∃ z, f = z + 1 := ⟨f - 1, by omega⟩
    have : j = m := by omega
    subst this
    show b_X10_stepped_11 (w_X10_stepped_11 K f) K τ x2 (nI j)
    unfold b_X10_stepped_11 at hK ⊢
    have hle : gS τ 14 ≤ nI j := by rw [h14]; exact nI_le (Nat.le_refl _) (by omega)
    exact jbr hle (hK.1 hle)
  | succ d ih =>
    intro j τ hj h1 h14
    obtain ⟨τ', z1, z2, z3, z4⟩ := ih (j + 1) (sA τ 24 (j - 1) (gA τ 24 j)) (by omega) (by omega) (by simp only [gS_sS, gS_sA, gS_sL, gS_fA, gS_fL, gA_sS, gA_sA, gA_sL, gA_fA, gA_fL, gL_sS, gL_sA, gL_sL, gL_fA, gL_fL, reduceIte, Nat.reduceEqDiff, jupd, jupdL]; exact h14)
    refine ⟨τ', fun K hK f hf => ?_, fun k => ?_, fun k hk => ?_, fun t => ?_⟩
    · obtain ⟨f, rfl⟩ : ∃ z, f = z + 1 := ⟨f - 1, by omega⟩
      show b_X10_stepped_11 (w_X10_stepped_11 K f) K τ x2 (nI j)
      unfold b_X10_stepped_11
      have e : nI j - 1 = nI (j - 1) := by
        obtain ⟨j, rfl⟩ : ∃ z, j = z + 1 := ⟨j - 1, by omega⟩
        rw [nI_pred]
        rfl
      rw [e, nI_clamp (show j < 2 ^ 31 by omega), nI_clamp (show j - 1 < 2 ^ 31 by omega), nI_1]
      exact jbf (by rw [h14]; exact nI_ge (by omega) (by omega)) ⟨vp_in_nI (by omega) (by decide), vp_in_nI (by omega) (by decide), z1 K hK f (by omega)⟩
    · rw [z2 k]; simp only [gS_sA]
    · rw [z3 k hk]; simp only [gA_sA, if_neg hk]
    · obtain ⟨y1, y2⟩ := z4 t
      simp only [gS_sS, gS_sA, gS_sL, gS_fA, gS_fL, gA_sS, gA_sA, gA_sL, gA_fA, gA_fL, gL_sS, gL_sA, gL_sL, gL_fA, gL_fL, reduceIte, Nat.reduceEqDiff, jupd, jupdL] at y1 y2
      constructor
      · intro h
        by_cases e : t + 1 = j
        · have := y2 (by omega)
          rw [if_pos (show t = j - 1 by omega)] at this
          rw [this, e]
        · have := y1 (by omega)
          rw [if_neg (show ¬ t + 1 = j - 1 by omega)] at this
          exact this
      · intro h
        by_cases e : t = j - 1
        · have := y2 (by omega)
          rw [if_pos e] at this
          exact absurd (show j ≤ t + 1 ∧ t + 1 < m by omega) h
        · have := y2 (by omega)
          rw [if_neg e] at this
          exact this
/-- the class takes the i-th ready pair -/
theorem ev_take {nP m hd i : Nat} {σ τ : St} (hY : RY nP m hd σ τ) (hP : nP ≤ 3000) (hi : i < m) :
    ∃ (σ' : St) (hd' p : Nat), (∀ K : Int32 → St → Prop, K (nI p) σ' → w_X5_take σ (nI i) K) ∧ p < nP ∧ gA τ 24 i = nI p ∧ gA τ 17 p = 1 ∧ (∀ k, k ≠ 17 → k ≠ 18 → gS σ' k = gS σ k) ∧ (∀ k, k ≠ 29 → gA σ' k = gA σ k) ∧ (∀ k, gL σ' k = gL σ k) ∧ gS σ' 17 = nI hd' ∧ gS σ' 18 = nI (hd' + (m - 1)) ∧ hd' + (m - 1) ≤ hd + m ∧ (∀ t, t < m - 1 → gA σ' 29 (hd' + t) = gA σ 29 (hd + (if t < i then t else t + 1))) := by
  obtain ⟨g1, g2, g3, g4, g5, g6⟩ := hY
  obtain ⟨p, hp, e1, e2, e3⟩ := g5 i hi
  have hsm := sm_le (f := fun p => if gA τ 17 p = 0 then 0 else 1) (b := 1) (n := nP) (fun i _ => by split <;> omega)
  have hsz : gS σ 18 - gS σ 17 = nI m := by rw [g2, g3, pk_sub (by omega)]; congr 1; omega
  have hadd : nI hd + nI i = nI (hd + i) := nI_add hd i
  by_cases i0 : i = 0
  · subst i0
    refine ⟨sS σ 17 (nI (hd + 1)), hd + 1, p, fun K hK => ?_, hp, e1, e3, fun k k1 k2 => by simp only [gS_sS, if_neg k1], fun k hk => by simp only [gA_sS], fun k => by simp only [gL_sS], by simp only [gS_sS, gS_sA, gS_sL, gS_fA, gS_fL, gA_sS, gA_sA, gA_sL, gA_fA, gA_fL, gL_sS, gL_sA, gL_sL, gL_fA, gL_fL, reduceIte, Nat.reduceEqDiff, jupd, jupdL], ?_, by omega, fun t ht => ?_⟩
    · unfold w_X5_take w_X5_size
      dsimp only
      rw [hsz, g2, hadd, nI_clamp (show hd + 0 < 2 ^ 31 by omega), nI_1 hd, e2]
      exact jbf (by decide) (jbr (nI_lt hi (by omega)) ⟨vp_in_nI (by omega) (by decide), jbm rfl hK⟩)
    · simp only [gS_sS, gS_sA, gS_sL, gS_fA, gS_fL, gA_sS, gA_sA, gA_sL, gA_fA, gA_fL, gL_sS, gL_sA, gL_sL, gL_fA, gL_fL, reduceIte, Nat.reduceEqDiff, jupd, jupdL]; rw [g3]; congr 1; omega
    · simp only [gS_sS, gS_sA, gS_sL, gS_fA, gS_fL, gA_sS, gA_sA, gA_sL, gA_fA, gA_fL, gL_sS, gL_sA, gL_sL, gL_fA, gL_fL, reduceIte, Nat.reduceEqDiff, jupd, jupdL]
      rw [if_neg (by omega)]
      congr 1
      omega
  · refine ⟨sS (fA σ 29 (va_cpy (gA σ 29) (gA σ 29) (hd + i + 1) (hd + i) (m - i - 1))) 18 (nI (hd + (m - 1))), hd, p, fun K hK => ?_, hp, e1, e3, fun k k1 k2 => by simp only [gS_sS, gS_fA, if_neg k2], fun k hk => by simp only [gA_sS, gA_fA, if_neg hk], fun k => by simp only [gL_sS, gL_fA], by simp only [gS_sS, gS_sA, gS_sL, gS_fA, gS_fL, gA_sS, gA_sA, gA_sL, gA_fA, gA_fL, gL_sS, gL_sA, gL_sL, gL_fA, gL_fL, reduceIte, Nat.reduceEqDiff, jupd, jupdL]; exact g2, by simp only [gS_sS, gS_sA, gS_sL, gS_fA, gS_fL, gA_sS, gA_sA, gA_sL, gA_fA, gA_fL, gL_sS, gL_sA, gL_sL, gL_fA, gL_fL, reduceIte, Nat.reduceEqDiff, jupd, jupdL], by omega, fun t ht => ?_⟩
    · unfold w_X5_take w_X5_size
      have hs2 : gS σ 18 - nI (hd + i) - 1 = nI (m - i - 1) := by
        rw [g3, pk_sub (by omega), show hd + m - (hd + i) = m - i - 1 + 1 by omega, nI_pred]
      have hs3 : gS σ 18 - 1 = nI (hd + (m - 1)) := by
        rw [g3, show hd + m = hd + (m - 1) + 1 by omega, nI_pred]
      dsimp only
      rw [hsz, hs3, g2, hadd, hs2, nI_1, nI_clamp (show hd + i < 2 ^ 31 by omega), nI_clamp (show hd + i + 1 < 2 ^ 31 by omega), nI_clamp (show m - i - 1 < 2 ^ 31 by omega), e2]
      exact jbf (nI_pos (by omega)) (jbr (nI_lt hi (by omega)) ⟨vp_in_nI (by omega) (by decide), jbn (nI_ne0 (by omega) (by omega)) ⟨nI_pos (by omega), nI_pos (by omega), nI_pos (by omega), by omega, by omega, hK⟩⟩)
    · simp only [gS_sS, gS_sA, gS_sL, gS_fA, gS_fL, gA_sS, gA_sA, gA_sL, gA_fA, gA_fL, gL_sS, gL_sA, gL_sL, gL_fA, gL_fL, reduceIte, Nat.reduceEqDiff, jupd, jupdL]
      by_cases x : t < i
      · rw [if_pos x, pk_cpy_out (by omega)]
      · rw [if_neg x, pk_cpy_in (by omega) (by omega)]
        congr 1
        omega
theorem sim_step {cx : Cx} {nA nW nT nC nP m hd nR nCe nQ i : Nat} {pr : Nat → Nat} {σ τ : St} (hG : RG nA nW nT σ τ) (hR : RR cx nA nC nP m hd nR nCe nQ pr σ τ) (hgo : Go σ τ) (hi : i < m) :
    ∃ (σ' τ' : St) (hd' : Nat), (∀ K : St → Prop, K σ' → w_X5_take σ (nI i) (fun r u => w_X4_goOff u r K)) ∧ (∀ K : St → Prop, K τ' → w_X10_stepped τ (nI i) K) ∧ Done ⟨fun j => if j = 0 then cx.1 0 + 1 else if j = 4 then nI (m - 1) else cx.1 j, cx.2.1, cx.2.2⟩ nA nW nT hd' σ' τ' := by
  have hP := hR.2.1.1
  have hA := hG.1
  have hY := hR.2.2.2.1
  obtain ⟨σ1, hd', p, c1, hp, e24, e17, c2, c3, c4, c5, c6, c7, c8⟩ := ev_take hY hP hi
  obtain ⟨y1, y2, y3, y4, y5, y6⟩ := hY
  have hsm := sm_le (f := fun p => if gA τ 17 p = 0 then 0 else 1) (b := 1) (n := nP) (fun i _ => by split <;> omega)
  obtain ⟨τ1, d1, d2, d3, d4⟩ := lp_shift (m := m) (by omega) (x2 := nI p) (m - (i + 1)) (i + 1) τ (by omega) (by omega) y1
  obtain ⟨q1, q2, q3, ⟨c, hc, h15⟩, q5, a, q, h, ha, h14, hq, hq1, hq3, hh, hlt, hiff⟩ := hR.2.1.2.2.2.1 p hp
  have hC6 := hR.1.2.1
  have hp3 : p < 3000 := by omega
  have ha8 : a < 80 := by omega
  have hpi : vp_in (nI p) 3000 := vp_in_nI hp3 (by decide)
  have hai : vp_in (nI a) 80 := vp_in_nI ha8 (by decide)
  obtain ⟨-, -, -, k, pp, hk, hk0, hpp, -, hpp3, hjq, -⟩ := hG.2.2.2.2.2.2.2.2.2.1 a ha
  have epp : pp = q := nI_inj (by omega) (by omega) (hpp.symm.trans hq)
  subst epp
  have hf17 : ¬ gA τ 17 p = 0 := by rw [e17]; decide
  -- the new states
  have fS : ∀ j, j ≠ 5 → j ≠ 17 → j ≠ 18 → gS (sA (sS σ1 5 (gS σ1 5 + 1)) 12 a (gA σ1 12 a + 1)) j = gS σ j := fun j h1 h2 h3 => by simp only [gS_sA, gS_sS, if_neg h1]; exact c2 j h2 h3
  have fA' : ∀ j, j ≠ 12 → j ≠ 29 → gA (sA (sS σ1 5 (gS σ1 5 + 1)) 12 a (gA σ1 12 a + 1)) j = gA σ j := fun j h1 h2 => by simp only [gA_sA, gA_sS, if_neg h1]; exact c3 j h2
  have fL' : ∀ j, gL (sA (sS σ1 5 (gS σ1 5 + 1)) 12 a (gA σ1 12 a + 1)) j = gL σ j := fun j => by simp only [gL_sA, gL_sS]; exact c4 j
  have mS : ∀ j, j ≠ 14 → j ≠ 6 → gS (sA (sS (sA (sS τ1 14 (nI (m - 1))) 17 p 2) 6 (gS τ1 6 + 1)) 23 a (gA τ1 23 a + 1)) j = gS τ j := fun j h1 h2 => by simp only [gS_sA, gS_sS, if_neg h1, if_neg h2]; exact d2 j
  have mA : ∀ j, j ≠ 17 → j ≠ 23 → j ≠ 24 → gA (sA (sS (sA (sS τ1 14 (nI (m - 1))) 17 p 2) 6 (gS τ1 6 + 1)) 23 a (gA τ1 23 a + 1)) j = gA τ j := fun j h1 h2 h3 => by simp only [gA_sA, gA_sS, if_neg h1, if_neg h2]; exact d3 j h3
  have m17 : ∀ j, gA (sA (sS (sA (sS τ1 14 (nI (m - 1))) 17 p 2) 6 (gS τ1 6 + 1)) 23 a (gA τ1 23 a + 1)) 17 j = if j = p then 2 else gA τ 17 j := fun j => by simp only [gS_sS, gS_sA, gS_sL, gS_fA, gS_fL, gA_sS, gA_sA, gA_sL, gA_fA, gA_fL, gL_sS, gL_sA, gL_sL, gL_fA, gL_fL, reduceIte, Nat.reduceEqDiff, jupd, jupdL]; rw [d3 17 (by decide)]
  have m24 : gA (sA (sS (sA (sS τ1 14 (nI (m - 1))) 17 p 2) 6 (gS τ1 6 + 1)) 23 a (gA τ1 23 a + 1)) 24 = gA τ1 24 := by simp only [gS_sS, gS_sA, gS_sL, gS_fA, gS_fL, gA_sS, gA_sA, gA_sL, gA_fA, gA_fL, gL_sS, gL_sA, gL_sL, gL_fA, gL_fL, reduceIte, Nat.reduceEqDiff, jupd, jupdL]
  have s17 : gS (sA (sS σ1 5 (gS σ1 5 + 1)) 12 a (gA σ1 12 a + 1)) 17 = nI hd' := by simp only [gS_sS, gS_sA, gS_sL, gS_fA, gS_fL, gA_sS, gA_sA, gA_sL, gA_fA, gA_fL, gL_sS, gL_sA, gL_sL, gL_fA, gL_fL, reduceIte, Nat.reduceEqDiff, jupd, jupdL]; exact c5
  have s18 : gS (sA (sS σ1 5 (gS σ1 5 + 1)) 12 a (gA σ1 12 a + 1)) 18 = nI (hd' + (m - 1)) := by simp only [gS_sS, gS_sA, gS_sL, gS_fA, gS_fL, gA_sS, gA_sA, gA_sL, gA_fA, gA_fL, gL_sS, gL_sA, gL_sL, gL_fA, gL_fL, reduceIte, Nat.reduceEqDiff, jupd, jupdL]; exact c6
  have a29 : gA (sA (sS σ1 5 (gS σ1 5 + 1)) 12 a (gA σ1 12 a + 1)) 29 = gA σ1 29 := by simp only [gS_sS, gS_sA, gS_sL, gS_fA, gS_fL, gA_sS, gA_sA, gA_sL, gA_fA, gA_fL, gL_sS, gL_sA, gL_sL, gL_fA, gL_fL, reduceIte, Nat.reduceEqDiff, jupd, jupdL]
  have s5 : gS (sA (sS σ1 5 (gS σ1 5 + 1)) 12 a (gA σ1 12 a + 1)) 5 = gS σ 5 + 1 := by simp only [gS_sS, gS_sA, gS_sL, gS_fA, gS_fL, gA_sS, gA_sA, gA_sL, gA_fA, gA_fL, gL_sS, gL_sA, gL_sL, gL_fA, gL_fL, reduceIte, Nat.reduceEqDiff, jupd, jupdL]; rw [c2 5 (by decide) (by decide)]
  have t6 : gS (sA (sS (sA (sS τ1 14 (nI (m - 1))) 17 p 2) 6 (gS τ1 6 + 1)) 23 a (gA τ1 23 a + 1)) 6 = gS τ 6 + 1 := by simp only [gS_sS, gS_sA, gS_sL, gS_fA, gS_fL, gA_sS, gA_sA, gA_sL, gA_fA, gA_fL, gL_sS, gL_sA, gL_sL, gL_fA, gL_fL, reduceIte, Nat.reduceEqDiff, jupd, jupdL]; rw [d2 6]
  have t14 : gS (sA (sS (sA (sS τ1 14 (nI (m - 1))) 17 p 2) 6 (gS τ1 6 + 1)) 23 a (gA τ1 23 a + 1)) 14 = nI (m - 1) := by simp only [gS_sS, gS_sA, gS_sL, gS_fA, gS_fL, gA_sS, gA_sA, gA_sL, gA_fA, gA_fL, gL_sS, gL_sA, gL_sL, gL_fA, gL_fL, reduceIte, Nat.reduceEqDiff, jupd, jupdL]
  have a12 : ∀ j, gA (sA (sS σ1 5 (gS σ1 5 + 1)) 12 a (gA σ1 12 a + 1)) 12 j = if j = a then gA σ 12 a + 1 else gA σ 12 j := fun j => by simp only [gS_sS, gS_sA, gS_sL, gS_fA, gS_fL, gA_sS, gA_sA, gA_sL, gA_fA, gA_fL, gL_sS, gL_sA, gL_sL, gL_fA, gL_fL, reduceIte, Nat.reduceEqDiff, jupd, jupdL]; rw [c3 12 (by decide)]
  have m23 : ∀ j, gA (sA (sS (sA (sS τ1 14 (nI (m - 1))) 17 p 2) 6 (gS τ1 6 + 1)) 23 a (gA τ1 23 a + 1)) 23 j = if j = a then gA τ 23 a + 1 else gA τ 23 j := fun j => by simp only [gS_sS, gS_sA, gS_sL, gS_fA, gS_fL, gA_sS, gA_sA, gA_sL, gA_fA, gA_fL, gL_sS, gL_sA, gL_sL, gL_fA, gL_fL, reduceIte, Nat.reduceEqDiff, jupd, jupdL]; rw [d3 23 (by decide)]
  have hM : ∀ K : St → Prop, w_X10_goesOff (sA (sS (sA (sS τ1 14 (nI (m - 1))) 17 p 2) 6 (gS τ1 6 + 1)) 23 a (gA τ1 23 a + 1)) (nI p) (fun _ u => K u) → w_X10_stepped τ (nI i) K := fun K hK => by
    unfold w_X10_stepped
    rw [nI_clamp (show i < 2 ^ 31 by omega), e24, nI_1]
    refine ⟨vp_in_nI (by omega) (by decide), m - (i + 1) + 1, d1 K ?_ _ (by omega)⟩
    unfold b_X10_stepped_11
    rw [d2 14, y1, nI_clamp (show p < 2 ^ 31 by omega), d3 14 (by decide), h14, nI_clamp (show a < 2 ^ 31 by omega)]
    refine jbr (nI_le (Nat.le_refl _) (by omega)) ⟨hpi, hpi, hai, hai, ?_⟩
    obtain ⟨m, rfl⟩ : ∃ z, m = z + 1 := ⟨m - 1, by omega⟩
    rw [nI_pred]
    exact hK
  generalize hs : sA (sS σ1 5 (gS σ1 5 + 1)) 12 a (gA σ1 12 a + 1) = σ2 at *
  generalize ht : sA (sS (sA (sS τ1 14 (nI (m - 1))) 17 p 2) 6 (gS τ1 6 + 1)) 23 a (gA τ1 23 a + 1) = τ2 at *
  have hG2 : RG nA nW nT σ2 τ2 := by
    unfold RG prm wl at hG ⊢
    rw [fS 1 (by decide) (by decide) (by decide), fS 2 (by decide) (by decide) (by decide), fS 3 (by decide) (by decide) (by decide), mS 0 (by decide) (by decide), mS 1 (by decide) (by decide), mS 2 (by decide) (by decide), fA' 0 (by decide) (by decide), fA' 1 (by decide) (by decide), fA' 2 (by decide) (by decide), fA' 3 (by decide) (by decide), fA' 4 (by decide) (by decide), fA' 5 (by decide) (by decide), fA' 6 (by decide) (by decide), fA' 7 (by decide) (by decide), fA' 8 (by decide) (by decide), fA' 9 (by decide) (by decide), fA' 10 (by decide) (by decide), fA' 11 (by decide) (by decide), mA 0 (by decide) (by decide) (by decide), mA 1 (by decide) (by decide) (by decide), mA 2 (by decide) (by decide) (by decide), mA 3 (by decide) (by decide) (by decide), mA 4 (by decide) (by decide) (by decide), mA 5 (by decide) (by decide) (by decide), mA 6 (by decide) (by decide) (by decide), mA 7 (by decide) (by decide) (by decide), mA 8 (by decide) (by decide) (by decide), mA 9 (by decide) (by decide) (by decide)]
    exact hG
  have hgo2 : Go σ2 τ2 := by
    unfold Go at hgo ⊢
    rw [fS 4 (by decide) (by decide) (by decide), fS 10 (by decide) (by decide) (by decide), mS 4 (by decide) (by decide), mS 5 (by decide) (by decide), mS 11 (by decide) (by decide)]
    exact hgo
  have hnz : ∀ j, (gA τ2 17 j = 0) = (gA τ 17 j = 0) := fun j => by
    rw [m17 j]
    by_cases e : j = p
    · rw [if_pos e, e, e17]; exact propext ⟨fun z => absurd z (by decide), fun z => absurd z (by decide)⟩
    · rw [if_neg e]
  obtain ⟨h1, h2, h3, h4, h5, h6, h7, ⟨h8, h9⟩, h10, h11⟩ := hR
  have h2' := h2
  have hvals : ∀ j, j < pp → vr nR (gL σ 4 (3 * p + j)) (gA τ 19 (3 * p + j)) (gA τ 20 (3 * p + j)) (gA τ 21 (3 * p + j)) := fun j hj => vals_of h2 h3 hA hp ha8 h14 hq hq3 hf17 j hj
  have hsq : nQ + 1 ≤ sm (fun p => if gA τ2 17 p = 2 then 1 else 0) nP := by
    have := sm_upd (f := fun j => if gA τ 17 j = 2 then 1 else 0) (g := fun j => if gA τ2 17 j = 2 then 1 else 0) hp (fun j _ hne => by simp only [m17, if_neg hne])
    simp only [m17, reduceIte, e17] at this
    rw [if_neg (show ¬ (1 : Int32) = 2 by decide)] at this
    have h91 := h9.1
    have e2 : sm (fun j => if (if j = p then (2 : Int32) else gA τ 17 j) = 2 then 1 else 0) nP = sm (fun p => if gA τ2 17 p = 2 then 1 else 0) nP := sm_congr (fun j _ => by simp only [m17])
    omega
  have htt : ∀ t, t < m - 1 → gA τ2 24 t = gA τ 24 (if t < i then t else t + 1) := fun t ht => by
    rw [m24]
    by_cases x : t < i
    · rw [if_pos x, (d4 t).2 (by omega)]
    · rw [if_neg x, (d4 t).1 (by omega)]
  have hR2 : RR ⟨fun j => if j = 0 then cx.1 0 + 1 else if j = 4 then nI (m - 1) else cx.1 j, cx.2.1, cx.2.2⟩ nA nC nP (m - 1) hd' nR nCe nQ pr σ2 τ2 := by
    refine ⟨?_, ?_, ?_, ?_, ?_, ?_, ?_, ⟨?_, ?_⟩, ?_, ?_⟩
    · unfold RC at h1 ⊢
      rw [fS 14 (by decide) (by decide) (by decide), mS 12 (by decide) (by decide), fA' 19 (by decide) (by decide), fA' 20 (by decide) (by decide), fA' 21 (by decide) (by decide), fA' 22 (by decide) (by decide), fA' 23 (by decide) (by decide), mA 10 (by decide) (by decide) (by decide), mA 11 (by decide) (by decide) (by decide), mA 12 (by decide) (by decide) (by decide), mA 13 (by decide) (by decide) (by decide)]
      exact h1
    · obtain ⟨z1, z2, z3, hall, z5, z6, z7⟩ := h2
      unfold RP
      rw [fS 16 (by decide) (by decide) (by decide), mS 13 (by decide) (by decide), fA' 24 (by decide) (by decide), fA' 25 (by decide) (by decide), fA' 26 (by decide) (by decide), fA' 27 (by decide) (by decide), fA' 28 (by decide) (by decide), mA 2 (by decide) (by decide) (by decide), mA 14 (by decide) (by decide) (by decide), mA 15 (by decide) (by decide) (by decide), mA 16 (by decide) (by decide) (by decide), mA 18 (by decide) (by decide) (by decide), mA 22 (by decide) (by decide) (by decide)]
      refine ⟨z1, z2, z3, fun p' hp' => ?_, z5, z6, z7⟩
      obtain ⟨x1, x2, x3, x4, x5, a', q', h', x6, x7, x8, x9, x10, x11, x12, x13⟩ := hall p' hp'
      refine ⟨x1, x2, x3, x4, ?_, a', q', h', x6, x7, x8, x9, x10, x11, x12, by rw [hnz]; exact x13⟩
      rw [m17]
      by_cases e : p' = p
      · rw [if_pos e]; exact ⟨2, by decide, rfl⟩
      · rw [if_neg e]; exact x5
    · intro p' h' hp' hh' h8' k' hk' hb'
      rw [mA 16 (by decide) (by decide) (by decide)] at hh'
      rw [fL' 4, mA 19 (by decide) (by decide) (by decide), mA 20 (by decide) (by decide) (by decide), mA 21 (by decide) (by decide) (by decide)]
      exact h3 p' h' hp' hh' h8' k' hk' hb'
    · refine ⟨t14, s17, s18, ?_, fun t ht => ?_, fun t t' ht ht' e => ?_⟩
      · rw [show sm (fun p => if gA τ2 17 p = 0 then 0 else 1) nP = sm (fun p => if gA τ 17 p = 0 then 0 else 1) nP from sm_congr (fun j _ => by simp only [hnz])]
        omega
      · rw [htt t ht, a29, c8 t ht]
        obtain ⟨p', w1, w2, w3, w4⟩ := y5 (if t < i then t else t + 1) (by split <;> omega)
        refine ⟨p', w1, w2, w3, ?_⟩
        have hne : ¬ p' = p := fun e => by
          have := y6 _ i (by split <;> omega) hi (w2.trans (e ▸ e24.symm))
          split at this <;> omega
        rw [m17, if_neg hne]
        exact w4
      · rw [htt t ht, htt t' ht'] at e
        have := y6 _ _ (by split <;> omega) (by split <;> omega) e
        split at this <;> split at this <;> omega
    · unfold RLf at h5 ⊢
      rw [fS 15 (by decide) (by decide) (by decide), h5, mA 16 (by decide) (by decide) (by decide)]
      congr 1
      exact sm_congr (fun j _ => by simp only [hnz])
    · unfold RS at h6 ⊢
      rw [fS 12 (by decide) (by decide) (by decide), fS 13 (by decide) (by decide) (by decide), mS 15 (by decide) (by decide), mS 16 (by decide) (by decide), fA' 13 (by decide) (by decide), fA' 14 (by decide) (by decide), fA' 15 (by decide) (by decide), fL' 3, mA 25 (by decide) (by decide) (by decide), mA 26 (by decide) (by decide) (by decide), mA 27 (by decide) (by decide) (by decide), mA 28 (by decide) (by decide) (by decide), mA 29 (by decide) (by decide) (by decide), mA 30 (by decide) (by decide) (by decide), mA 31 (by decide) (by decide) (by decide)]
      exact h6
    · intro r hr
      obtain ⟨p', w1, w2, w3, w4⟩ := h7 r hr
      rw [mA 27 (by decide) (by decide) (by decide), mA 28 (by decide) (by decide) (by decide), mA 14 (by decide) (by decide) (by decide), mA 15 (by decide) (by decide) (by decide)]
      refine ⟨p', w1, ?_, w3, w4⟩
      rw [m17]
      by_cases e : p' = p
      · rw [if_pos e]
      · rw [if_neg e]; exact w2
    · unfold RDw at h8 ⊢
      rw [mS 17 (by decide) (by decide), fS 11 (by decide) (by decide) (by decide), mA 32 (by decide) (by decide) (by decide)]
      exact h8
    · obtain ⟨w1, w2, w3, w4⟩ := h9
      refine ⟨by omega, fun n hn => ?_, ?_, fun i' hi' => ?_⟩
      · rw [mA 32 (by decide) (by decide) (by decide), mA 33 (by decide) (by decide) (by decide)]
        obtain ⟨x1, p', x2, x3, x4⟩ := w2 n hn
        refine ⟨x1, p', x2, x3, ?_⟩
        rw [m17]
        by_cases e : p' = p
        · rw [if_pos e]
        · rw [if_neg e]; exact x4
      · rw [mA 33 (by decide) (by decide) (by decide)]; exact w3
      · have hrl : rl τ2 nQ i' = rl τ nQ i' := by unfold rl; rw [mA 32 (by decide) (by decide) (by decide), mA 33 (by decide) (by decide) (by decide)]
        rw [hrl, fA' 16 (by decide) (by decide), fA' 17 (by decide) (by decide), fA' 18 (by decide) (by decide), fL' 3]
        exact w4 i' hi'
    · unfold RE at h10 ⊢
      rw [fL' 2, mA 34 (by decide) (by decide) (by decide), mA 35 (by decide) (by decide) (by decide), mA 36 (by decide) (by decide) (by decide)]
      exact h10
    · obtain ⟨k1, k2, k3, k4, k5, k6, k7, k8, k9, k10, k11, k12, k13, k14, k15⟩ := h11
      refine ⟨?_, ?_, ?_, ?_, fun b hb => ?_, fun b hb hb8 => ?_, ?_, ?_, ?_, ?_, ?_, ?_, ?_, ?_, ?_⟩
      · rw [s5, t6, k1]
      · rw [fS 6 (by decide) (by decide) (by decide)]; exact k2
      · rw [fS 8 (by decide) (by decide) (by decide), mS 9 (by decide) (by decide)]; exact k3
      · rw [fS 9 (by decide) (by decide) (by decide), mS 10 (by decide) (by decide)]; exact k4
      · rw [a12, m23, k5 b hb, k5 a ha8]
      · rw [m23, if_neg (show ¬ b = a by omega)]; exact k6 b hb hb8
      · rw [t6, k7]; rfl
      · rw [mS 7 (by decide) (by decide)]; exact k8
      · rw [fS 7 (by decide) (by decide) (by decide)]; exact k9
      · rw [mS 8 (by decide) (by decide)]; exact k10
      · rw [fS 0 (by decide) (by decide) (by decide)]; exact k11
      · rw [mS 3 (by decide) (by decide)]; exact k12
      · rw [t14]; exact nI_le (Nat.le_refl _) (by omega)
      · rw [fL' 0, fL' 1]; exact k14
      · rw [mA 37 (by decide) (by decide) (by decide)]; exact k15
  have hF : Fire ⟨fun j => if j = 0 then cx.1 0 + 1 else if j = 4 then nI (m - 1) else cx.1 j, cx.2.1, cx.2.2⟩ nA nW nT nC nP (m - 1) hd' nR nCe nQ p a c k pp pr σ2 τ2 := by
    refine ⟨hG2, hR2, hgo2, hp, ?_, ?_, ha, hc, ?_, hk, ?_, hq1, hq3, hjq, fun j hj => ?_, ?_, hsq, fun n hn => ?_, fun r hr e1 e2 => ?_⟩
    · rw [mA 14 (by decide) (by decide) (by decide)]; exact h14
    · rw [mA 15 (by decide) (by decide) (by decide)]; exact h15
    · rw [mA 0 (by decide) (by decide) (by decide)]; exact hk0
    · rw [mA 2 (by decide) (by decide) (by decide)]; exact hq
    · rw [fL' 4, mA 19 (by decide) (by decide) (by decide), mA 20 (by decide) (by decide) (by decide), mA 21 (by decide) (by decide) (by decide)]
      exact hvals j hj
    · rw [m17, if_pos rfl]
    · rw [mA 33 (by decide) (by decide) (by decide)]
      obtain ⟨-, p', x2, x3, x4⟩ := h9.2.1 n hn
      intro e
      have : p' = p := nI_inj (by omega) (by omega) (x3.symm.trans e)
      subst this
      rw [e17] at x4
      exact absurd x4 (by decide)
    · rw [mA 27 (by decide) (by decide) (by decide)] at e1
      rw [mA 28 (by decide) (by decide) (by decide)] at e2
      obtain ⟨p', w1, w2, w3, w4⟩ := h7 r hr
      have := h2'.2.2.2.2.1 p' p w1 hp (by rw [w3, e1, h14]) (by rw [w4, e2, h15])
      subst this
      rw [e17] at w2
      exact absurd w2 (by decide)
  obtain ⟨σ', τ', r, z1, z2, z3, z4⟩ := fire_any hF hs.symm
  exact ⟨σ', τ', hd', fun K hK => c1 _ (z1 K hK), fun K hK => hM K (z2 _ hK), z3⟩
