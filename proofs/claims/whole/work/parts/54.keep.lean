/-! ===== the relation stays: a new pair, a token put, a pair ready ===== -/
theorem sm_succ {f g : Nat → Nat} {n : Nat} (h : ∀ i, i < n → g i = f i) : sm g (n + 1) = sm f n + g n := by
  show sm g n + g n = _
  rw [sm_congr h]
theorem selD_succ {P Q : Nat → Bool} {n : Nat} (h : ∀ i, i < n → Q i = P i) : selD Q (n + 1) = if Q n then n :: selD P n else selD P n := by
  show (if Q n then n :: selD Q n else selD Q n) = _
  rw [selD_congr h]
theorem nI_0' {h : Nat} (hh : h < 2 ^ 31) (e : (0 : Int32) = nI h) : h = 0 := (nI_inj (by decide) hh (show nI 0 = nI h from e)).symm
theorem RP_add {nA nC nP a c q : Nat} {σ τ : St} (hR : RP nA nC nP σ τ) (hA : nA ≤ 80) (hC : nC ≤ 600) (hP : nP < 3000) (ha : a < nA) (hc : c < nC) (hq : gA τ 2 a = nI q) (hq1 : 1 ≤ q) (hq3 : q ≤ 3) (hno : ∀ p, p < nP → gA τ 14 p = nI a → ¬ gA τ 15 p = nI c) : RP nA nC (nP + 1) (addC σ a c nP) (addM τ a (nI c) nP) := by
  obtain ⟨-, hs1, hs2, hall, hun, hc1, hc2⟩ := hR
  have e15 : ∀ i, i < nP → ¬ i = nP := fun i hi => by omega
  unfold RP addC addM
  simp only [gS_sS, gS_sA, gS_sL, gS_fA, gS_fL, gA_sS, gA_sA, gA_sL, gA_fA, gA_fL, gL_sS, gL_sA, gL_sL, gL_fA, gL_fL, reduceIte, Nat.reduceEqDiff, jupd, jupdL]
  refine ⟨hP, trivial, trivial, fun p hp => ?_, fun p r hp hr h1 h2 => ?_, fun c' hc' => ?_, fun a' ha' => ?_⟩
  · by_cases e : p = nP
    · subst e
      simp only [reduceIte]
      exact ⟨trivial, trivial, trivial, ⟨c, hc, rfl⟩, ⟨0, by decide, rfl⟩, a, q, 0, ha, rfl, hq, hq1, hq3, rfl, Nat.two_pow_pos q, ⟨fun _ => (by
        have : 2 ^ 1 ≤ 2 ^ q := Nat.pow_le_pow_right (by decide) hq1
        omega), fun _ => trivial⟩⟩
    · simp only [if_neg e]
      exact hall p (by omega)
  · by_cases e1 : p = nP
    · by_cases e2 : r = nP
      · omega
      · rw [if_pos e1, if_neg e2] at h1 h2
        exact absurd h2.symm (hno r (by omega) h1.symm)
    · by_cases e2 : r = nP
      · rw [if_neg e1, if_pos e2] at h1 h2
        exact absurd h2 (hno p (by omega) h1)
      · rw [if_neg e1, if_neg e2] at h1 h2
        exact hun p r (by omega) (by omega) h1 h2
  · have hb : ∀ r, r ∈ selD (fun p => decide (gA τ 15 p = nI c')) nP → r < nP := fun r hr => (mem_selD.mp hr).1
    have hch : Chn (fun j => if j = nP then gA σ 27 c else gA σ 28 j) (gA σ 27 c') (selD (fun p => decide (gA τ 15 p = nI c')) nP) := (hc1 c' hc').congr (fun r hr => if_neg (e15 r (hb r hr)))
    rw [selD_succ (P := fun p => decide (gA τ 15 p = nI c')) (fun i hi => by simp only [if_neg (e15 i hi)])]
    simp only [reduceIte]
    by_cases e : c' = c
    · subst e
      simp only [reduceIte, decide_true]
      exact ⟨rfl, by simp only [jupd, reduceIte]; exact hch.congr (fun r hr => by rw [jupd])⟩
    · have hne : ¬ nI c = nI c' := fun z => e (nI_inj (by omega) (by omega) z).symm
      simp only [hne, if_neg e, decide_false, Bool.false_eq_true, reduceIte]
      exact hch.congr (fun r hr => by rw [jupd])
  · have hb : ∀ r, r ∈ selD (fun p => decide (gA τ 14 p = nI a')) nP → r < nP := fun r hr => (mem_selD.mp hr).1
    have hch : Chn (fun j => if j = nP then gA τ 22 a else gA τ 18 j) (gA τ 22 a') (selD (fun p => decide (gA τ 14 p = nI a')) nP) := (hc2 a' ha').congr (fun r hr => if_neg (e15 r (hb r hr)))
    rw [selD_succ (P := fun p => decide (gA τ 14 p = nI a')) (fun i hi => by simp only [if_neg (e15 i hi)])]
    simp only [reduceIte]
    by_cases e : a' = a
    · subst e
      simp only [reduceIte, decide_true]
      exact ⟨rfl, by simp only [jupd, reduceIte]; exact hch.congr (fun r hr => by rw [jupd])⟩
    · have hne : ¬ nI a = nI a' := fun z => e (nI_inj (by omega) (by omega) z).symm
      simp only [hne, if_neg e, decide_false, Bool.false_eq_true, reduceIte]
      exact hch.congr (fun r hr => by rw [jupd])
theorem RR_add {cx : Cx} {nA nC nP m hd nR nCe nQ a c q : Nat} {pr : Nat → Nat} {σ τ : St} (hR : RR cx nA nC nP m hd nR nCe nQ pr σ τ) (hA : nA ≤ 80) (hP : nP < 3000) (ha : a < nA) (hc : c < nC) (hq : gA τ 2 a = nI q) (hq1 : 1 ≤ q) (hq3 : q ≤ 3) (hno : ∀ p, p < nP → gA τ 14 p = nI a → ¬ gA τ 15 p = nI c) : RR cx nA nC (nP + 1) m hd nR nCe nQ pr (addC σ a c nP) (addM τ a (nI c) nP) := by
  obtain ⟨h1, h2, h3, h4, h5, h6, h7, ⟨h8, h9⟩, h10, h11⟩ := hR
  have e15 : ∀ i, i < nP → ¬ i = nP := fun i hi => by omega
  refine ⟨?_, RP_add h2 hA h1.2.1 hP ha hc hq hq1 hq3 hno, ?_, ?_, ?_, ?_, ?_, ⟨?_, ?_⟩, ?_, ?_⟩
  · simpa only [RC, addC, addM, gS_sS, gS_sA, gS_sL, gS_fA, gS_fL, gA_sS, gA_sA, gA_sL, gA_fA, gA_fL, gL_sS, gL_sA, gL_sL, gL_fA, gL_fL, reduceIte, Nat.reduceEqDiff, jupd, jupdL] using h1
  · intro p h hp hh h8 k hk hb
    simp only [addC, addM, gS_sS, gS_sA, gS_sL, gS_fA, gS_fL, gA_sS, gA_sA, gA_sL, gA_fA, gA_fL, gL_sS, gL_sA, gL_sL, gL_fA, gL_fL, reduceIte, Nat.reduceEqDiff, jupd, jupdL] at hh ⊢
    by_cases e : p = nP
    · rw [if_pos e] at hh
      have := nI_0' (by omega) hh
      subst this
      simp at hb
    · rw [if_neg e] at hh
      exact h3 p h (by omega) hh h8 k hk hb
  · obtain ⟨g1, g2, g3, g4, g5, g6⟩ := h4
    unfold RY addC addM
    simp only [gS_sS, gS_sA, gS_sL, gS_fA, gS_fL, gA_sS, gA_sA, gA_sL, gA_fA, gA_fL, gL_sS, gL_sA, gL_sL, gL_fA, gL_fL, reduceIte, Nat.reduceEqDiff, jupd, jupdL]
    refine ⟨g1, g2, g3, ?_, fun i hi => ?_, g6⟩
    · rw [sm_succ (f := fun p => if gA τ 17 p = 0 then 0 else 1) (fun i hi => by simp only [if_neg (e15 i hi)])]
      omega
    · obtain ⟨p, z1, z2, z3, z4⟩ := g5 i hi
      exact ⟨p, by omega, z2, z3, by rw [if_neg (e15 p z1)]; exact z4⟩
  · unfold RLf addC addM
    simp only [gS_sS, gS_sA, gS_sL, gS_fA, gS_fL, gA_sS, gA_sA, gA_sL, gA_fA, gA_fL, gL_sS, gL_sA, gL_sL, gL_fA, gL_fL, reduceIte, Nat.reduceEqDiff, jupd, jupdL]
    rw [sm_succ (f := fun p => if gA τ 17 p = 0 then pop3 (uv (gA τ 16 p)) else 0) (fun i hi => by simp only [if_neg (e15 i hi)])]
    simp only [reduceIte]
    exact h5
  · simpa only [RS, addC, addM, gS_sS, gS_sA, gS_sL, gS_fA, gS_fL, gA_sS, gA_sA, gA_sL, gA_fA, gA_fL, gL_sS, gL_sA, gL_sL, gL_fA, gL_fL, reduceIte, Nat.reduceEqDiff, jupd, jupdL] using h6
  · intro r hr
    obtain ⟨p, z1, z2, z3, z4⟩ := h7 r hr
    refine ⟨p, by omega, ?_⟩
    simp only [addM, gS_sS, gS_sA, gS_sL, gS_fA, gS_fL, gA_sS, gA_sA, gA_sL, gA_fA, gA_fL, gL_sS, gL_sA, gL_sL, gL_fA, gL_fL, reduceIte, Nat.reduceEqDiff, jupd, jupdL, if_neg (e15 p z1)]
    exact ⟨z2, z3, z4⟩
  · simpa only [RDw, addC, addM, gS_sS, gS_sA, gS_sL, gS_fA, gS_fL, gA_sS, gA_sA, gA_sL, gA_fA, gA_fL, gL_sS, gL_sA, gL_sL, gL_fA, gL_fL, reduceIte, Nat.reduceEqDiff, jupd, jupdL] using h8
  · obtain ⟨g1, g2, g3, g4⟩ := h9
    unfold RD addC addM
    simp only [gS_sS, gS_sA, gS_sL, gS_fA, gS_fL, gA_sS, gA_sA, gA_sL, gA_fA, gA_fL, gL_sS, gL_sA, gL_sL, gL_fA, gL_fL, reduceIte, Nat.reduceEqDiff, jupd, jupdL]
    refine ⟨?_, fun n hn => ?_, g3, ?_⟩
    · rw [sm_succ (f := fun p => if gA τ 17 p = 2 then 1 else 0) (fun i hi => by simp only [if_neg (e15 i hi)])]
      omega
    · obtain ⟨z1, p, z2, z3, z4⟩ := g2 n hn
      exact ⟨z1, p, by omega, z3, by rw [if_neg (e15 p z2)]; exact z4⟩
    · simpa only [rl, gS_sS, gS_sA, gS_sL, gS_fA, gS_fL, gA_sS, gA_sA, gA_sL, gA_fA, gA_fL, gL_sS, gL_sA, gL_sL, gL_fA, gL_fL, reduceIte, Nat.reduceEqDiff, jupd, jupdL] using g4
  · simpa only [RE, addC, addM, gS_sS, gS_sA, gS_sL, gS_fA, gS_fL, gA_sS, gA_sA, gA_sL, gA_fA, gA_fL, gL_sS, gL_sA, gL_sL, gL_fA, gL_fL, reduceIte, Nat.reduceEqDiff, jupd, jupdL] using h10
  · simpa only [RK, addC, addM, gS_sS, gS_sA, gS_sL, gS_fA, gS_fL, gA_sS, gA_sA, gA_sL, gA_fA, gA_fL, gL_sS, gL_sA, gL_sL, gL_fA, gL_fL, reduceIte, Nat.reduceEqDiff, jupd, jupdL] using h11
