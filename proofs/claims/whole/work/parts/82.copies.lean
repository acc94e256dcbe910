/-! ===== the notes are copied ===== -/
/-! the class's notes: row 0 -/
theorem lp86A : ∀ (d j : Nat) (σ : St), j + d = 80 →
    ∃ σ' : St, (∀ K : St → Prop, K σ' → ∀ f, d < f → w_X4_copyFigures_figuresA_86 K f σ (nI j)) ∧ (∀ k, gS σ' k = gS σ k) ∧ (∀ k, gA σ' k = gA σ k) ∧ (∀ k, k ≠ 0 → gL σ' k = gL σ k) ∧ (∀ i, (20 + j ≤ i ∧ i < 100 → gL σ' 0 i = (gA σ 12 (i - 20)).toInt64) ∧ (¬ (20 + j ≤ i ∧ i < 100) → gL σ' 0 i = gL σ 0 i)) := by
  intro d
  induction d with
  | zero =>
    intro j σ hj
    refine ⟨σ, fun K hK f hf => ?_, fun _ => rfl, fun _ => rfl, fun _ _ => rfl, fun i => ⟨fun h => by omega, fun _ => rfl⟩⟩
    obtain ⟨f, rfl⟩ : ∃ z, f = z + 1 := ⟨f - 1, by omega⟩
    show b_X4_copyFigures_figuresA_86 (w_X4_copyFigures_figuresA_86 K f) K σ (nI j)
    unfold b_X4_copyFigures_figuresA_86
    exact jbr (nI_le (a := 80) (by omega) (by omega)) hK
  | succ d ih =>
    intro j σ hj
    obtain ⟨σ', z1, z2, z3, z4, z5⟩ := ih (j + 1) (sL σ 0 (20 + j) (gA σ 12 j).toInt64) (by omega)
    refine ⟨σ', fun K hK f hf => ?_, fun k => ?_, fun k => ?_, fun k hk => ?_, fun i => ?_⟩
    · obtain ⟨f, rfl⟩ : ∃ z, f = z + 1 := ⟨f - 1, by omega⟩
      show b_X4_copyFigures_figuresA_86 (w_X4_copyFigures_figuresA_86 K f) K σ (nI j)
      unfold b_X4_copyFigures_figuresA_86
      rw [show (20 : Int32) + nI j = nI (20 + j) from by rw [show (20 : Int32) = nI 20 from rfl, nI_add], nI_clamp (show j < 2 ^ 31 by omega), nI_clamp (show 20 + j < 2 ^ 31 by omega), nI_1]
      exact jbf (nI_ge (b := 80) (by omega) (by decide)) ⟨vp_in_nI (by omega) (by decide), vp_in_nI (by omega) (by decide), z1 K hK f (by omega)⟩
    · rw [z2 k]; simp only [gS_sL]
    · rw [z3 k]; simp only [gA_sL]
    · rw [z4 k hk]; simp only [gL_sL, if_neg hk]
    · obtain ⟨y1, y2⟩ := z5 i
      simp only [gS_sS, gS_sA, gS_sL, gS_fA, gS_fL, gA_sS, gA_sA, gA_sL, gA_fA, gA_fL, gL_sS, gL_sA, gL_sL, gL_fA, gL_fL, reduceIte, Nat.reduceEqDiff, jupd, jupdL] at y1 y2
      constructor
      · intro h
        by_cases e : i = 20 + j
        · have := y2 (by omega)
          rw [if_pos e] at this
          rw [this, e]
          congr 2
          omega
        · exact y1 (by omega)
      · intro h
        have := y2 (by omega)
        rw [if_neg (show ¬ i = 20 + j by omega)] at this
        exact this
theorem lp56A {nR nCe : Nat} : ∀ (d j : Nat) (σ τ : St), j + d = 10 → RS nR nCe σ τ → RE nR σ τ →
    ∃ σ' : St, (∀ K : St → Prop, (∃ n : Nat, w_X4_copyFigures_figuresA_86 K n σ' 0) → ∀ f, d < f → w_X4_copyFigures_figuresA_56 K f σ (nI j)) ∧ (∀ k, gS σ' k = gS σ k) ∧ (∀ k, gA σ' k = gA σ k) ∧ (∀ k, k ≠ 0 → gL σ' k = gL σ k) ∧ (∀ i, (10 + j ≤ i ∧ i < 20 → gL σ' 0 i = cvl σ (gL σ 2 (i - 10))) ∧ (¬ (10 + j ≤ i ∧ i < 20) → gL σ' 0 i = gL σ 0 i)) := by
  intro d
  induction d with
  | zero =>
    intro j σ τ hj hS hE
    refine ⟨σ, fun K hK f hf => ?_, fun _ => rfl, fun _ => rfl, fun _ _ => rfl, fun i => ⟨fun h => by omega, fun _ => rfl⟩⟩
    obtain ⟨f, rfl⟩ : ∃ z, f = z + 1 := ⟨f - 1, by omega⟩
    show b_X4_copyFigures_figuresA_56 (w_X4_copyFigures_figuresA_56 K f) K σ (nI j)
    unfold b_X4_copyFigures_figuresA_56
    exact jbr (nI_le (a := 10) (by omega) (by omega)) hK
  | succ d ih =>
    intro j σ τ hj hS hE
    obtain ⟨σ', z1, z2, z3, z4, z5⟩ := ih (j + 1) (sL σ 0 (10 + j) (cvl σ (gL σ 2 j))) τ (by omega) (by simpa only [RS, gS_sS, gS_sA, gS_sL, gS_fA, gS_fL, gA_sS, gA_sA, gA_sL, gA_fA, gA_fL, gL_sS, gL_sA, gL_sL, gL_fA, gL_fL, reduceIte, Nat.reduceEqDiff, jupd, jupdL] using hS) (by simpa only [RE, gS_sS, gS_sA, gS_sL, gS_fA, gS_fL, gA_sS, gA_sA, gA_sL, gA_fA, gA_fL, gL_sS, gL_sA, gL_sL, gL_fA, gL_fL, reduceIte, Nat.reduceEqDiff, jupd, jupdL] using hE)
    refine ⟨σ', fun K hK f hf => ?_, fun k => ?_, fun k => ?_, fun k hk => ?_, fun i => ?_⟩
    · obtain ⟨f, rfl⟩ : ∃ z, f = z + 1 := ⟨f - 1, by omega⟩
      show b_X4_copyFigures_figuresA_56 (w_X4_copyFigures_figuresA_56 K f) K σ (nI j)
      unfold b_X4_copyFigures_figuresA_56
      rw [show (10 : Int32) + nI j = nI (10 + j) from by rw [show (10 : Int32) = nI 10 from rfl, nI_add], nI_clamp (show j < 2 ^ 31 by omega), nI_clamp (show 10 + j < 2 ^ 31 by omega), nI_1]
      exact jbf (nI_ge (b := 10) (by omega) (by decide)) ⟨vp_in_nI (by omega) (by decide), ev_cmp hS (hE j (by omega)) ⟨vp_in_nI (by omega) (by decide), z1 K hK f (by omega)⟩⟩
    · rw [z2 k]; simp only [gS_sL]
    · rw [z3 k]; simp only [gA_sL]
    · rw [z4 k hk]; simp only [gL_sL, if_neg hk]
    · obtain ⟨y1, y2⟩ := z5 i
      have ec : ∀ x, cvl (sL σ 0 (10 + j) (cvl σ (gL σ 2 j))) x = cvl σ x := fun x => by unfold cvl; simp only [gS_sS, gS_sA, gS_sL, gS_fA, gS_fL, gA_sS, gA_sA, gA_sL, gA_fA, gA_fL, gL_sS, gL_sA, gL_sL, gL_fA, gL_fL, reduceIte, Nat.reduceEqDiff, jupd, jupdL]
      simp only [gS_sS, gS_sA, gS_sL, gS_fA, gS_fL, gA_sS, gA_sA, gA_sL, gA_fA, gA_fL, gL_sS, gL_sA, gL_sL, gL_fA, gL_fL, reduceIte, Nat.reduceEqDiff, jupd, jupdL] at y2
      constructor
      · intro h
        by_cases e : i = 10 + j
        · have := y2 (by omega)
          rw [if_pos e] at this
          rw [this, e]
          congr 2
          omega
        · have := y1 (by omega)
          rw [ec] at this
          rw [this]
          simp only [gS_sS, gS_sA, gS_sL, gS_fA, gS_fL, gA_sS, gA_sA, gA_sL, gA_fA, gA_fL, gL_sS, gL_sA, gL_sL, gL_fA, gL_fL, reduceIte, Nat.reduceEqDiff, jupd, jupdL]
      · intro h
        have := y2 (by omega)
        rw [if_neg (show ¬ i = 10 + j by omega)] at this
        exact this
theorem notesA {nR nCe : Nat} {σ τ : St} (hS : RS nR nCe σ τ) (hE : RE nR σ τ) :
    ∃ σ' : St, (∀ K : St → Prop, K σ' → w_X4_copyFigures_figuresA σ K) ∧ (∀ k, gS σ' k = gS σ k) ∧ (∀ k, gA σ' k = gA σ k) ∧ (∀ k, k ≠ 0 → gL σ' k = gL σ k) ∧ gL σ' 0 0 = (gS σ 4).toInt64 ∧ gL σ' 0 1 = (gS σ 5).toInt64 ∧ gL σ' 0 2 = (gS σ 15).toInt64 ∧ gL σ' 0 3 = (gS σ 11).toInt64 ∧ gL σ' 0 4 = (gS σ 8).toInt64 ∧ gL σ' 0 5 = (gS σ 9).toInt64 ∧ (∀ i, 6 ≤ i → i < 10 → gL σ' 0 i = gL σ 0 i) ∧ (∀ e, e < 10 → gL σ' 0 (10 + e) = cvl σ (gL σ 2 e)) ∧ (∀ a, a < 80 → gL σ' 0 (20 + a) = (gA σ 12 a).toInt64) := by
  obtain ⟨σ1, a1, a2, a3, a4, a5⟩ := lp56A 10 0 (sL (sL (sL (sL (sL (sL σ 0 0 (gS σ 4).toInt64) 0 1 (gS σ 5).toInt64) 0 2 (gS σ 15).toInt64) 0 3 (gS σ 11).toInt64) 0 4 (gS σ 8).toInt64) 0 5 (gS σ 9).toInt64) τ (by omega) (by simpa only [RS, gS_sS, gS_sA, gS_sL, gS_fA, gS_fL, gA_sS, gA_sA, gA_sL, gA_fA, gA_fL, gL_sS, gL_sA, gL_sL, gL_fA, gL_fL, reduceIte, Nat.reduceEqDiff, jupd, jupdL] using hS) (by simpa only [RE, gS_sS, gS_sA, gS_sL, gS_fA, gS_fL, gA_sS, gA_sA, gA_sL, gA_fA, gA_fL, gL_sS, gL_sA, gL_sL, gL_fA, gL_fL, reduceIte, Nat.reduceEqDiff, jupd, jupdL] using hE)
  obtain ⟨σ2, b1, b2, b3, b4, b5⟩ := lp86A 80 0 σ1 (by omega)
  have lo : ∀ i, i < 10 → gL σ2 0 i = gL (sL (sL (sL (sL (sL (sL σ 0 0 (gS σ 4).toInt64) 0 1 (gS σ 5).toInt64) 0 2 (gS σ 15).toInt64) 0 3 (gS σ 11).toInt64) 0 4 (gS σ 8).toInt64) 0 5 (gS σ 9).toInt64) 0 i := fun i hi => by rw [(b5 i).2 (by omega), (a5 i).2 (by omega)]
  refine ⟨σ2, fun K hK => ⟨11, a1 K ⟨81, b1 K hK 81 (by omega)⟩ 11 (by omega)⟩, fun k => ?_, fun k => ?_, fun k hk => ?_, ?_, ?_, ?_, ?_, ?_, ?_, fun i h1 h2 => ?_, fun e he => ?_, fun a ha => ?_⟩
  · rw [b2, a2]; simp only [gS_sL]
  · rw [b3, a3]; simp only [gA_sL]
  · rw [b4 k hk, a4 k hk]; simp only [gL_sL, if_neg hk]
  · rw [lo 0 (by decide)]; simp only [gS_sS, gS_sA, gS_sL, gS_fA, gS_fL, gA_sS, gA_sA, gA_sL, gA_fA, gA_fL, gL_sS, gL_sA, gL_sL, gL_fA, gL_fL, reduceIte, Nat.reduceEqDiff, jupd, jupdL]
  · rw [lo 1 (by decide)]; simp only [gS_sS, gS_sA, gS_sL, gS_fA, gS_fL, gA_sS, gA_sA, gA_sL, gA_fA, gA_fL, gL_sS, gL_sA, gL_sL, gL_fA, gL_fL, reduceIte, Nat.reduceEqDiff, jupd, jupdL]
  · rw [lo 2 (by decide)]; simp only [gS_sS, gS_sA, gS_sL, gS_fA, gS_fL, gA_sS, gA_sA, gA_sL, gA_fA, gA_fL, gL_sS, gL_sA, gL_sL, gL_fA, gL_fL, reduceIte, Nat.reduceEqDiff, jupd, jupdL]
  · rw [lo 3 (by decide)]; simp only [gS_sS, gS_sA, gS_sL, gS_fA, gS_fL, gA_sS, gA_sA, gA_sL, gA_fA, gA_fL, gL_sS, gL_sA, gL_sL, gL_fA, gL_fL, reduceIte, Nat.reduceEqDiff, jupd, jupdL]
  · rw [lo 4 (by decide)]; simp only [gS_sS, gS_sA, gS_sL, gS_fA, gS_fL, gA_sS, gA_sA, gA_sL, gA_fA, gA_fL, gL_sS, gL_sA, gL_sL, gL_fA, gL_fL, reduceIte, Nat.reduceEqDiff, jupd, jupdL]
  · rw [lo 5 (by decide)]; simp only [gS_sS, gS_sA, gS_sL, gS_fA, gS_fL, gA_sS, gA_sA, gA_sL, gA_fA, gA_fL, gL_sS, gL_sA, gL_sL, gL_fA, gL_fL, reduceIte, Nat.reduceEqDiff, jupd, jupdL]
  · rw [lo i h2]
    simp only [gS_sS, gS_sA, gS_sL, gS_fA, gS_fL, gA_sS, gA_sA, gA_sL, gA_fA, gA_fL, gL_sS, gL_sA, gL_sL, gL_fA, gL_fL, reduceIte, Nat.reduceEqDiff, jupd, jupdL, if_neg (show ¬ i = 0 by omega), if_neg (show ¬ i = 1 by omega), if_neg (show ¬ i = 2 by omega), if_neg (show ¬ i = 3 by omega), if_neg (show ¬ i = 4 by omega), if_neg (show ¬ i = 5 by omega)]
  · rw [(b5 (10 + e)).2 (by omega), (a5 (10 + e)).1 (by omega), show 10 + e - 10 = e by omega]
    unfold cvl
    simp only [gS_sS, gS_sA, gS_sL, gS_fA, gS_fL, gA_sS, gA_sA, gA_sL, gA_fA, gA_fL, gL_sS, gL_sA, gL_sL, gL_fA, gL_fL, reduceIte, Nat.reduceEqDiff, jupd, jupdL]
  · rw [(b5 (20 + a)).1 (by omega), a3, show 20 + a - 20 = a by omega]
    simp only [gS_sS, gS_sA, gS_sL, gS_fA, gS_fL, gA_sS, gA_sA, gA_sL, gA_fA, gA_fL, gL_sS, gL_sA, gL_sL, gL_fA, gL_fL, reduceIte, Nat.reduceEqDiff, jupd, jupdL]
/-! the class's notes: row 1 -/
theorem lp86B : ∀ (d j : Nat) (σ : St), j + d = 80 →
    ∃ σ' : St, (∀ K : St → Prop, K σ' → ∀ f, d < f → w_X4_copyFigures_figuresB_86 K f σ (nI j)) ∧ (∀ k, gS σ' k = gS σ k) ∧ (∀ k, gA σ' k = gA σ k) ∧ (∀ k, k ≠ 1 → gL σ' k = gL σ k) ∧ (∀ i, (20 + j ≤ i ∧ i < 100 → gL σ' 1 i = (gA σ 12 (i - 20)).toInt64) ∧ (¬ (20 + j ≤ i ∧ i < 100) → gL σ' 1 i = gL σ 1 i)) := by
  intro d
  induction d with
  | zero =>
    intro j σ hj
    refine ⟨σ, fun K hK f hf => ?_, fun _ => rfl, fun _ => rfl, fun _ _ => rfl, fun i => ⟨fun h => by omega, fun _ => rfl⟩⟩
    obtain ⟨f, rfl⟩ : ∃ z, f = z + 1 := ⟨f - 1, by omega⟩
    show b_X4_copyFigures_figuresB_86 (w_X4_copyFigures_figuresB_86 K f) K σ (nI j)
    unfold b_X4_copyFigures_figuresB_86
    exact jbr (nI_le (a := 80) (by omega) (by omega)) hK
  | succ d ih =>
    intro j σ hj
    obtain ⟨σ', z1, z2, z3, z4, z5⟩ := ih (j + 1) (sL σ 1 (20 + j) (gA σ 12 j).toInt64) (by omega)
    refine ⟨σ', fun K hK f hf => ?_, fun k => ?_, fun k => ?_, fun k hk => ?_, fun i => ?_⟩
    · obtain ⟨f, rfl⟩ : ∃ z, f = z + 1 := ⟨f - 1, by omega⟩
      show b_X4_copyFigures_figuresB_86 (w_X4_copyFigures_figuresB_86 K f) K σ (nI j)
      unfold b_X4_copyFigures_figuresB_86
      rw [show (20 : Int32) + nI j = nI (20 + j) from by rw [show (20 : Int32) = nI 20 from rfl, nI_add], nI_clamp (show j < 2 ^ 31 by omega), nI_clamp (show 20 + j < 2 ^ 31 by omega), nI_1]
      exact jbf (nI_ge (b := 80) (by omega) (by decide)) ⟨vp_in_nI (by omega) (by decide), vp_in_nI (by omega) (by decide), z1 K hK f (by omega)⟩
    · rw [z2 k]; simp only [gS_sL]
    · rw [z3 k]; simp only [gA_sL]
    · rw [z4 k hk]; simp only [gL_sL, if_neg hk]
    · obtain ⟨y1, y2⟩ := z5 i
      simp only [gS_sS, gS_sA, gS_sL, gS_fA, gS_fL, gA_sS, gA_sA, gA_sL, gA_fA, gA_fL, gL_sS, gL_sA, gL_sL, gL_fA, gL_fL, reduceIte, Nat.reduceEqDiff, jupd, jupdL] at y1 y2
      constructor
      · intro h
        by_cases e : i = 20 + j
        · have := y2 (by omega)
          rw [if_pos e] at this
          rw [this, e]
          congr 2
          omega
        · exact y1 (by omega)
      · intro h
        have := y2 (by omega)
        rw [if_neg (show ¬ i = 20 + j by omega)] at this
        exact this
theorem lp56B {nR nCe : Nat} : ∀ (d j : Nat) (σ τ : St), j + d = 10 → RS nR nCe σ τ → RE nR σ τ →
    ∃ σ' : St, (∀ K : St → Prop, (∃ n : Nat, w_X4_copyFigures_figuresB_86 K n σ' 0) → ∀ f, d < f → w_X4_copyFigures_figuresB_56 K f σ (nI j)) ∧ (∀ k, gS σ' k = gS σ k) ∧ (∀ k, gA σ' k = gA σ k) ∧ (∀ k, k ≠ 1 → gL σ' k = gL σ k) ∧ (∀ i, (10 + j ≤ i ∧ i < 20 → gL σ' 1 i = cvl σ (gL σ 2 (i - 10))) ∧ (¬ (10 + j ≤ i ∧ i < 20) → gL σ' 1 i = gL σ 1 i)) := by
  intro d
  induction d with
  | zero =>
    intro j σ τ hj hS hE
    refine ⟨σ, fun K hK f hf => ?_, fun _ => rfl, fun _ => rfl, fun _ _ => rfl, fun i => ⟨fun h => by omega, fun _ => rfl⟩⟩
    obtain ⟨f, rfl⟩ : ∃ z, f = z + 1 := ⟨f - 1, by omega⟩
    show b_X4_copyFigures_figuresB_56 (w_X4_copyFigures_figuresB_56 K f) K σ (nI j)
    unfold b_X4_copyFigures_figuresB_56
    exact jbr (nI_le (a := 10) (by omega) (by omega)) hK
  | succ d ih =>
    intro j σ τ hj hS hE
    obtain ⟨σ', z1, z2, z3, z4, z5⟩ := ih (j + 1) (sL σ 1 (10 + j) (cvl σ (gL σ 2 j))) τ (by omega) (by simpa only [RS, gS_sS, gS_sA, gS_sL, gS_fA, gS_fL, gA_sS, gA_sA, gA_sL, gA_fA, gA_fL, gL_sS, gL_sA, gL_sL, gL_fA, gL_fL, reduceIte, Nat.reduceEqDiff, jupd, jupdL] using hS) (by simpa only [RE, gS_sS, gS_sA, gS_sL, gS_fA, gS_fL, gA_sS, gA_sA, gA_sL, gA_fA, gA_fL, gL_sS, gL_sA, gL_sL, gL_fA, gL_fL, reduceIte, Nat.reduceEqDiff, jupd, jupdL] using hE)
    refine ⟨σ', fun K hK f hf => ?_, fun k => ?_, fun k => ?_, fun k hk => ?_, fun i => ?_⟩
    · obtain ⟨f, rfl⟩ : ∃ z, f = z + 1 := ⟨f - 1, by omega⟩
      show b_X4_copyFigures_figuresB_56 (w_X4_copyFigures_figuresB_56 K f) K σ (nI j)
      unfold b_X4_copyFigures_figuresB_56
      rw [show (10 : Int32) + nI j = nI (10 + j) from by rw [show (10 : Int32) = nI 10 from rfl, nI_add], nI_clamp (show j < 2 ^ 31 by omega), nI_clamp (show 10 + j < 2 ^ 31 by omega), nI_1]
      exact jbf (nI_ge (b := 10) (by omega) (by decide)) ⟨vp_in_nI (by omega) (by decide), ev_cmp hS (hE j (by omega)) ⟨vp_in_nI (by omega) (by decide), z1 K hK f (by omega)⟩⟩
    · rw [z2 k]; simp only [gS_sL]
    · rw [z3 k]; simp only [gA_sL]
    · rw [z4 k hk]; simp only [gL_sL, if_neg hk]
    · obtain ⟨y1, y2⟩ := z5 i
      have ec : ∀ x, cvl (sL σ 1 (10 + j) (cvl σ (gL σ 2 j))) x = cvl σ x := fun x => by unfold cvl; simp only [gS_sS, gS_sA, gS_sL, gS_fA, gS_fL, gA_sS, gA_sA, gA_sL, gA_fA, gA_fL, gL_sS, gL_sA, gL_sL, gL_fA, gL_fL, reduceIte, Nat.reduceEqDiff, jupd, jupdL]
      simp only [gS_sS, gS_sA, gS_sL, gS_fA, gS_fL, gA_sS, gA_sA, gA_sL, gA_fA, gA_fL, gL_sS, gL_sA, gL_sL, gL_fA, gL_fL, reduceIte, Nat.reduceEqDiff, jupd, jupdL] at y2
      constructor
      · intro h
        by_cases e : i = 10 + j
        · have := y2 (by omega)
          rw [if_pos e] at this
          rw [this, e]
          congr 2
          omega
        · have := y1 (by omega)
          rw [ec] at this
          rw [this]
          simp only [gS_sS, gS_sA, gS_sL, gS_fA, gS_fL, gA_sS, gA_sA, gA_sL, gA_fA, gA_fL, gL_sS, gL_sA, gL_sL, gL_fA, gL_fL, reduceIte, Nat.reduceEqDiff, jupd, jupdL]
      · intro h
        have := y2 (by omega)
        rw [if_neg (show ¬ i = 10 + j by omega)] at this
        exact this
theorem notesB {nR nCe : Nat} {σ τ : St} (hS : RS nR nCe σ τ) (hE : RE nR σ τ) :
    ∃ σ' : St, (∀ K : St → Prop, K σ' → w_X4_copyFigures_figuresB σ K) ∧ (∀ k, gS σ' k = gS σ k) ∧ (∀ k, gA σ' k = gA σ k) ∧ (∀ k, k ≠ 1 → gL σ' k = gL σ k) ∧ gL σ' 1 0 = (gS σ 4).toInt64 ∧ gL σ' 1 1 = (gS σ 5).toInt64 ∧ gL σ' 1 2 = (gS σ 15).toInt64 ∧ gL σ' 1 3 = (gS σ 11).toInt64 ∧ gL σ' 1 4 = (gS σ 8).toInt64 ∧ gL σ' 1 5 = (gS σ 9).toInt64 ∧ (∀ i, 6 ≤ i → i < 10 → gL σ' 1 i = gL σ 1 i) ∧ (∀ e, e < 10 → gL σ' 1 (10 + e) = cvl σ (gL σ 2 e)) ∧ (∀ a, a < 80 → gL σ' 1 (20 + a) = (gA σ 12 a).toInt64) := by
  obtain ⟨σ1, a1, a2, a3, a4, a5⟩ := lp56B 10 0 (sL (sL (sL (sL (sL (sL σ 1 0 (gS σ 4).toInt64) 1 1 (gS σ 5).toInt64) 1 2 (gS σ 15).toInt64) 1 3 (gS σ 11).toInt64) 1 4 (gS σ 8).toInt64) 1 5 (gS σ 9).toInt64) τ (by omega) (by simpa only [RS, gS_sS, gS_sA, gS_sL, gS_fA, gS_fL, gA_sS, gA_sA, gA_sL, gA_fA, gA_fL, gL_sS, gL_sA, gL_sL, gL_fA, gL_fL, reduceIte, Nat.reduceEqDiff, jupd, jupdL] using hS) (by simpa only [RE, gS_sS, gS_sA, gS_sL, gS_fA, gS_fL, gA_sS, gA_sA, gA_sL, gA_fA, gA_fL, gL_sS, gL_sA, gL_sL, gL_fA, gL_fL, reduceIte, Nat.reduceEqDiff, jupd, jupdL] using hE)
  obtain ⟨σ2, b1, b2, b3, b4, b5⟩ := lp86B 80 0 σ1 (by omega)
  have lo : ∀ i, i < 10 → gL σ2 1 i = gL (sL (sL (sL (sL (sL (sL σ 1 0 (gS σ 4).toInt64) 1 1 (gS σ 5).toInt64) 1 2 (gS σ 15).toInt64) 1 3 (gS σ 11).toInt64) 1 4 (gS σ 8).toInt64) 1 5 (gS σ 9).toInt64) 1 i := fun i hi => by rw [(b5 i).2 (by omega), (a5 i).2 (by omega)]
  refine ⟨σ2, fun K hK => ⟨11, a1 K ⟨81, b1 K hK 81 (by omega)⟩ 11 (by omega)⟩, fun k => ?_, fun k => ?_, fun k hk => ?_, ?_, ?_, ?_, ?_, ?_, ?_, fun i h1 h2 => ?_, fun e he => ?_, fun a ha => ?_⟩
  · rw [b2, a2]; simp only [gS_sL]
  · rw [b3, a3]; simp only [gA_sL]
  · rw [b4 k hk, a4 k hk]; simp only [gL_sL, if_neg hk]
  · rw [lo 0 (by decide)]; simp only [gS_sS, gS_sA, gS_sL, gS_fA, gS_fL, gA_sS, gA_sA, gA_sL, gA_fA, gA_fL, gL_sS, gL_sA, gL_sL, gL_fA, gL_fL, reduceIte, Nat.reduceEqDiff, jupd, jupdL]
  · rw [lo 1 (by decide)]; simp only [gS_sS, gS_sA, gS_sL, gS_fA, gS_fL, gA_sS, gA_sA, gA_sL, gA_fA, gA_fL, gL_sS, gL_sA, gL_sL, gL_fA, gL_fL, reduceIte, Nat.reduceEqDiff, jupd, jupdL]
  · rw [lo 2 (by decide)]; simp only [gS_sS, gS_sA, gS_sL, gS_fA, gS_fL, gA_sS, gA_sA, gA_sL, gA_fA, gA_fL, gL_sS, gL_sA, gL_sL, gL_fA, gL_fL, reduceIte, Nat.reduceEqDiff, jupd, jupdL]
  · rw [lo 3 (by decide)]; simp only [gS_sS, gS_sA, gS_sL, gS_fA, gS_fL, gA_sS, gA_sA, gA_sL, gA_fA, gA_fL, gL_sS, gL_sA, gL_sL, gL_fA, gL_fL, reduceIte, Nat.reduceEqDiff, jupd, jupdL]
  · rw [lo 4 (by decide)]; simp only [gS_sS, gS_sA, gS_sL, gS_fA, gS_fL, gA_sS, gA_sA, gA_sL, gA_fA, gA_fL, gL_sS, gL_sA, gL_sL, gL_fA, gL_fL, reduceIte, Nat.reduceEqDiff, jupd, jupdL]
  · rw [lo 5 (by decide)]; simp only [gS_sS, gS_sA, gS_sL, gS_fA, gS_fL, gA_sS, gA_sA, gA_sL, gA_fA, gA_fL, gL_sS, gL_sA, gL_sL, gL_fA, gL_fL, reduceIte, Nat.reduceEqDiff, jupd, jupdL]
  · rw [lo i h2]
    simp only [gS_sS, gS_sA, gS_sL, gS_fA, gS_fL, gA_sS, gA_sA, gA_sL, gA_fA, gA_fL, gL_sS, gL_sA, gL_sL, gL_fA, gL_fL, reduceIte, Nat.reduceEqDiff, jupd, jupdL, if_neg (show ¬ i = 0 by omega), if_neg (show ¬ i = 1 by omega), if_neg (show ¬ i = 2 by omega), if_neg (show ¬ i = 3 by omega), if_neg (show ¬ i = 4 by omega), if_neg (show ¬ i = 5 by omega)]
  · rw [(b5 (10 + e)).2 (by omega), (a5 (10 + e)).1 (by omega), show 10 + e - 10 = e by omega]
    unfold cvl
    simp only [gS_sS, gS_sA, gS_sL, gS_fA, gS_fL, gA_sS, gA_sA, gA_sL, gA_fA, gA_fL, gL_sS, gL_sA, gL_sL, gL_fA, gL_fL, reduceIte, Nat.reduceEqDiff, jupd, jupdL]
  · rw [(b5 (20 + a)).1 (by omega), a3, show 20 + a - 20 = a by omega]
    simp only [gS_sS, gS_sA, gS_sL, gS_fA, gS_fL, gA_sS, gA_sA, gA_sL, gA_fA, gA_fL, gL_sS, gL_sA, gL_sL, gL_fA, gL_fL, reduceIte, Nat.reduceEqDiff, jupd, jupdL]
/-! the reference's notes: row 37 -/
theorem lp87was : ∀ (d j : Nat) (τ : St), j + d = 80 →
    ∃ τ' : St, (∀ K : St → Prop, K τ' → ∀ f, d < f → w_X10_notes_was_87 K f τ (nI j)) ∧ (∀ k, gS τ' k = gS τ k) ∧ (∀ k, k ≠ 37 → gA τ' k = gA τ k) ∧ (∀ i, (36 + j ≤ i ∧ i < 116 → gA τ' 37 i = gA τ 23 (i - 36)) ∧ (¬ (36 + j ≤ i ∧ i < 116) → gA τ' 37 i = gA τ 37 i)) := by
  intro d
  induction d with
  | zero =>
    intro j τ hj
    refine ⟨τ, fun K hK f hf => ?_, fun _ => rfl, fun _ _ => rfl, fun i => ⟨fun h => by omega, fun _ => rfl⟩⟩
    obtain ⟨f, rfl⟩ : ∃ z, f = z + 1 := ⟨f - 1, by omega⟩
    show b_X10_notes_was_87 (w_X10_notes_was_87 K f) K τ (nI j)
    unfold b_X10_notes_was_87
    exact jbr (nI_le (a := 80) (by omega) (by omega)) hK
  | succ d ih =>
    intro j τ hj
    obtain ⟨τ', z1, z2, z3, z4⟩ := ih (j + 1) (sA τ 37 (36 + j) (gA τ 23 j)) (by omega)
    refine ⟨τ', fun K hK f hf => ?_, fun k => ?_, fun k hk => ?_, fun i => ?_⟩
    · obtain ⟨f, rfl⟩ : ∃ z, f = z + 1 := ⟨f - 1, by omega⟩
      show b_X10_notes_was_87 (w_X10_notes_was_87 K f) K τ (nI j)
      unfold b_X10_notes_was_87
      rw [show (36 : Int32) + nI j = nI (36 + j) from by rw [show (36 : Int32) = nI 36 from rfl, nI_add], nI_clamp (show j < 2 ^ 31 by omega), nI_clamp (show 36 + j < 2 ^ 31 by omega), nI_1]
      exact jbf (nI_ge (b := 80) (by omega) (by decide)) ⟨vp_in_nI (by omega) (by decide), vp_in_nI (by omega) (by decide), z1 K hK f (by omega)⟩
    · rw [z2 k]; simp only [gS_sA]
    · rw [z3 k hk]; simp only [gA_sA, if_neg hk]
    · obtain ⟨y1, y2⟩ := z4 i
      simp only [gS_sS, gS_sA, gS_sL, gS_fA, gS_fL, gA_sS, gA_sA, gA_sL, gA_fA, gA_fL, gL_sS, gL_sA, gL_sL, gL_fA, gL_fL, reduceIte, Nat.reduceEqDiff, jupd, jupdL] at y1 y2
      constructor
      · intro h
        by_cases e : i = 36 + j
        · have := y2 (by omega)
          rw [if_pos e] at this
          rw [this, e]
          congr 1
          omega
        · exact y1 (by omega)
      · intro h
        have := y2 (by omega)
        rw [if_neg (show ¬ i = 36 + j by omega)] at this
        exact this
theorem lp52was {nR nCe e : Nat} (he : e < 10) : ∀ (d j : Nat) (σ τ : St), j + d = 3 → RS nR nCe σ τ → RE nR σ τ → gS τ 3 = 1 →
    ∃ τ' : St, (∀ (L : St → Int32 → Prop) (K : St → Prop), L τ' (nI (e + 1)) → ∀ f, d < f → w_X10_notes_was_52 L K f τ (nI e) (nI j)) ∧ (∀ k, gS τ' k = gS τ k) ∧ (∀ k, k ≠ 37 → gA τ' k = gA τ k) ∧ (∀ i, (6 + 3 * e + j ≤ i ∧ i < 6 + 3 * e + 3 → gA τ' 37 i = tl τ e (i - 6 - 3 * e)) ∧ (¬ (6 + 3 * e + j ≤ i ∧ i < 6 + 3 * e + 3) → gA τ' 37 i = gA τ 37 i)) := by
  intro d
  induction d with
  | zero =>
    intro j σ τ hj hS hE h3
    refine ⟨τ, fun L K hK f hf => ?_, fun _ => rfl, fun _ _ => rfl, fun i => ⟨fun h => by omega, fun _ => rfl⟩⟩
    obtain ⟨f, rfl⟩ : ∃ z, f = z + 1 := ⟨f - 1, by omega⟩
    show b_X10_notes_was_52 L (w_X10_notes_was_52 L K f) K τ (nI e) (nI j)
    unfold b_X10_notes_was_52
    rw [nI_1]
    exact jbr (nI_le (a := 3) (by omega) (by omega)) hK
  | succ d ih =>
    intro j σ τ hj hS hE h3
    obtain ⟨τ', z1, z2, z3, z4⟩ := ih (j + 1) σ (sA τ 37 (6 + 3 * e + j) (tl τ e j)) (by omega) (by simpa only [RS, gS_sS, gS_sA, gS_sL, gS_fA, gS_fL, gA_sS, gA_sA, gA_sL, gA_fA, gA_fL, gL_sS, gL_sA, gL_sL, gL_fA, gL_fL, reduceIte, Nat.reduceEqDiff, jupd, jupdL] using hS) (by simpa only [RE, gS_sS, gS_sA, gS_sL, gS_fA, gS_fL, gA_sS, gA_sA, gA_sL, gA_fA, gA_fL, gL_sS, gL_sA, gL_sL, gL_fA, gL_fL, reduceIte, Nat.reduceEqDiff, jupd, jupdL] using hE) (by simp only [gS_sS, gS_sA, gS_sL, gS_fA, gS_fL, gA_sS, gA_sA, gA_sL, gA_fA, gA_fL, gL_sS, gL_sA, gL_sL, gL_fA, gL_fL, reduceIte, Nat.reduceEqDiff, jupd, jupdL]; exact h3)
    refine ⟨τ', fun L K hK f hf => ?_, fun k => ?_, fun k hk => ?_, fun i => ?_⟩
    · obtain ⟨f, rfl⟩ : ∃ z, f = z + 1 := ⟨f - 1, by omega⟩
      show b_X10_notes_was_52 L (w_X10_notes_was_52 L K f) K τ (nI e) (nI j)
      unfold b_X10_notes_was_52
      rw [show (6 : Int32) + 3 * nI e + nI j = nI (6 + 3 * e + j) from by rw [show (6 : Int32) = nI 6 from rfl, show (3 : Int32) = nI 3 from rfl, pk_mul, nI_add, nI_add], nI_clamp (show 6 + 3 * e + j < 2 ^ 31 by omega), nI_1 j]
      exact jbf (nI_ge (b := 3) (by omega) (by decide)) (ev_end hS hE h3 he (by omega) ⟨vp_in_nI (by omega) (by decide), z1 L K hK f (by omega)⟩)
    · rw [z2 k]; simp only [gS_sA]
    · rw [z3 k hk]; simp only [gA_sA, if_neg hk]
    · obtain ⟨y1, y2⟩ := z4 i
      have ec : ∀ x y, tl (sA τ 37 (6 + 3 * e + j) (tl τ e j)) x y = tl τ x y := fun x y => by unfold tl tv; simp only [gS_sS, gS_sA, gS_sL, gS_fA, gS_fL, gA_sS, gA_sA, gA_sL, gA_fA, gA_fL, gL_sS, gL_sA, gL_sL, gL_fA, gL_fL, reduceIte, Nat.reduceEqDiff, jupd, jupdL]
      rw [ec] at y1
      simp only [gS_sS, gS_sA, gS_sL, gS_fA, gS_fL, gA_sS, gA_sA, gA_sL, gA_fA, gA_fL, gL_sS, gL_sA, gL_sL, gL_fA, gL_fL, reduceIte, Nat.reduceEqDiff, jupd, jupdL] at y2
      constructor
      · intro h
        by_cases q : i = 6 + 3 * e + j
        · have := y2 (by omega)
          rw [if_pos q] at this
          rw [this, q]
          congr 1
          omega
        · exact y1 (by omega)
      · intro h
        have := y2 (by omega)
        rw [if_neg (show ¬ i = 6 + 3 * e + j by omega)] at this
        exact this
theorem lp44was {nR nCe : Nat} : ∀ (d e : Nat) (σ τ : St), e + d = 10 → RS nR nCe σ τ → RE nR σ τ → gS τ 3 = 1 →
    ∃ τ' : St, (∀ K : St → Prop, (∃ n : Nat, w_X10_notes_was_87 K n τ' 0) → ∀ f, d < f → w_X10_notes_was_44 K f τ (nI e)) ∧ (∀ k, gS τ' k = gS τ k) ∧ (∀ k, k ≠ 37 → gA τ' k = gA τ k) ∧ (∀ e' j, e ≤ e' → e' < 10 → j < 3 → gA τ' 37 (6 + 3 * e' + j) = tl τ e' j) ∧ (∀ i, ¬ (6 + 3 * e ≤ i ∧ i < 36) → gA τ' 37 i = gA τ 37 i) := by
  intro d
  induction d with
  | zero =>
    intro e σ τ he hS hE h3
    refine ⟨τ, fun K hK f hf => ?_, fun _ => rfl, fun _ _ => rfl, fun e' j h1 h2 => by omega, fun i _ => rfl⟩
    obtain ⟨f, rfl⟩ : ∃ z, f = z + 1 := ⟨f - 1, by omega⟩
    show b_X10_notes_was_44 (w_X10_notes_was_44 K f) K τ (nI e)
    unfold b_X10_notes_was_44
    exact jbr (nI_le (a := 10) (by omega) (by omega)) hK
  | succ d ih =>
    intro e σ τ he hS hE h3
    obtain ⟨τ1, a1, a2, a3, a4⟩ := lp52was (nR := nR) (nCe := nCe) (show e < 10 by omega) 3 0 σ τ (by omega) hS hE h3
    have hS1 : RS nR nCe σ τ1 := by
      unfold RS at hS ⊢
      rw [a2, a2, a3 25 (by decide), a3 26 (by decide), a3 27 (by decide), a3 28 (by decide), a3 29 (by decide), a3 30 (by decide), a3 31 (by decide)]
      exact hS
    have hE1 : RE nR σ τ1 := by
      unfold RE at hE ⊢
      rw [a3 34 (by decide), a3 35 (by decide), a3 36 (by decide)]
      exact hE
    obtain ⟨τ', z1, z2, z3, z4, z5⟩ := ih (e + 1) σ τ1 (by omega) hS1 hE1 (by rw [a2]; exact h3)
    have ec : ∀ x y, tl τ1 x y = tl τ x y := fun x y => by
      unfold tl tv
      rw [a3 34 (by decide), a3 35 (by decide), a3 36 (by decide), a3 26 (by decide)]
    refine ⟨τ', fun K hK f hf => ?_, fun k => ?_, fun k hk => ?_, fun e' j h1 h2 hj => ?_, fun i hi => ?_⟩
    · obtain ⟨f, rfl⟩ : ∃ z, f = z + 1 := ⟨f - 1, by omega⟩
      show b_X10_notes_was_44 (w_X10_notes_was_44 K f) K τ (nI e)
      unfold b_X10_notes_was_44
      exact jbf (nI_ge (b := 10) (by omega) (by decide)) ⟨4, a1 _ K (z1 K hK f (by omega)) 4 (by omega)⟩
    · rw [z2, a2]
    · rw [z3 k hk, a3 k hk]
    · by_cases q : e' = e
      · subst q
        rw [z5 _ (by omega), (a4 _).1 (by omega)]
        congr 1
        omega
      · rw [z4 e' j (by omega) h2 hj, ec]
    · rw [z5 i (by omega), (a4 i).2 (by omega)]
theorem notes_was {nP nR nCe nQ : Nat} {σ τ : St} (hP : nP ≤ 3000) (h13 : gS τ 13 = nI nP) (h16 : ∀ p, p < nP → isN (gA τ 16 p) 8) (hL : RLf nP σ τ) (hS : RS nR nCe σ τ) (hQ : RDw nQ σ τ) (hE : RE nR σ τ) (h3 : gS τ 3 = 1) :
    ∃ τ' : St, (∀ K : St → Prop, K τ' → w_X10_notes_was τ K) ∧ (∀ k, gS τ' k = gS τ k) ∧ (∀ k, k ≠ 37 → gA τ' k = gA τ k) ∧ gA τ' 37 0 = gS τ 5 ∧ gA τ' 37 1 = gS τ 6 ∧ gA τ' 37 2 = gS σ 15 ∧ gA τ' 37 3 = gS σ 11 ∧ gA τ' 37 4 = gS τ 9 ∧ gA τ' 37 5 = gS τ 10 ∧ (∀ e j, e < 10 → j < 3 → gA τ' 37 (6 + 3 * e + j) = tl τ e j) ∧ (∀ a, a < 80 → gA τ' 37 (36 + a) = gA τ 23 a) := by
  obtain ⟨τ1, a1, a2, a3, a4, a5⟩ := lp44was (nR := nR) (nCe := nCe) 10 0 σ (sA (sA (sA (sA (sA (sA τ 37 0 (gS τ 5)) 37 1 (gS τ 6)) 37 2 (gS σ 15)) 37 3 (gS σ 11)) 37 4 (gS τ 9)) 37 5 (gS τ 10)) (by omega) (by simpa only [RS, gS_sS, gS_sA, gS_sL, gS_fA, gS_fL, gA_sS, gA_sA, gA_sL, gA_fA, gA_fL, gL_sS, gL_sA, gL_sL, gL_fA, gL_fL, reduceIte, Nat.reduceEqDiff, jupd, jupdL] using hS) (by simpa only [RE, gS_sS, gS_sA, gS_sL, gS_fA, gS_fL, gA_sS, gA_sA, gA_sL, gA_fA, gA_fL, gL_sS, gL_sA, gL_sL, gL_fA, gL_fL, reduceIte, Nat.reduceEqDiff, jupd, jupdL] using hE) (by simp only [gS_sS, gS_sA, gS_sL, gS_fA, gS_fL, gA_sS, gA_sA, gA_sL, gA_fA, gA_fL, gL_sS, gL_sA, gL_sL, gL_fA, gL_fL, reduceIte, Nat.reduceEqDiff, jupd, jupdL]; exact h3)
  obtain ⟨τ2, b1, b2, b3, b4⟩ := lp87was 80 0 τ1 (by omega)
  have lo : ∀ i, i < 6 → gA τ2 37 i = gA (sA (sA (sA (sA (sA (sA τ 37 0 (gS τ 5)) 37 1 (gS τ 6)) 37 2 (gS σ 15)) 37 3 (gS σ 11)) 37 4 (gS τ 9)) 37 5 (gS τ 10)) 37 i := fun i hi => by rw [(b4 i).2 (by omega), a5 i (by omega)]
  refine ⟨τ2, fun K hK => ?_, fun k => ?_, fun k hk => ?_, ?_, ?_, ?_, ?_, ?_, ?_, fun e j he hj => ?_, fun a ha => ?_⟩
  · unfold w_X10_notes_was
    refine ev_left (σ := σ) hP (by simp only [gS_sS, gS_sA, gS_sL, gS_fA, gS_fL, gA_sS, gA_sA, gA_sL, gA_fA, gA_fL, gL_sS, gL_sA, gL_sL, gL_fA, gL_fL, reduceIte, Nat.reduceEqDiff, jupd, jupdL]; exact h13) (by simp only [gS_sS, gS_sA, gS_sL, gS_fA, gS_fL, gA_sS, gA_sA, gA_sL, gA_fA, gA_fL, gL_sS, gL_sA, gL_sL, gL_fA, gL_fL, reduceIte, Nat.reduceEqDiff, jupd, jupdL]; exact h16) (by simpa only [RLf, gS_sS, gS_sA, gS_sL, gS_fA, gS_fL, gA_sS, gA_sA, gA_sL, gA_fA, gA_fL, gL_sS, gL_sA, gL_sL, gL_fA, gL_fL, reduceIte, Nat.reduceEqDiff, jupd, jupdL] using hL) ?_
    refine ev_wait (nQ := nQ) (σ := σ) (by simpa only [RDw, gS_sS, gS_sA, gS_sL, gS_fA, gS_fL, gA_sS, gA_sA, gA_sL, gA_fA, gA_fL, gL_sS, gL_sA, gL_sL, gL_fA, gL_fL, reduceIte, Nat.reduceEqDiff, jupd, jupdL] using hQ) ⟨11, ?_⟩
    have := a1 K ⟨81, b1 K hK 81 (by omega)⟩ 11 (by omega)
    simp only [gS_sA]
    exact this
  · rw [b2, a2]; simp only [gS_sA]
  · rw [b3 k hk, a3 k hk]; simp only [gA_sA, if_neg hk]
  · rw [lo 0 (by decide)]; simp only [gS_sS, gS_sA, gS_sL, gS_fA, gS_fL, gA_sS, gA_sA, gA_sL, gA_fA, gA_fL, gL_sS, gL_sA, gL_sL, gL_fA, gL_fL, reduceIte, Nat.reduceEqDiff, jupd, jupdL]
  · rw [lo 1 (by decide)]; simp only [gS_sS, gS_sA, gS_sL, gS_fA, gS_fL, gA_sS, gA_sA, gA_sL, gA_fA, gA_fL, gL_sS, gL_sA, gL_sL, gL_fA, gL_fL, reduceIte, Nat.reduceEqDiff, jupd, jupdL]
  · rw [lo 2 (by decide)]; simp only [gS_sS, gS_sA, gS_sL, gS_fA, gS_fL, gA_sS, gA_sA, gA_sL, gA_fA, gA_fL, gL_sS, gL_sA, gL_sL, gL_fA, gL_fL, reduceIte, Nat.reduceEqDiff, jupd, jupdL]
  · rw [lo 3 (by decide)]; simp only [gS_sS, gS_sA, gS_sL, gS_fA, gS_fL, gA_sS, gA_sA, gA_sL, gA_fA, gA_fL, gL_sS, gL_sA, gL_sL, gL_fA, gL_fL, reduceIte, Nat.reduceEqDiff, jupd, jupdL]
  · rw [lo 4 (by decide)]; simp only [gS_sS, gS_sA, gS_sL, gS_fA, gS_fL, gA_sS, gA_sA, gA_sL, gA_fA, gA_fL, gL_sS, gL_sA, gL_sL, gL_fA, gL_fL, reduceIte, Nat.reduceEqDiff, jupd, jupdL]
  · rw [lo 5 (by decide)]; simp only [gS_sS, gS_sA, gS_sL, gS_fA, gS_fL, gA_sS, gA_sA, gA_sL, gA_fA, gA_fL, gL_sS, gL_sA, gL_sL, gL_fA, gL_fL, reduceIte, Nat.reduceEqDiff, jupd, jupdL]
  · rw [(b4 _).2 (by omega), a4 e j (by omega) he hj]
    unfold tl tv
    simp only [gS_sS, gS_sA, gS_sL, gS_fA, gS_fL, gA_sS, gA_sA, gA_sL, gA_fA, gA_fL, gL_sS, gL_sA, gL_sL, gL_fA, gL_fL, reduceIte, Nat.reduceEqDiff, jupd, jupdL]
  · rw [(b4 _).1 (by omega), a3 23 (by decide), show 36 + a - 36 = a by omega]
    simp only [gS_sS, gS_sA, gS_sL, gS_fA, gS_fL, gA_sS, gA_sA, gA_sL, gA_fA, gA_fL, gL_sS, gL_sA, gL_sL, gL_fA, gL_fL, reduceIte, Nat.reduceEqDiff, jupd, jupdL]
/-! the reference's notes: row 38 -/
theorem lp87is : ∀ (d j : Nat) (τ : St), j + d = 80 →
    ∃ τ' : St, (∀ K : St → Prop, K τ' → ∀ f, d < f → w_X10_notes_is_87 K f τ (nI j)) ∧ (∀ k, gS τ' k = gS τ k) ∧ (∀ k, k ≠ 38 → gA τ' k = gA τ k) ∧ (∀ i, (36 + j ≤ i ∧ i < 116 → gA τ' 38 i = gA τ 23 (i - 36)) ∧ (¬ (36 + j ≤ i ∧ i < 116) → gA τ' 38 i = gA τ 38 i)) := by
  intro d
  induction d with
  | zero =>
    intro j τ hj
    refine ⟨τ, fun K hK f hf => ?_, fun _ => rfl, fun _ _ => rfl, fun i => ⟨fun h => by omega, fun _ => rfl⟩⟩
    obtain ⟨f, rfl⟩ : ∃ z, f = z + 1 := ⟨f - 1, by omega⟩
    show b_X10_notes_is_87 (w_X10_notes_is_87 K f) K τ (nI j)
    unfold b_X10_notes_is_87
    exact jbr (nI_le (a := 80) (by omega) (by omega)) hK
  | succ d ih =>
    intro j τ hj
    obtain ⟨τ', z1, z2, z3, z4⟩ := ih (j + 1) (sA τ 38 (36 + j) (gA τ 23 j)) (by omega)
    refine ⟨τ', fun K hK f hf => ?_, fun k => ?_, fun k hk => ?_, fun i => ?_⟩
    · obtain ⟨f, rfl⟩ : ∃ z, f = z + 1 := ⟨f - 1, by omega⟩
      show b_X10_notes_is_87 (w_X10_notes_is_87 K f) K τ (nI j)
      unfold b_X10_notes_is_87
      rw [show (36 : Int32) + nI j = nI (36 + j) from by rw [show (36 : Int32) = nI 36 from rfl, nI_add], nI_clamp (show j < 2 ^ 31 by omega), nI_clamp (show 36 + j < 2 ^ 31 by omega), nI_1]
      exact jbf (nI_ge (b := 80) (by omega) (by decide)) ⟨vp_in_nI (by omega) (by decide), vp_in_nI (by omega) (by decide), z1 K hK f (by omega)⟩
    · rw [z2 k]; simp only [gS_sA]
    · rw [z3 k hk]; simp only [gA_sA, if_neg hk]
    · obtain ⟨y1, y2⟩ := z4 i
      simp only [gS_sS, gS_sA, gS_sL, gS_fA, gS_fL, gA_sS, gA_sA, gA_sL, gA_fA, gA_fL, gL_sS, gL_sA, gL_sL, gL_fA, gL_fL, reduceIte, Nat.reduceEqDiff, jupd, jupdL] at y1 y2
      constructor
      · intro h
        by_cases e : i = 36 + j
        · have := y2 (by omega)
          rw [if_pos e] at this
          rw [this, e]
          congr 1
          omega
        · exact y1 (by omega)
      · intro h
        have := y2 (by omega)
        rw [if_neg (show ¬ i = 36 + j by omega)] at this
        exact this
theorem lp52is {nR nCe e : Nat} (he : e < 10) : ∀ (d j : Nat) (σ τ : St), j + d = 3 → RS nR nCe σ τ → RE nR σ τ → gS τ 3 = 1 →
    ∃ τ' : St, (∀ (L : St → Int32 → Prop) (K : St → Prop), L τ' (nI (e + 1)) → ∀ f, d < f → w_X10_notes_is_52 L K f τ (nI e) (nI j)) ∧ (∀ k, gS τ' k = gS τ k) ∧ (∀ k, k ≠ 38 → gA τ' k = gA τ k) ∧ (∀ i, (6 + 3 * e + j ≤ i ∧ i < 6 + 3 * e + 3 → gA τ' 38 i = tl τ e (i - 6 - 3 * e)) ∧ (¬ (6 + 3 * e + j ≤ i ∧ i < 6 + 3 * e + 3) → gA τ' 38 i = gA τ 38 i)) := by
  intro d
  induction d with
  | zero =>
    intro j σ τ hj hS hE h3
    refine ⟨τ, fun L K hK f hf => ?_, fun _ => rfl, fun _ _ => rfl, fun i => ⟨fun h => by omega, fun _ => rfl⟩⟩
    obtain ⟨f, rfl⟩ : ∃ z, f = z + 1 := ⟨f - 1, by omega⟩
    show b_X10_notes_is_52 L (w_X10_notes_is_52 L K f) K τ (nI e) (nI j)
    unfold b_X10_notes_is_52
    rw [nI_1]
    exact jbr (nI_le (a := 3) (by omega) (by omega)) hK
  | succ d ih =>
    intro j σ τ hj hS hE h3
    obtain ⟨τ', z1, z2, z3, z4⟩ := ih (j + 1) σ (sA τ 38 (6 + 3 * e + j) (tl τ e j)) (by omega) (by simpa only [RS, gS_sS, gS_sA, gS_sL, gS_fA, gS_fL, gA_sS, gA_sA, gA_sL, gA_fA, gA_fL, gL_sS, gL_sA, gL_sL, gL_fA, gL_fL, reduceIte, Nat.reduceEqDiff, jupd, jupdL] using hS) (by simpa only [RE, gS_sS, gS_sA, gS_sL, gS_fA, gS_fL, gA_sS, gA_sA, gA_sL, gA_fA, gA_fL, gL_sS, gL_sA, gL_sL, gL_fA, gL_fL, reduceIte, Nat.reduceEqDiff, jupd, jupdL] using hE) (by simp only [gS_sS, gS_sA, gS_sL, gS_fA, gS_fL, gA_sS, gA_sA, gA_sL, gA_fA, gA_fL, gL_sS, gL_sA, gL_sL, gL_fA, gL_fL, reduceIte, Nat.reduceEqDiff, jupd, jupdL]; exact h3)
    refine ⟨τ', fun L K hK f hf => ?_, fun k => ?_, fun k hk => ?_, fun i => ?_⟩
    · obtain ⟨f, rfl⟩ : ∃ z, f = z + 1 := ⟨f - 1, by omega⟩
      show b_X10_notes_is_52 L (w_X10_notes_is_52 L K f) K τ (nI e) (nI j)
      unfold b_X10_notes_is_52
      rw [show (6 : Int32) + 3 * nI e + nI j = nI (6 + 3 * e + j) from by rw [show (6 : Int32) = nI 6 from rfl, show (3 : Int32) = nI 3 from rfl, pk_mul, nI_add, nI_add], nI_clamp (show 6 + 3 * e + j < 2 ^ 31 by omega), nI_1 j]
      exact jbf (nI_ge (b := 3) (by omega) (by decide)) (ev_end hS hE h3 he (by omega) ⟨vp_in_nI (by omega) (by decide), z1 L K hK f (by omega)⟩)
    · rw [z2 k]; simp only [gS_sA]
    · rw [z3 k hk]; simp only [gA_sA, if_neg hk]
    · obtain ⟨y1, y2⟩ := z4 i
      have ec : ∀ x y, tl (sA τ 38 (6 + 3 * e + j) (tl τ e j)) x y = tl τ x y := fun x y => by unfold tl tv; simp only [gS_sS, gS_sA, gS_sL, gS_fA, gS_fL, gA_sS, gA_sA, gA_sL, gA_fA, gA_fL, gL_sS, gL_sA, gL_sL, gL_fA, gL_fL, reduceIte, Nat.reduceEqDiff, jupd, jupdL]
      rw [ec] at y1
      simp only [gS_sS, gS_sA, gS_sL, gS_fA, gS_fL, gA_sS, gA_sA, gA_sL, gA_fA, gA_fL, gL_sS, gL_sA, gL_sL, gL_fA, gL_fL, reduceIte, Nat.reduceEqDiff, jupd, jupdL] at y2
      constructor
      · intro h
        by_cases q : i = 6 + 3 * e + j
        · have := y2 (by omega)
          rw [if_pos q] at this
          rw [this, q]
          congr 1
          omega
        · exact y1 (by omega)
      · intro h
        have := y2 (by omega)
        rw [if_neg (show ¬ i = 6 + 3 * e + j by omega)] at this
        exact this
theorem lp44is {nR nCe : Nat} : ∀ (d e : Nat) (σ τ : St), e + d = 10 → RS nR nCe σ τ → RE nR σ τ → gS τ 3 = 1 →
    ∃ τ' : St, (∀ K : St → Prop, (∃ n : Nat, w_X10_notes_is_87 K n τ' 0) → ∀ f, d < f → w_X10_notes_is_44 K f τ (nI e)) ∧ (∀ k, gS τ' k = gS τ k) ∧ (∀ k, k ≠ 38 → gA τ' k = gA τ k) ∧ (∀ e' j, e ≤ e' → e' < 10 → j < 3 → gA τ' 38 (6 + 3 * e' + j) = tl τ e' j) ∧ (∀ i, ¬ (6 + 3 * e ≤ i ∧ i < 36) → gA τ' 38 i = gA τ 38 i) := by
  intro d
  induction d with
  | zero =>
    intro e σ τ he hS hE h3
    refine ⟨τ, fun K hK f hf => ?_, fun _ => rfl, fun _ _ => rfl, fun e' j h1 h2 => by omega, fun i _ => rfl⟩
    obtain ⟨f, rfl⟩ : ∃ z, f = z + 1 := ⟨f - 1, by omega⟩
    show b_X10_notes_is_44 (w_X10_notes_is_44 K f) K τ (nI e)
    unfold b_X10_notes_is_44
    exact jbr (nI_le (a := 10) (by omega) (by omega)) hK
  | succ d ih =>
    intro e σ τ he hS hE h3
    obtain ⟨τ1, a1, a2, a3, a4⟩ := lp52is (nR := nR) (nCe := nCe) (show e < 10 by omega) 3 0 σ τ (by omega) hS hE h3
    have hS1 : RS nR nCe σ τ1 := by
      unfold RS at hS ⊢
      rw [a2, a2, a3 25 (by decide), a3 26 (by decide), a3 27 (by decide), a3 28 (by decide), a3 29 (by decide), a3 30 (by decide), a3 31 (by decide)]
      exact hS
    have hE1 : RE nR σ τ1 := by
      unfold RE at hE ⊢
      rw [a3 34 (by decide), a3 35 (by decide), a3 36 (by decide)]
      exact hE
    obtain ⟨τ', z1, z2, z3, z4, z5⟩ := ih (e + 1) σ τ1 (by omega) hS1 hE1 (by rw [a2]; exact h3)
    have ec : ∀ x y, tl τ1 x y = tl τ x y := fun x y => by
      unfold tl tv
      rw [a3 34 (by decide), a3 35 (by decide), a3 36 (by decide), a3 26 (by decide)]
    refine ⟨τ', fun K hK f hf => ?_, fun k => ?_, fun k hk => ?_, fun e' j h1 h2 hj => ?_, fun i hi => ?_⟩
    · obtain ⟨f, rfl⟩ : ∃ z, f = z + 1 := ⟨f - 1, by omega⟩
      show b_X10_notes_is_44 (w_X10_notes_is_44 K f) K τ (nI e)
      unfold b_X10_notes_is_44
      exact jbf (nI_ge (b := 10) (by omega) (by decide)) ⟨4, a1 _ K (z1 K hK f (by omega)) 4 (by omega)⟩
    · rw [z2, a2]
    · rw [z3 k hk, a3 k hk]
    · by_cases q : e' = e
      · subst q
        rw [z5 _ (by omega), (a4 _).1 (by omega)]
        congr 1
        omega
      · rw [z4 e' j (by omega) h2 hj, ec]
    · rw [z5 i (by omega), (a4 i).2 (by omega)]
theorem notes_is {nP nR nCe nQ : Nat} {σ τ : St} (hP : nP ≤ 3000) (h13 : gS τ 13 = nI nP) (h16 : ∀ p, p < nP → isN (gA τ 16 p) 8) (hL : RLf nP σ τ) (hS : RS nR nCe σ τ) (hQ : RDw nQ σ τ) (hE : RE nR σ τ) (h3 : gS τ 3 = 1) :
    ∃ τ' : St, (∀ K : St → Prop, K τ' → w_X10_notes_is τ K) ∧ (∀ k, gS τ' k = gS τ k) ∧ (∀ k, k ≠ 38 → gA τ' k = gA τ k) ∧ gA τ' 38 0 = gS τ 5 ∧ gA τ' 38 1 = gS τ 6 ∧ gA τ' 38 2 = gS σ 15 ∧ gA τ' 38 3 = gS σ 11 ∧ gA τ' 38 4 = gS τ 9 ∧ gA τ' 38 5 = gS τ 10 ∧ (∀ e j, e < 10 → j < 3 → gA τ' 38 (6 + 3 * e + j) = tl τ e j) ∧ (∀ a, a < 80 → gA τ' 38 (36 + a) = gA τ 23 a) := by
  obtain ⟨τ1, a1, a2, a3, a4, a5⟩ := lp44is (nR := nR) (nCe := nCe) 10 0 σ (sA (sA (sA (sA (sA (sA τ 38 0 (gS τ 5)) 38 1 (gS τ 6)) 38 2 (gS σ 15)) 38 3 (gS σ 11)) 38 4 (gS τ 9)) 38 5 (gS τ 10)) (by omega) (by simpa only [RS, gS_sS, gS_sA, gS_sL, gS_fA, gS_fL, gA_sS, gA_sA, gA_sL, gA_fA, gA_fL, gL_sS, gL_sA, gL_sL, gL_fA, gL_fL, reduceIte, Nat.reduceEqDiff, jupd, jupdL] using hS) (by simpa only [RE, gS_sS, gS_sA, gS_sL, gS_fA, gS_fL, gA_sS, gA_sA, gA_sL, gA_fA, gA_fL, gL_sS, gL_sA, gL_sL, gL_fA, gL_fL, reduceIte, Nat.reduceEqDiff, jupd, jupdL] using hE) (by simp only [gS_sS, gS_sA, gS_sL, gS_fA, gS_fL, gA_sS, gA_sA, gA_sL, gA_fA, gA_fL, gL_sS, gL_sA, gL_sL, gL_fA, gL_fL, reduceIte, Nat.reduceEqDiff, jupd, jupdL]; exact h3)
  obtain ⟨τ2, b1, b2, b3, b4⟩ := lp87is 80 0 τ1 (by omega)
  have lo : ∀ i, i < 6 → gA τ2 38 i = gA (sA (sA (sA (sA (sA (sA τ 38 0 (gS τ 5)) 38 1 (gS τ 6)) 38 2 (gS σ 15)) 38 3 (gS σ 11)) 38 4 (gS τ 9)) 38 5 (gS τ 10)) 38 i := fun i hi => by rw [(b4 i).2 (by omega), a5 i (by omega)]
  refine ⟨τ2, fun K hK => ?_, fun k => ?_, fun k hk => ?_, ?_, ?_, ?_, ?_, ?_, ?_, fun e j he hj => ?_, fun a ha => ?_⟩
  · unfold w_X10_notes_is
    refine ev_left (σ := σ) hP (by simp only [gS_sS, gS_sA, gS_sL, gS_fA, gS_fL, gA_sS, gA_sA, gA_sL, gA_fA, gA_fL, gL_sS, gL_sA, gL_sL, gL_fA, gL_fL, reduceIte, Nat.reduceEqDiff, jupd, jupdL]; exact h13) (by simp only [gS_sS, gS_sA, gS_sL, gS_fA, gS_fL, gA_sS, gA_sA, gA_sL, gA_fA, gA_fL, gL_sS, gL_sA, gL_sL, gL_fA, gL_fL, reduceIte, Nat.reduceEqDiff, jupd, jupdL]; exact h16) (by simpa only [RLf, gS_sS, gS_sA, gS_sL, gS_fA, gS_fL, gA_sS, gA_sA, gA_sL, gA_fA, gA_fL, gL_sS, gL_sA, gL_sL, gL_fA, gL_fL, reduceIte, Nat.reduceEqDiff, jupd, jupdL] using hL) ?_
    refine ev_wait (nQ := nQ) (σ := σ) (by simpa only [RDw, gS_sS, gS_sA, gS_sL, gS_fA, gS_fL, gA_sS, gA_sA, gA_sL, gA_fA, gA_fL, gL_sS, gL_sA, gL_sL, gL_fA, gL_fL, reduceIte, Nat.reduceEqDiff, jupd, jupdL] using hQ) ⟨11, ?_⟩
    have := a1 K ⟨81, b1 K hK 81 (by omega)⟩ 11 (by omega)
    simp only [gS_sA]
    exact this
  · rw [b2, a2]; simp only [gS_sA]
  · rw [b3 k hk, a3 k hk]; simp only [gA_sA, if_neg hk]
  · rw [lo 0 (by decide)]; simp only [gS_sS, gS_sA, gS_sL, gS_fA, gS_fL, gA_sS, gA_sA, gA_sL, gA_fA, gA_fL, gL_sS, gL_sA, gL_sL, gL_fA, gL_fL, reduceIte, Nat.reduceEqDiff, jupd, jupdL]
  · rw [lo 1 (by decide)]; simp only [gS_sS, gS_sA, gS_sL, gS_fA, gS_fL, gA_sS, gA_sA, gA_sL, gA_fA, gA_fL, gL_sS, gL_sA, gL_sL, gL_fA, gL_fL, reduceIte, Nat.reduceEqDiff, jupd, jupdL]
  · rw [lo 2 (by decide)]; simp only [gS_sS, gS_sA, gS_sL, gS_fA, gS_fL, gA_sS, gA_sA, gA_sL, gA_fA, gA_fL, gL_sS, gL_sA, gL_sL, gL_fA, gL_fL, reduceIte, Nat.reduceEqDiff, jupd, jupdL]
  · rw [lo 3 (by decide)]; simp only [gS_sS, gS_sA, gS_sL, gS_fA, gS_fL, gA_sS, gA_sA, gA_sL, gA_fA, gA_fL, gL_sS, gL_sA, gL_sL, gL_fA, gL_fL, reduceIte, Nat.reduceEqDiff, jupd, jupdL]
  · rw [lo 4 (by decide)]; simp only [gS_sS, gS_sA, gS_sL, gS_fA, gS_fL, gA_sS, gA_sA, gA_sL, gA_fA, gA_fL, gL_sS, gL_sA, gL_sL, gL_fA, gL_fL, reduceIte, Nat.reduceEqDiff, jupd, jupdL]
  · rw [lo 5 (by decide)]; simp only [gS_sS, gS_sA, gS_sL, gS_fA, gS_fL, gA_sS, gA_sA, gA_sL, gA_fA, gA_fL, gL_sS, gL_sA, gL_sL, gL_fA, gL_fL, reduceIte, Nat.reduceEqDiff, jupd, jupdL]
  · rw [(b4 _).2 (by omega), a4 e j (by omega) he hj]
    unfold tl tv
    simp only [gS_sS, gS_sA, gS_sL, gS_fA, gS_fL, gA_sS, gA_sA, gA_sL, gA_fA, gA_fL, gL_sS, gL_sA, gL_sL, gL_fA, gL_fL, reduceIte, Nat.reduceEqDiff, jupd, jupdL]
  · rw [(b4 _).1 (by omega), a3 23 (by decide), show 36 + a - 36 = a by omega]
    simp only [gS_sS, gS_sA, gS_sL, gS_fA, gS_fL, gA_sS, gA_sA, gA_sL, gA_fA, gA_fL, gL_sS, gL_sA, gL_sL, gL_fA, gL_fL, reduceIte, Nat.reduceEqDiff, jupd, jupdL]
