/-! ===== rows and cells: frames, MAKE ===== -/
theorem nn_of {v : Int32} (h : ¬ v < 0) : ∃ n, n < 2 ^ 31 ∧ v = nI n := by
  have h1 : 0 ≤ v.toInt := by
    have := Int32.le_iff_toInt_le.mp (Int32.not_lt.mp h)
    exact this
  have h2 : v.toInt < 2 ^ 31 := v.toInt_lt
  refine ⟨v.toInt.toNat, by omega, ?_⟩
  apply Int32.toInt_inj.mp
  rw [nI_toInt (by omega)]
  omega
def FsC (σ σ' : St) : Prop := (∀ k, k ≠ 11 → k ≠ 12 → k ≠ 13 → gS σ' k = gS σ k) ∧ (∀ k, (k < 13 ∨ 18 < k) → gA σ' k = gA σ k) ∧ (∀ k, k ≠ 3 → gL σ' k = gL σ k)
def FsM (τ τ' : St) : Prop := (∀ k, k ≠ 15 → k ≠ 16 → k ≠ 17 → gS τ' k = gS τ k) ∧ (∀ k, (k < 25 ∨ 33 < k) → gA τ' k = gA τ k)
theorem FsC.rf (σ : St) : FsC σ σ := ⟨fun _ _ _ _ => rfl, fun _ _ => rfl, fun _ _ => rfl⟩
theorem FsM.rf (τ : St) : FsM τ τ := ⟨fun _ _ _ _ => rfl, fun _ _ => rfl⟩
theorem FsC.tr {a b c : St} (h1 : FsC a b) (h2 : FsC b c) : FsC a c := ⟨fun k z1 z2 z3 => (h2.1 k z1 z2 z3).trans (h1.1 k z1 z2 z3), fun k z => (h2.2.1 k z).trans (h1.2.1 k z), fun k z => (h2.2.2 k z).trans (h1.2.2 k z)⟩
theorem FsM.tr {a b c : St} (h1 : FsM a b) (h2 : FsM b c) : FsM a c := ⟨fun k z1 z2 z3 => (h2.1 k z1 z2 z3).trans (h1.1 k z1 z2 z3), fun k z => (h2.2 k z).trans (h1.2 k z)⟩
theorem RG.fs {nA nW nT : Nat} {σ τ σ' τ' : St} (h : RG nA nW nT σ τ) (hC : FsC σ σ') (hM : FsM τ τ') : RG nA nW nT σ' τ' := by
  have s1 := hC.1 1 (by decide) (by decide) (by decide)
  have s2 := hC.1 2 (by decide) (by decide) (by decide)
  have s3 := hC.1 3 (by decide) (by decide) (by decide)
  have t0 := hM.1 0 (by decide) (by decide) (by decide)
  have t1 := hM.1 1 (by decide) (by decide) (by decide)
  have t2 := hM.1 2 (by decide) (by decide) (by decide)
  have cA : ∀ k, k < 13 → gA σ' k = gA σ k := fun k hk => hC.2.1 k (Or.inl hk)
  have mA : ∀ k, k < 14 → gA τ' k = gA τ k := fun k hk => hM.2 k (Or.inl (by omega))
  unfold RG prm wl at h ⊢
  rw [s1, s2, s3, t0, t1, t2, cA 0 (by decide), cA 1 (by decide), cA 2 (by decide), cA 3 (by decide), cA 4 (by decide), cA 5 (by decide), cA 6 (by decide), cA 7 (by decide), cA 8 (by decide), cA 9 (by decide), cA 10 (by decide), cA 11 (by decide), mA 0 (by decide), mA 1 (by decide), mA 2 (by decide), mA 3 (by decide), mA 4 (by decide), mA 5 (by decide), mA 6 (by decide), mA 7 (by decide), mA 8 (by decide), mA 9 (by decide)]
  exact h
theorem Go.fs {σ τ σ' τ' : St} (h : Go σ τ) (hC : FsC σ σ') (hM : FsM τ τ') : Go σ' τ' := by
  unfold Go at h ⊢
  rw [hC.1 4 (by decide) (by decide) (by decide), hC.1 10 (by decide) (by decide) (by decide), hM.1 4 (by decide) (by decide) (by decide), hM.1 5 (by decide) (by decide) (by decide), hM.1 11 (by decide) (by decide) (by decide)]
  exact h
theorem RR_store {cx : Cx} {nA nC nP m hd nR nCe nQ nR' nCe' nQ' : Nat} {pr : Nat → Nat} {σ τ σ' τ' : St} (hR : RR cx nA nC nP m hd nR nCe nQ pr σ τ) (hC : FsC σ σ') (hM : FsM τ τ') (hle : nR ≤ nR') (hS : RS nR' nCe' σ' τ') (hSm : RSm nP nR' τ') (hDw : RDw nQ' σ' τ') (hD : RD nP nCe' nQ' σ' τ') : RR cx nA nC nP m hd nR' nCe' nQ' pr σ' τ' := by
  obtain ⟨h1, h2, h3, h4, h5, h6, h7, ⟨h8, h9⟩, h10, h11⟩ := hR
  have cA : ∀ k, 18 < k → gA σ' k = gA σ k := fun k hk => hC.2.1 k (Or.inr hk)
  have mA : ∀ k, k < 25 → gA τ' k = gA τ k := fun k hk => hM.2 k (Or.inl hk)
  have cS := hC.1
  have mS := hM.1
  refine ⟨?_, ?_, ?_, ?_, ?_, hS, hSm, ⟨hDw, hD⟩, ?_, ?_⟩
  · unfold RC at h1 ⊢
    rw [cS 14 (by decide) (by decide) (by decide), mS 12 (by decide) (by decide) (by decide), cA 19 (by decide), cA 20 (by decide), cA 21 (by decide), cA 22 (by decide), cA 23 (by decide), mA 10 (by decide), mA 11 (by decide), mA 12 (by decide), mA 13 (by decide)]
    exact h1
  · unfold RP at h2 ⊢
    rw [cS 16 (by decide) (by decide) (by decide), mS 13 (by decide) (by decide) (by decide), cA 24 (by decide), cA 25 (by decide), cA 26 (by decide), cA 27 (by decide), cA 28 (by decide), mA 2 (by decide), mA 14 (by decide), mA 15 (by decide), mA 16 (by decide), mA 17 (by decide), mA 18 (by decide), mA 22 (by decide)]
    exact h2
  · intro p h hp hh h8 k hk hb
    rw [mA 16 (by decide)] at hh
    rw [hC.2.2 4 (by decide), mA 19 (by decide), mA 20 (by decide), mA 21 (by decide)]
    exact (h3 p h hp hh h8 k hk hb).mono hle
  · unfold RY at h4 ⊢
    rw [cS 17 (by decide) (by decide) (by decide), cS 18 (by decide) (by decide) (by decide), mS 14 (by decide) (by decide) (by decide), cA 29 (by decide), mA 17 (by decide), mA 24 (by decide)]
    exact h4
  · unfold RLf at h5 ⊢
    rw [cS 15 (by decide) (by decide) (by decide), mA 16 (by decide), mA 17 (by decide)]
    exact h5
  · intro e he
    rw [hC.2.2 2 (by decide), hM.2 34 (by decide), hM.2 35 (by decide), hM.2 36 (by decide)]
    rcases h10 e he with h | h
    · exact Or.inl h
    · exact Or.inr (h.mono hle)
  · unfold RK at h11 ⊢
    rw [cS 5 (by decide) (by decide) (by decide), cS 6 (by decide) (by decide) (by decide), cS 8 (by decide) (by decide) (by decide), cS 9 (by decide) (by decide) (by decide), mS 6 (by decide) (by decide) (by decide), mS 7 (by decide) (by decide) (by decide), mS 9 (by decide) (by decide) (by decide), mS 10 (by decide) (by decide) (by decide), hC.2.1 12 (by decide), mA 23 (by decide), cS 7 (by decide) (by decide) (by decide), mS 8 (by decide) (by decide) (by decide), cS 0 (by decide) (by decide) (by decide), mS 3 (by decide) (by decide) (by decide), mS 14 (by decide) (by decide) (by decide), hC.2.2 0 (by decide), hC.2.2 1 (by decide), hM.2 37 (by decide)]
    exact h11
/-- the loops that clear the new cells -/
theorem lp_makeC {n s : Nat} {x2 : Int32} (hn : n ≤ 200) (hs : s + n ≤ 2000) : ∀ (d i : Nat) (σ : St), i + d = n → gS σ 13 = nI (s + i) →
    ∃ σ' : St, (∀ K : Int32 → St → Prop, K x2 σ' → ∀ f, d < f → w_X6_make_58 K f σ (nI n) x2 (nI i)) ∧ gS σ' 13 = nI (s + n) ∧ (∀ k, k ≠ 13 → gS σ' k = gS σ k) ∧ (∀ k, k ≠ 16 → k ≠ 17 → gA σ' k = gA σ k) ∧ (∀ k, k ≠ 3 → gL σ' k = gL σ k) ∧ (∀ j, (s + i ≤ j ∧ j < s + n → gL σ' 3 j = 0 ∧ gA σ' 16 j = -1 ∧ gA σ' 17 j = -1) ∧ (¬ (s + i ≤ j ∧ j < s + n) → gL σ' 3 j = gL σ 3 j ∧ gA σ' 16 j = gA σ 16 j ∧ gA σ' 17 j = gA σ 17 j)) := by
  intro d
  induction d with
  | zero =>
    intro i σ hi h13
    refine ⟨σ, fun K hK f hf => ?_, by rw [h13]; congr 1; omega, fun _ _ => rfl, fun _ _ _ => rfl, fun _ _ => rfl, fun j => ⟨fun h => by omega, fun _ => ⟨rfl, rfl, rfl⟩⟩⟩
    obtain ⟨f, rfl⟩ : ∃ z, f = z + 1 := ⟨f - 1, by omega⟩
    show b_X6_make_58 (w_X6_make_58 K f) K σ (nI n) x2 (nI i)
    unfold b_X6_make_58
    exact jbr (nI_le (by omega) (by omega)) hK
  | succ d ih =>
    intro i σ hi h13
    obtain ⟨σ', z1, z2, z3, z4, z5, z6⟩ := ih (i + 1) (sS (sA (sA (sL σ 3 (s + i) 0) 16 (s + i) (-1)) 17 (s + i) (-1)) 13 (nI (s + i + 1))) (by omega) (by simp only [gS_sS, gS_sA, gS_sL, gS_fA, gS_fL, gA_sS, gA_sA, gA_sL, gA_fA, gA_fL, gL_sS, gL_sA, gL_sL, gL_fA, gL_fL, reduceIte, Nat.reduceEqDiff, jupd, jupdL]; rfl)
    refine ⟨σ', fun K hK f hf => ?_, z2, fun k hk => ?_, fun k h1 h2 => ?_, fun k hk => ?_, fun j => ?_⟩
    · obtain ⟨f, rfl⟩ : ∃ z, f = z + 1 := ⟨f - 1, by omega⟩
      show b_X6_make_58 (w_X6_make_58 K f) K σ (nI n) x2 (nI i)
      unfold b_X6_make_58
      rw [h13, nI_clamp (show s + i < 2 ^ 31 by omega), nI_1, nI_1]
      have hv : vp_in (nI (s + i)) 2000 := vp_in_nI (by omega) (by decide)
      exact jbf (nI_ge (by omega) (by omega)) ⟨hv, hv, hv, z1 K hK f (by omega)⟩
    · rw [z3 k hk]
      simp only [gS_sS, gS_sA, gS_sL, if_neg hk]
    · rw [z4 k h1 h2]
      simp only [gA_sS, gA_sA, gA_sL, if_neg h1, if_neg h2]
    · rw [z5 k hk]
      simp only [gL_sS, gL_sA, gL_sL, if_neg hk]
    · obtain ⟨y1, y2⟩ := z6 j
      simp only [gS_sS, gS_sA, gS_sL, gS_fA, gS_fL, gA_sS, gA_sA, gA_sL, gA_fA, gA_fL, gL_sS, gL_sA, gL_sL, gL_fA, gL_fL, reduceIte, Nat.reduceEqDiff, jupd, jupdL] at y2
      constructor
      · intro hj
        by_cases e : j = s + i
        · have := y2 (by omega)
          simp only [if_pos e] at this
          exact this
        · exact y1 (by omega)
      · intro hj
        have := y2 (by omega)
        simp only [if_neg (show ¬ j = s + i by omega)] at this
        exact this
theorem lp_makeM {n s p : Nat} (hn : n ≤ 200) (hs : s + n ≤ 2000) : ∀ (d i : Nat) (τ : St), i + d = n → gS τ 16 = nI s →
    ∃ τ' : St, (∀ K : Int32 → St → Prop, b_X10_makes_113 (fun _ _ _ _ => False) K τ' (nI p) (nI n) (nI n) → ∀ f, d < f → w_X10_makes_113 K f τ (nI p) (nI n) (nI i)) ∧ (∀ k, gS τ' k = gS τ k) ∧ (∀ k, k ≠ 29 → gA τ' k = gA τ k) ∧ (∀ j, (s + i ≤ j ∧ j < s + n → gA τ' 29 j = 0) ∧ (¬ (s + i ≤ j ∧ j < s + n) → gA τ' 29 j = gA τ 29 j)) := by
  intro d
  induction d with
  | zero =>
    intro i τ hi h16
    refine ⟨τ, fun K hK f hf => ?_, fun _ => rfl, fun _ _ => rfl, fun j => ⟨fun h => by omega, fun _ => rfl⟩⟩
    obtain ⟨f, rfl⟩ : ∃ z, f = z + 1 := ⟨f - 1, by omega⟩
    have : i = n := by omega
    subst this
    show b_X10_makes_113 (w_X10_makes_113 K f) K τ (nI p) (nI i) (nI i)
    unfold b_X10_makes_113 at hK ⊢
    have hle : nI i ≤ nI i := nI_le (Nat.le_refl _) (by omega)
    exact jbr hle (hK.1 hle)
  | succ d ih =>
    intro i τ hi h16
    obtain ⟨τ', z1, z2, z3, z4⟩ := ih (i + 1) (sA τ 29 (s + i) 0) (by omega) (by simp only [gS_sS, gS_sA, gS_sL, gS_fA, gS_fL, gA_sS, gA_sA, gA_sL, gA_fA, gA_fL, gL_sS, gL_sA, gL_sL, gL_fA, gL_fL, reduceIte, Nat.reduceEqDiff, jupd, jupdL]; exact h16)
    refine ⟨τ', fun K hK f hf => ?_, fun k => ?_, fun k h1 => ?_, fun j => ?_⟩
    · obtain ⟨f, rfl⟩ : ∃ z, f = z + 1 := ⟨f - 1, by omega⟩
      show b_X10_makes_113 (w_X10_makes_113 K f) K τ (nI p) (nI n) (nI i)
      unfold b_X10_makes_113
      rw [h16, show nI s + nI i = nI (s + i) by rw [nI_add], nI_clamp (show s + i < 2 ^ 31 by omega), nI_1]
      exact jbf (nI_ge (by omega) (by omega)) ⟨vp_in_nI (by omega) (by decide), z1 K hK f (by omega)⟩
    · rw [z2 k]
      simp only [gS_sA]
    · rw [z3 k h1]
      simp only [gA_sA, if_neg h1]
    · obtain ⟨y1, y2⟩ := z4 j
      simp only [gS_sS, gS_sA, gS_sL, gS_fA, gS_fL, gA_sS, gA_sA, gA_sL, gA_fA, gA_fL, gL_sS, gL_sA, gL_sL, gL_fA, gL_fL, reduceIte, Nat.reduceEqDiff, jupd, jupdL] at y2
      constructor
      · intro hj
        by_cases e : j = s + i
        · have := y2 (by omega)
          simp only [if_pos e] at this
          exact this
        · exact y1 (by omega)
      · intro hj
        have := y2 (by omega)
        simp only [if_neg (show ¬ j = s + i by omega)] at this
        exact this
theorem ev_in_lo {σ : St} {v a b : Int32} {K : Int32 → St → Prop} (h : v < a) (hk : K 0 σ) : w_X10_in σ v a b K := jbr h hk
theorem ev_in_hi {σ : St} {v a b : Int32} {K : Int32 → St → Prop} (h1 : ¬ v < a) (h : b < v) (hk : K 0 σ) : w_X10_in σ v a b K := jbf h1 (jbr h hk)
theorem ev_in_ok {σ : St} {v a b : Int32} {K : Int32 → St → Prop} (h1 : ¬ v < a) (h : ¬ b < v) (hk : K 1 σ) : w_X10_in σ v a b K := jbf h1 (jbf h hk)
theorem RR_make {cx : Cx} {nA nC nP m hd nR nCe nQ p a c n : Nat} {pr : Nat → Nat} {σ τ σ' τ' : St} (hR : RR cx nA nC nP m hd nR nCe nQ pr σ τ) (hR3 : nR < 300) (hs : nCe + n ≤ 2000) (hn : n ≤ 200) (ha : a < 80) (hC6 : nC ≤ 600) (hc : c < nC) (hp : p < nP) (h17 : gA τ 17 p = 2) (h14 : gA τ 14 p = nI a) (h15 : gA τ 15 p = nI c) (hr2 : ∀ r, r < nR → gA τ 27 r = nI a → ¬ gA τ 28 r = nI c) (fC : FsC σ σ') (fM : FsM τ τ')
    (s11 : gS σ' 11 = gS σ 11) (s12 : gS σ' 12 = nI (nR + 1)) (s13 : gS σ' 13 = nI (nCe + n)) (a14 : ∀ r, gA σ' 14 r = if r = nR then nI nCe else gA σ 14 r) (a15 : ∀ r, gA σ' 15 r = if r = nR then nI n else gA σ 15 r) (a13 : ∀ r, gA σ' 13 r = if c = 0 ∧ r = a then nI nR else gA σ 13 r) (a18 : gA σ' 18 = gA σ 18)
    (cel : ∀ j, (nCe ≤ j ∧ j < nCe + n → gL σ' 3 j = 0 ∧ gA σ' 16 j = -1 ∧ gA σ' 17 j = -1) ∧ (¬ (nCe ≤ j ∧ j < nCe + n) → gL σ' 3 j = gL σ 3 j ∧ gA σ' 16 j = gA σ 16 j ∧ gA σ' 17 j = gA σ 17 j))
    (t15 : gS τ' 15 = nI (nR + 1)) (t16 : gS τ' 16 = nI (nCe + n)) (t17 : gS τ' 17 = gS τ 17) (m25 : ∀ r, gA τ' 25 r = if r = nR then nI nCe else gA τ 25 r) (m26 : ∀ r, gA τ' 26 r = if r = nR then nI n else gA τ 26 r) (m27 : ∀ r, gA τ' 27 r = if r = nR then nI a else gA τ 27 r) (m28 : ∀ r, gA τ' 28 r = if r = nR then nI c else gA τ 28 r) (m30 : gA τ' 30 = gA τ 30) (m31 : gA τ' 31 = gA τ 31) (m32 : gA τ' 32 = gA τ 32) (m33 : gA τ' 33 = gA τ 33)
    (celM : ∀ j, (nCe ≤ j ∧ j < nCe + n → gA τ' 29 j = 0) ∧ (¬ (nCe ≤ j ∧ j < nCe + n) → gA τ' 29 j = gA τ 29 j)) : RR cx nA nC nP m hd (nR + 1) (nCe + n) nQ pr σ' τ' := by
  refine RR_store hR fC fM (by omega) ?_ ?_ ?_ ?_
  · obtain ⟨g1, g2, g3, g4, g5, g6, g7, g8, g9, g10⟩ := hR.2.2.2.2.2.1
    refine ⟨by omega, by omega, s12, t15, s13, t16, fun r hr => ?_, fun r r' hr hr' e1 e2 => ?_, fun b hb => ?_, fun i hi => ?_⟩
    · rw [a14, a15, m25, m26, m27]
      by_cases e : r = nR
      · simp only [if_pos e]
        exact ⟨⟨a, ha, rfl⟩, nCe, n, rfl, rfl, rfl, rfl, hn, Nat.le_refl _⟩
      · simp only [if_neg e]
        obtain ⟨y0, s, z, y1, y2, y3, y4, y5, y6⟩ := g7 r (by omega)
        exact ⟨y0, s, z, y1, y2, y3, y4, y5, by omega⟩
    · rw [m27, m27] at e1
      rw [m28, m28] at e2
      by_cases x : r = nR
      · by_cases y : r' = nR
        · omega
        · rw [if_pos x, if_neg y] at e1 e2
          exact absurd e2.symm (hr2 r' (by omega) e1.symm)
      · by_cases y : r' = nR
        · rw [if_neg x, if_pos y] at e1 e2
          exact absurd e2 (hr2 r (by omega) e1)
        · rw [if_neg x, if_neg y] at e1 e2
          exact g8 r r' (by omega) (by omega) e1 e2
    · rw [a13]
      by_cases x : c = 0 ∧ b = a
      · rw [if_pos x]
        refine Or.inr ⟨nR, by omega, rfl, ?_, ?_⟩
        · rw [m27, if_pos rfl, x.2]
        · rw [m28, if_pos rfl, x.1]; rfl
      · rw [if_neg x]
        rcases g9 b hb with ⟨y1, y2⟩ | ⟨r, y1, y2, y3, y4⟩
        · refine Or.inl ⟨y1, fun r hr => ?_⟩
          rw [m27, m28]
          by_cases e : r = nR
          · rw [if_pos e, if_pos e]
            rintro ⟨w1, w2⟩
            exact x ⟨(nI_inj (by omega) (by decide) (w2.trans (show (0 : Int32) = nI 0 from rfl))), (nI_inj (by omega) (by omega) w1).symm⟩
          · rw [if_neg e, if_neg e]
            exact y2 r (by omega)
        · refine Or.inr ⟨r, by omega, y2, ?_, ?_⟩
          · rw [m27, if_neg (show ¬ r = nR by omega)]; exact y3
          · rw [m28, if_neg (show ¬ r = nR by omega)]; exact y4
    · rw [m30, m31]
      by_cases e : nCe ≤ i ∧ i < nCe + n
      · exact Or.inl ⟨((cel i).1 e).1, (celM i).1 e⟩
      · rw [((cel i).2 e).1, (celM i).2 e]
        rcases g10 i (by omega) with h | h
        · exact Or.inl h
        · exact Or.inr (h.mono (by omega))
  · intro r hr
    rw [m27, m28, fM.2 17 (by decide), fM.2 14 (by decide), fM.2 15 (by decide)]
    by_cases e : r = nR
    · simp only [if_pos e]
      exact ⟨p, hp, h17, h14, h15⟩
    · simp only [if_neg e]
      exact hR.2.2.2.2.2.2.1 r (by omega)
  · have h := hR.2.2.2.2.2.2.2.1.1
    unfold RDw at h ⊢
    rw [t17, s11, m32]
    exact h
  · obtain ⟨g1, g2, g3, g4⟩ := hR.2.2.2.2.2.2.2.1.2
    refine ⟨?_, fun k hk => ?_, ?_, fun i hi => ?_⟩
    · rw [fM.2 17 (by decide)]; exact g1
    · rw [m32, m33, fM.2 17 (by decide)]
      obtain ⟨y1, y2⟩ := g2 k hk
      refine ⟨?_, y2⟩
      rcases y1 with h | ⟨z, h1, h2⟩
      · exact Or.inl h
      · exact Or.inr ⟨z, by omega, h2⟩
    · rw [m33]; exact g3
    · have hrl : rl τ' nQ i = rl τ nQ i := by unfold rl; rw [m32, m33]
      rw [hrl, a18]
      by_cases e : nCe ≤ i ∧ i < nCe + n
      · obtain ⟨y1, y2, y3⟩ := (cel i).1 e
        have hnil : selU (fun n => decide (gA τ 32 n = nI i)) nQ = [] := by
          cases hl : selU (fun n => decide (gA τ 32 n = nI i)) nQ with
          | nil => rfl
          | cons z l =>
            exfalso
            have hz : z ∈ selU (fun n => decide (gA τ 32 n = nI i)) nQ := by rw [hl]; exact List.mem_cons_self
            obtain ⟨w1, w2⟩ := mem_selU.mp hz
            have w3 : gA τ 32 z = nI i := of_decide_eq_true w2
            rcases (g2 z w1).1 with h | ⟨b, h1, h2⟩
            · rw [w3] at h; exact nI_m1 (by omega) h
            · rw [w3] at h2
              have := nI_inj (by omega) (by omega) h2
              omega
        have hr0 : rl τ nQ i = [] := by unfold rl; rw [hnil]; rfl
        rw [hr0, y2, y3]
        exact ⟨rfl, fun _ => Or.inl ⟨rfl, rfl⟩⟩
      · obtain ⟨y1, y2, y3⟩ := (cel i).2 e
        rw [y1, y2, y3]
        exact g4 i (by omega)
