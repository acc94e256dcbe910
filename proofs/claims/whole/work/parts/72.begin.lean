/-! ===== a run begins ===== -/
theorem lp77 : ∀ (d j : Nat) (τ : St), j + d = 80 →
    ∃ τ' : St, (∀ K : St → Prop, (∃ n : Nat, w_X10_begins_105 K n τ' 0) → ∀ f, d < f → w_X10_begins_77 K f τ (nI j)) ∧ (∀ k, gS τ' k = gS τ k) ∧ (∀ k, k ≠ 22 → k ≠ 23 → gA τ' k = gA τ k) ∧ (∀ t, j ≤ t → t < 80 → gA τ' 22 t = -1 ∧ gA τ' 23 t = 0) ∧ (∀ t, t < j → gA τ' 22 t = gA τ 22 t ∧ gA τ' 23 t = gA τ 23 t) := by
  intro d
  induction d with
  | zero =>
    intro j τ hj
    refine ⟨τ, fun K hK f hf => ?_, fun _ => rfl, fun _ _ _ => rfl, fun t h1 h2 => by omega, fun _ _ => ⟨rfl, rfl⟩⟩
    obtain ⟨f, rfl⟩ : ∃ z, f = z + 1 := ⟨f - 1, by omega⟩
    have : j = 80 := by omega
    subst this
    show b_X10_begins_77 (w_X10_begins_77 K f) K τ (nI 80)
    unfold b_X10_begins_77
    exact jbr (by decide) hK
  | succ d ih =>
    intro j τ hj
    obtain ⟨τ', z1, z2, z3, z4, z5⟩ := ih (j + 1) (sA (sA τ 22 j (-1)) 23 j 0) (by omega)
    refine ⟨τ', fun K hK f hf => ?_, fun k => ?_, fun k h1 h2 => ?_, fun t h1 h2 => ?_, fun t ht => ?_⟩
    · obtain ⟨f, rfl⟩ : ∃ z, f = z + 1 := ⟨f - 1, by omega⟩
      show b_X10_begins_77 (w_X10_begins_77 K f) K τ (nI j)
      unfold b_X10_begins_77
      rw [nI_clamp (show j < 2 ^ 31 by omega), nI_1]
      have hv : vp_in (nI j) 80 := vp_in_nI (by omega) (by decide)
      exact jbf (nI_ge (b := 80) (by omega) (by decide)) ⟨hv, hv, z1 K hK f (by omega)⟩
    · rw [z2 k]; simp only [gS_sA]
    · rw [z3 k h1 h2]; simp only [gA_sA, if_neg h1, if_neg h2]
    · by_cases e : t = j
      · obtain ⟨y1, y2⟩ := z5 t (by omega)
        simp only [gS_sS, gS_sA, gS_sL, gS_fA, gS_fL, gA_sS, gA_sA, gA_sL, gA_fA, gA_fL, gL_sS, gL_sA, gL_sL, gL_fA, gL_fL, reduceIte, Nat.reduceEqDiff, jupd, jupdL, if_pos e] at y1 y2
        exact ⟨y1, y2⟩
      · exact z4 t (by omega) h2
    · obtain ⟨y1, y2⟩ := z5 t (by omega)
      simp only [gS_sS, gS_sA, gS_sL, gS_fA, gS_fL, gA_sS, gA_sA, gA_sL, gA_fA, gA_fL, gL_sS, gL_sA, gL_sL, gL_fA, gL_fL, reduceIte, Nat.reduceEqDiff, jupd, jupdL, if_neg (show ¬ t = j by omega)] at y1 y2
      exact ⟨y1, y2⟩
theorem lp105 : ∀ (d j : Nat) (τ : St), j + d = 10 →
    ∃ τ' : St, (∀ K : St → Prop, w_X10_colour τ' 0 0 0 0 (fun r u => ∃ n : Nat, w_X10_begins_135 K n u r 0) → ∀ f, d < f → w_X10_begins_105 K f τ (nI j)) ∧ (∀ k, gS τ' k = gS τ k) ∧ (∀ k, k ≠ 34 → gA τ' k = gA τ k) ∧ (∀ t, j ≤ t → t < 10 → gA τ' 34 t = 0) ∧ (∀ t, t < j → gA τ' 34 t = gA τ 34 t) := by
  intro d
  induction d with
  | zero =>
    intro j τ hj
    refine ⟨τ, fun K hK f hf => ?_, fun _ => rfl, fun _ _ => rfl, fun t h1 h2 => by omega, fun _ _ => rfl⟩
    obtain ⟨f, rfl⟩ : ∃ z, f = z + 1 := ⟨f - 1, by omega⟩
    have : j = 10 := by omega
    subst this
    show b_X10_begins_105 (w_X10_begins_105 K f) K τ (nI 10)
    unfold b_X10_begins_105
    exact jbr (by decide) hK
  | succ d ih =>
    intro j τ hj
    obtain ⟨τ', z1, z2, z3, z4, z5⟩ := ih (j + 1) (sA τ 34 j 0) (by omega)
    refine ⟨τ', fun K hK f hf => ?_, fun k => ?_, fun k h1 => ?_, fun t h1 h2 => ?_, fun t ht => ?_⟩
    · obtain ⟨f, rfl⟩ : ∃ z, f = z + 1 := ⟨f - 1, by omega⟩
      show b_X10_begins_105 (w_X10_begins_105 K f) K τ (nI j)
      unfold b_X10_begins_105
      rw [nI_clamp (show j < 2 ^ 31 by omega), nI_1]
      exact jbf (nI_ge (b := 10) (by omega) (by decide)) ⟨vp_in_nI (by omega) (by decide), z1 K hK f (by omega)⟩
    · rw [z2 k]; simp only [gS_sA]
    · rw [z3 k h1]; simp only [gA_sA, if_neg h1]
    · by_cases e : t = j
      · have y1 := z5 t (by omega)
        simp only [gS_sS, gS_sA, gS_sL, gS_fA, gS_fL, gA_sS, gA_sA, gA_sL, gA_fA, gA_fL, gL_sS, gL_sA, gL_sL, gL_fA, gL_fL, reduceIte, Nat.reduceEqDiff, jupd, jupdL, if_pos e] at y1
        exact y1
      · exact z4 t (by omega) h2
    · have y1 := z5 t (by omega)
      simp only [gS_sS, gS_sA, gS_sL, gS_fA, gS_fL, gA_sS, gA_sA, gA_sL, gA_fA, gA_fL, gL_sS, gL_sA, gL_sL, gL_fA, gL_fL, reduceIte, Nat.reduceEqDiff, jupd, jupdL, if_neg (show ¬ t = j by omega)] at y1
      exact y1
/-- the tokens arrive -/
theorem lp_tokens {cx : Cx} {nA nW nT nC hd nR nCe nQ : Nat} {pr : Nat → Nat} : ∀ (d t nP m : Nat) (σ τ : St), t + d = nT → RG nA nW nT σ τ → RR cx nA nC nP m hd nR nCe nQ pr σ τ → (Go σ τ ∨ Hlt σ τ) →
    ∃ σ' τ' : St, (∀ K : St → Prop, K σ' → ∀ n, d < n → w_X4_begin_81 K n σ (nI t)) ∧ (∀ K : St → Prop, K τ' → ∀ n, d < n → w_X10_begins_135 K n τ 0 (nI t)) ∧ Done cx nA nW nT hd σ' τ' := by
  intro d
  induction d with
  | zero =>
    intro t nP m σ τ ht hG hR hgh
    have h3 := hG.2.2.2.2.2.2.2.1
    have h2 := hG.2.2.2.2.2.2.2.2.1
    have hT := hG.2.2.1
    refine ⟨σ, τ, fun K hK n hn => ?_, fun K hK n hn => ?_, ⟨nC, nP, m, nR, nCe, nQ, pr, hG, hR, hgh⟩⟩
    · obtain ⟨n, rfl⟩ : ∃ z, n = z + 1 := ⟨n - 1, by omega⟩
      show b_X4_begin_81 (w_X4_begin_81 K n) K σ (nI t)
      unfold b_X4_begin_81
      rw [h3]
      exact jbr (nI_le (by omega) (by omega)) hK
    · obtain ⟨n, rfl⟩ : ∃ z, n = z + 1 := ⟨n - 1, by omega⟩
      show b_X10_begins_135 (w_X10_begins_135 K n) K τ 0 (nI t)
      unfold b_X10_begins_135
      rw [h2]
      exact jbr (nI_le (by omega) (by omega)) hK
  | succ d ih =>
    intro t nP m σ τ ht hG hR hgh
    have h3 := hG.2.2.2.2.2.2.2.1
    have h2 := hG.2.2.2.2.2.2.2.2.1
    have hT := hG.2.2.1
    have hti : vp_in (nI t) 40 := vp_in_nI (by omega) (by decide)
    rcases hgh with hgo | hlt
    · obtain ⟨y1, y2, y3, a, p, q, ha, e1, e2, e3, hpq, hq3⟩ := hG.2.2.2.2.2.2.2.2.2.2.2.2.2 t (by omega)
      obtain ⟨σ1, τ1, r, nP1, m1, k1, k2, k3, k4, k5, k6, k7⟩ := sim_arrive (c := 0) (x := encN (gA τ 9 t)) (kk := 1) (v := gA τ 9 t) (of := -1) hG hR hgo ha e3 hpq hq3 hR.1.1 (vr_num _ _)
      obtain ⟨σ', τ', z1, z2, z3⟩ := ih (t + 1) nP1 m1 σ1 τ1 (by omega) (hG.fr k5 k6) k3 (by
        rcases k7 with h | h
        · exact Or.inl h.2
        · exact Or.inr h.2)
      refine ⟨σ', τ', fun K hK n hn => ?_, fun K hK n hn => ?_, z3⟩
      · obtain ⟨n, rfl⟩ : ∃ z, n = z + 1 := ⟨n - 1, by omega⟩
        show b_X4_begin_81 (w_X4_begin_81 K n) K σ (nI t)
        unfold b_X4_begin_81
        refine jbf (by rw [h3]; exact nI_ge (by omega) (by omega)) (jbm hgo.1 ⟨hti, ?_⟩)
        rw [nI_clamp (show t < 2 ^ 31 by omega), ← y3]
        refine ev_num ⟨hti, hti, ?_⟩
        rw [← y1, ← y2, e1, e2, nI_1]
        exact k1 _ (z1 K hK n (by omega))
      · obtain ⟨n, rfl⟩ : ∃ z, n = z + 1 := ⟨n - 1, by omega⟩
        show b_X10_begins_135 (w_X10_begins_135 K n) K τ 0 (nI t)
        unfold b_X10_begins_135
        refine jbf (by rw [h2]; exact nI_ge (by omega) (by omega)) (jbm hgo.2.1 ⟨hti, hti, hti, ?_⟩)
        rw [nI_clamp (show t < 2 ^ 31 by omega), e1, e2, nI_1]
        exact k2 _ (z2 K hK n (by omega))
    · refine ⟨σ, τ, fun K hK n hn => ?_, fun K hK n hn => ?_, ⟨nC, nP, m, nR, nCe, nQ, pr, hG, hR, Or.inr hlt⟩⟩
      · obtain ⟨n, rfl⟩ : ∃ z, n = z + 1 := ⟨n - 1, by omega⟩
        show b_X4_begin_81 (w_X4_begin_81 K n) K σ (nI t)
        unfold b_X4_begin_81
        exact ⟨fun _ => hK, fun _ => jbn hlt.2.2.1 hK⟩
      · obtain ⟨n, rfl⟩ : ∃ z, n = z + 1 := ⟨n - 1, by omega⟩
        show b_X10_begins_135 (w_X10_begins_135 K n) K τ 0 (nI t)
        unfold b_X10_begins_135
        exact ⟨fun _ => hK, fun _ => jbn (by rw [hlt.1]; decide) hK⟩
def bg10 (σ : St) : St := sA (sA (sA (sA (sA (sS (sS σ 14 0) 14 (gS (sS σ 14 0) 14 + 1)) 21 (gS (sS σ 14 0) 14).toNatClampNeg (-1)) 19 (gS (sS σ 14 0) 14).toNatClampNeg (-1)) 20 (gS (sS σ 14 0) 14).toNatClampNeg (-1)) 22 (gS (sS σ 14 0) 14).toNatClampNeg (-1)) 23 (gS (sS σ 14 0) 14).toNatClampNeg (-1)
def bg12 (u : St) : St := fA (sS (sS u 15 0) 16 0) 27 (jfill (gA (sS (sS u 15 0) 16 0) 27) 600 (-1))
def bg14 (u : St) : St := sS (sS u 17 0) 18 0
def bg16 (u : St) : St := fA (sS (sS (sS u 11 0) 12 0) 13 0) 13 (jfill (gA (sS (sS (sS u 11 0) 12 0) 13 0) 13) 80 (-1))
def bg18 (u : St) : St := sS (sS (sS (sS (sS (sS (sS (fL (fA u 12 (jfill (gA u 12) 80 0)) 2 (jfill (gL (fA u 12 (jfill (gA u 12) 80 0)) 2) 10 0)) 4 (-1)) 5 0) 6 0) 7 0) 8 0) 9 0) 10 (-1)
def bgC (σ : St) : St := bg18 (bg16 (bg14 (bg12 (bg10 σ))))
theorem ev_begin {σ : St} {K : St → Prop} (h : ∃ n : Nat, w_X4_begin_81 K n (bgC σ) 0) : w_X4_begin σ K := by
  unfold w_X4_begin w_X0_reset w_X0_add w_X1_reset w_X5_reset w_X6_reset
  have hv : vp_in (gS (sS σ 14 0) 14) 600 := by
    simp only [gS_sS, gS_sA, gS_sL, gS_fA, gS_fL, gA_sS, gA_sA, gA_sL, gA_fA, gA_fL, gL_sS, gL_sA, gL_sL, gL_fA, gL_fL, reduceIte, Nat.reduceEqDiff, jupd, jupdL]
    exact vp_in_nI (n := 0) (by decide) (by decide)
  exact ⟨hv, hv, hv, hv, hv, h⟩
theorem cl0 : ((0 : Int32)).toNatClampNeg = 0 := rfl
theorem i01 : ((0 : Int32)) + 1 = nI 1 := rfl
theorem sim_begin {nA nW nT : Nat} {σ τ : St} (hG : RG nA nW nT σ τ) (h0 : gS σ 0 = 1) :
    ∃ σ' τ' : St, (∀ K : St → Prop, K σ' → w_X4_begin σ K) ∧ (∀ K : St → Prop, K τ' → w_X10_begins τ K) ∧ Done ⟨fun _ => 0, fun i => if i < 100 then gL σ 0 i else gL σ 1 (i - 100), gA τ 37⟩ nA nW nT 0 σ' τ' := by
  obtain ⟨τ1, a1, a2, a3, a4, -⟩ := lp77 80 0 (sS (sS (sS (sS (sS (sS (sS (sS (sS (sS (sS (sS (sS (sS (sS τ 3 1) 4 0) 5 0) 6 0) 7 0) 8 0) 9 0) 10 0) 11 (-1)) 12 0) 13 0) 14 0) 15 0) 16 0) 17 0) (by omega)
  obtain ⟨τ2, b1, b2, b3, b4, -⟩ := lp105 10 0 τ1 (by omega)
  have tS : ∀ k, gS τ2 k = gS (sS (sS (sS (sS (sS (sS (sS (sS (sS (sS (sS (sS (sS (sS (sS τ 3 1) 4 0) 5 0) 6 0) 7 0) 8 0) 9 0) 10 0) 11 (-1)) 12 0) 13 0) 14 0) 15 0) 16 0) 17 0) k := fun k => by rw [b2, a2]
  have tA : ∀ k, k ≠ 22 → k ≠ 23 → k ≠ 34 → gA τ2 k = gA τ k := fun k h1 h2 h3 => by rw [b3 k h3, a3 k h1 h2]; simp only [gS_sS, gS_sA, gS_sL, gS_fA, gS_fL, gA_sS, gA_sA, gA_sL, gA_fA, gA_fL, gL_sS, gL_sA, gL_sL, gL_fA, gL_fL, reduceIte, Nat.reduceEqDiff, jupd, jupdL]
  have t22 : ∀ t, t < 80 → gA τ2 22 t = -1 ∧ gA τ2 23 t = 0 := fun t ht => by
    rw [b3 22 (by decide), b3 23 (by decide)]
    exact a4 t (by omega) ht
  have t34 : ∀ t, t < 10 → gA τ2 34 t = 0 := fun t ht => b4 t (by omega) ht
  have t12 : gS τ2 12 = 0 := by rw [tS]; simp only [gS_sS, gS_sA, gS_sL, gS_fA, gS_fL, gA_sS, gA_sA, gA_sL, gA_fA, gA_fL, gL_sS, gL_sA, gL_sL, gL_fA, gL_fL, reduceIte, Nat.reduceEqDiff, jupd, jupdL]
  have hcol : ∀ K : Int32 → St → Prop, K 0 (sS (sA (sA (sA (sA τ2 10 0 0) 11 0 0) 12 0 0) 13 0 0) 12 1) → w_X10_colour τ2 0 0 0 0 K := fun K hK => by
    refine ⟨1, ?_⟩
    show b_X10_colour_3 (w_X10_colour_3 K 0) K τ2 0 0 0 0 0
    unfold b_X10_colour_3
    rw [t12]
    have hv : vp_in (0 : Int32) 600 := vp_in_nI (n := 0) (by decide) (by decide)
    exact jbr (by decide) (jbn (by decide) ⟨hv, hv, hv, hv, hK⟩)
  have hG2 : RG nA nW nT (bgC σ) (sS (sA (sA (sA (sA τ2 10 0 0) 11 0 0) 12 0 0) 13 0 0) 12 1) := by
    unfold RG prm wl at hG ⊢
    simp only [bgC, bg10, bg12, bg14, bg16, bg18, gS_sS, gS_sA, gS_sL, gS_fA, gS_fL, gA_sS, gA_sA, gA_sL, gA_fA, gA_fL, gL_sS, gL_sA, gL_sL, gL_fA, gL_fL, reduceIte, Nat.reduceEqDiff, jupd, jupdL, tA 0 (by decide) (by decide) (by decide), tA 1 (by decide) (by decide) (by decide), tA 2 (by decide) (by decide) (by decide), tA 3 (by decide) (by decide) (by decide), tA 4 (by decide) (by decide) (by decide), tA 5 (by decide) (by decide) (by decide), tA 6 (by decide) (by decide) (by decide), tA 7 (by decide) (by decide) (by decide), tA 8 (by decide) (by decide) (by decide), tA 9 (by decide) (by decide) (by decide), tS]
    exact hG
  have hR2 : RR ⟨fun _ => 0, fun i => if i < 100 then gL σ 0 i else gL σ 1 (i - 100), gA τ 37⟩ nA 1 0 0 0 0 0 0 (fun _ => 0) (bgC σ) (sS (sA (sA (sA (sA τ2 10 0 0) 11 0 0) 12 0 0) 13 0 0) 12 1) := by
    refine ⟨?_, ?_, ?_, ?_, ?_, ?_, ?_, ⟨?_, ?_⟩, ?_, ?_⟩
    · unfold RC
      simp only [bgC, bg10, bg12, bg14, bg16, bg18, gS_sS, gS_sA, gS_sL, gS_fA, gS_fL, gA_sS, gA_sA, gA_sL, gA_fA, gA_fL, gL_sS, gL_sA, gL_sL, gL_fA, gL_fL, reduceIte, Nat.reduceEqDiff, jupd, jupdL, cl0]
      refine ⟨by decide, by decide, rfl, rfl, trivial, trivial, fun c h1 h2 => by omega, fun c c' h1 h2 _ _ _ _ => by omega, fun b hb => ?_⟩
      have : b = 0 := by omega
      subst this
      simp only [reduceIte]
      exact rfl
    · unfold RP
      simp only [bgC, bg10, bg12, bg14, bg16, bg18, gS_sS, gS_sA, gS_sL, gS_fA, gS_fL, gA_sS, gA_sA, gA_sL, gA_fA, gA_fL, gL_sS, gL_sA, gL_sL, gL_fA, gL_fL, reduceIte, Nat.reduceEqDiff, jupd, jupdL, jfill, tS]
      refine ⟨by decide, rfl, rfl, fun p hp => by omega, fun p q hp => by omega, fun c hc => ?_, fun a ha => ?_⟩
      · rw [if_pos hc]; exact rfl
      · rw [(t22 a ha).1]; exact rfl
    · intro p h hp
      omega
    · unfold RY
      simp only [bgC, bg10, bg12, bg14, bg16, bg18, gS_sS, gS_sA, gS_sL, gS_fA, gS_fL, gA_sS, gA_sA, gA_sL, gA_fA, gA_fL, gL_sS, gL_sA, gL_sL, gL_fA, gL_fL, reduceIte, Nat.reduceEqDiff, jupd, jupdL, tS]
      exact ⟨rfl, rfl, rfl, by omega, fun i hi => by omega, fun i j hi => by omega⟩
    · unfold RLf
      simp only [bgC, bg10, bg12, bg14, bg16, bg18, gS_sS, gS_sA, gS_sL, gS_fA, gS_fL, gA_sS, gA_sA, gA_sL, gA_fA, gA_fL, gL_sS, gL_sA, gL_sL, gL_fA, gL_fL, reduceIte, Nat.reduceEqDiff, jupd, jupdL]
      exact rfl
    · unfold RS
      simp only [bgC, bg10, bg12, bg14, bg16, bg18, gS_sS, gS_sA, gS_sL, gS_fA, gS_fL, gA_sS, gA_sA, gA_sL, gA_fA, gA_fL, gL_sS, gL_sA, gL_sL, gL_fA, gL_fL, reduceIte, Nat.reduceEqDiff, jupd, jupdL, jfill, tS]
      refine ⟨by decide, by decide, rfl, rfl, rfl, rfl, fun r hr => by omega, fun r r' hr => by omega, fun a ha => ?_, fun i hi => by omega⟩
      rw [if_pos ha]
      exact Or.inl ⟨rfl, fun r hr => by omega⟩
    · intro r hr
      omega
    · unfold RDw
      simp only [bgC, bg10, bg12, bg14, bg16, bg18, gS_sS, gS_sA, gS_sL, gS_fA, gS_fL, gA_sS, gA_sA, gA_sL, gA_fA, gA_fL, gL_sS, gL_sA, gL_sL, gL_fA, gL_fL, reduceIte, Nat.reduceEqDiff, jupd, jupdL, tS]
      exact ⟨rfl, by decide, rfl, fun n hn => by omega⟩
    · exact ⟨Nat.zero_le _, fun n hn => by omega, fun n n' hn => by omega, fun i hi => by omega⟩
    · intro e he
      simp only [bgC, bg10, bg12, bg14, bg16, bg18, gS_sS, gS_sA, gS_sL, gS_fA, gS_fL, gA_sS, gA_sA, gA_sL, gA_fA, gA_fL, gL_sS, gL_sA, gL_sL, gL_fA, gL_fL, reduceIte, Nat.reduceEqDiff, jupd, jupdL, jfill]
      rw [if_pos he, t34 e he]
      exact Or.inl ⟨rfl, rfl⟩
    · unfold RK
      simp only [bgC, bg10, bg12, bg14, bg16, bg18, gS_sS, gS_sA, gS_sL, gS_fA, gS_fL, gA_sS, gA_sA, gA_sL, gA_fA, gA_fL, gL_sS, gL_sA, gL_sL, gL_fA, gL_fL, reduceIte, Nat.reduceEqDiff, jupd, jupdL, jfill, tS]
      refine ⟨trivial, trivial, trivial, trivial, fun a ha => ?_, fun a _ ha => (t22 a ha).2, trivial, trivial, trivial, trivial, h0, trivial, by decide, trivial, tA 37 (by decide) (by decide) (by decide)⟩
      rw [if_pos ha, (t22 a ha).2]
  have hgo2 : Go (bgC σ) (sS (sA (sA (sA (sA τ2 10 0 0) 11 0 0) 12 0 0) 13 0 0) 12 1) := by
    unfold Go
    simp only [bgC, bg10, bg12, bg14, bg16, bg18, gS_sS, gS_sA, gS_sL, gS_fA, gS_fL, gA_sS, gA_sA, gA_sL, gA_fA, gA_fL, gL_sS, gL_sA, gL_sL, gL_fA, gL_fL, reduceIte, Nat.reduceEqDiff, jupd, jupdL, tS]
    exact ⟨trivial, trivial, trivial, trivial, trivial⟩
  obtain ⟨σ', τ', z1, z2, z3⟩ := lp_tokens nT 0 0 0 _ _ (by omega) hG2 hR2 (Or.inl hgo2)
  refine ⟨σ', τ', fun K hK => ev_begin ⟨nT + 1, z1 K hK (nT + 1) (by omega)⟩, fun K hK => ⟨81, a1 K ⟨11, b1 K (hcol _ ⟨nT + 1, z2 K hK (nT + 1) (by omega)⟩) 11 (by omega)⟩ 81 (by omega)⟩, z3⟩
