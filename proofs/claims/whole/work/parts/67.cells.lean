/-! ===== READ and WRITE: which cell ===== -/
theorem m1_lt {j : Nat} (h : j < 2 ^ 31) : (-1 : Int32) < nI j := by
  apply Int32.lt_iff_toInt_lt.mpr
  rw [nI_toInt h, show (-1 : Int32).toInt = -1 from by decide]
  omega
theorem in_out {z j : Nat} (hz : z ≤ j) (hj : j < 2 ^ 31) : nI z - 1 < nI j := by
  rcases Nat.eq_zero_or_pos z with rfl | h
  · exact m1_lt hj
  · obtain ⟨z, rfl⟩ : ∃ y, z = y + 1 := ⟨z - 1, by omega⟩
    rw [nI_pred]
    exact nI_lt (by omega) hj
theorem in_in {z j : Nat} (hz : j < z) (hj : z < 2 ^ 31) : ¬ nI z - 1 < nI j := by
  obtain ⟨z, rfl⟩ : ∃ y, z = y + 1 := ⟨z - 1, by omega⟩
  rw [nI_pred]
  exact nI_nlt (by omega) (by omega)
theorem cell_case {cx : Cx} {nA nW nT nC nP m hd nR nCe nQ p a c k q : Nat} {pr : Nat → Nat} {σ τ : St} (hF : Fire cx nA nW nT nC nP m hd nR nCe nQ p a c k q pr σ τ) (hk : k = 18 ∨ k = 19) :
    (∃ (y : Int64) (kk v of : Int32), vr nR y kk v of ∧ ¬ lg_cmp y 0 = 0 ∧ (∀ K : Int32 → Int64 → St → Prop, (∀ pl, K pl y σ) → w_X4_placeAsked σ (nI p) (fun r u => w_X4_refuseCell u (nI p) (nI a) r (fun r4 u3 => K r r4 u3))) ∧ (∀ K : Int32 → St → Prop, w_X10_gives τ (nI a) 0 (nI c) kk v of K → w_X10_goesOff τ (nI p) K)) ∨
    (∃ r ii s z, r < nR ∧ ii < z ∧ z ≤ 200 ∧ s + z ≤ nCe ∧ gA τ 25 r = nI s ∧ gA τ 26 r = nI z ∧ gA τ 20 (3 * p + 0) = nI r ∧ gA τ 20 (3 * p + 1) = nI ii ∧ (∀ K : Int32 → Int64 → St → Prop, K (nI (s + ii)) 0 σ → w_X4_placeAsked σ (nI p) (fun r u => w_X4_refuseCell u (nI p) (nI a) r (fun r4 u3 => K r r4 u3))) ∧ (∀ K : Int32 → St → Prop, b_X10_cells_50 K τ (nI p) (nI k) (nI a) (nI c) → w_X10_goesOff τ (nI p) K)) := by
  obtain ⟨hG, hR, hgo, hp, h14, h15, ha, hc, h0, hk22, h2, hq1, hq3, hjq, hvr, h17, hq2, hr1, hr2⟩ := hF
  have hP := hR.2.1.1
  have hA := hG.1
  have hS := hR.2.2.2.2.2.1
  have hR3 := hS.1
  have hp3 : p < 3000 := by omega
  have ha8 : a < 80 := by omega
  have hpi : vp_in (nI p) 3000 := vp_in_nI hp3 (by decide)
  have hq2' : 2 ≤ q := by rcases hk with rfl | rfl <;> rw [hjq (by decide)] <;> decide
  have v0 := hvr 0 (by omega)
  have v1 := hvr 1 (by omega)
  have hgoM : ∀ K : Int32 → St → Prop, b_X10_goesOff_197 K τ (nI p) (nI a) (nI c) (nI k) (nI p) (nI 2) → w_X10_goesOff τ (nI p) K := fun K h => by
    rcases hk with hk | hk
    · have hqq : q = 2 := by rw [hjq (by omega), hk]; rfl
      subst hqq
      exact ev_goes_def hp3 ha8 h14 h15 h0 h2 hk22 (by omega) h
    · exact ev_goes_197 hp3 ha8 h14 h15 h0 h2 hk h
  have hany : ∀ K : Int32 → St → Prop, (∀ pl, K pl σ) → w_X4_placeAsked σ (nI p) K := fun K h => by
    unfold w_X4_placeAsked w_X8_contentOf
    refine ev_came (j := 0) hp3 (by decide) ?_
    refine ev_came (j := 1) hp3 (by decide) ?_
    generalize (gL σ 4 (3 * p + 0)).toInt32 = rr
    generalize (gL σ 4 (3 * p + 1)).toInt32 = jj
    unfold w_X6_placeIn w_X6_sizeOf
    rw [hS.2.2.1]
    refine ⟨fun _ => h _, fun hj => ⟨fun hr => ⟨fun _ => h _, fun hz => ?_⟩, fun hr => ⟨fun _ => ⟨fun _ => h _, fun hz => ?_⟩, fun hr2 => ?_⟩⟩⟩
    · exact absurd (Int32.not_lt.mp hj) hz
    · exact absurd (Int32.not_lt.mp hj) hz
    · rcases pk_ix rr (n := nR) (by omega) with x | x | ⟨j, hj2, rfl⟩
      · exact absurd x hr
      · exact absurd x hr2
      · exact ⟨vp_in_nI (by omega) (by decide), fun _ => h _, fun _ => ⟨vp_in_nI (by omega) (by decide), h _⟩⟩
  have hrc : ∀ (pl : Int32) (K : Int64 → St → Prop), w_X8_refuseTwo σ (nI a) (gL σ 4 (3 * p + 0)) 2 (gL σ 4 (3 * p + 1)) 1 (fun r u => (¬ lg_cmp r 0 = 0 → K r u) ∧ (lg_cmp r 0 = 0 → ((¬ pl = -1 → K r u) ∧ (pl = -1 → w_X8_ofFault u 2 (nI a) K)))) → w_X4_refuseCell σ (nI p) (nI a) pl K := fun pl K h => by
    unfold w_X4_refuseCell
    refine ev_came (j := 0) hp3 (by decide) ?_
    exact ev_came (j := 1) hp3 (by decide) h
  have hk9 : ¬ nI k ≤ 9 := nI_ge (a := 9) (by omega) (by omega)
  have hk17 : ¬ nI k = 17 := nkne hk22 (j := 17) (by decide) (by omega)
  have hk20 : ¬ nI k = 20 := nkne hk22 (j := 20) (by decide) (by omega)
  have hne : ∀ cc, 1 ≤ cc → cc < 6 → ¬ lg_cmp (encF cc a) 0 = 0 := fun cc h1 h6 => lgne (encF_ne (nR := nR) h6 h1 ha8 hR3)
  by_cases e0 : gA τ 19 (3 * p + 0) = 3
  · left
    rw [e0] at v0
    refine ⟨_, 3, _, _, v0, lgne (v0.ne0 hR3), fun K hK => hany _ (fun pl => hrc _ _ ?_), fun K hK => hgoM K ?_⟩
    · exact ev_refuse2_f1 v0 hR3 (jbn (lgne (v0.ne0 hR3)) (hK pl))
    · exact ev_197_at hp3 (by decide) (j0 := 0) (by decide) (fun j hj => by omega) e0 hK
  · by_cases e1 : gA τ 19 (3 * p + 1) = 3
    · left
      rw [e1] at v1
      refine ⟨_, 3, _, _, v1, lgne (v1.ne0 hR3), fun K hK => hany _ (fun pl => hrc _ _ ?_), fun K hK => hgoM K ?_⟩
      · exact ev_refuse2_f2 v0 v1 hR3 e0 (jbn (lgne (v1.ne0 hR3)) (hK pl))
      · refine ev_197_at hp3 (by decide) (j0 := 1) (by decide) (fun j hj => ?_) e1 hK
        rcases (show j = 0 by omega) with rfl
        exact e0
    · have hnf : ∀ j, j < 2 → ¬ gA τ 19 (3 * p + j) = 3 := fun j hj => by
        rcases (show j = 0 ∨ j = 1 by omega) with rfl | rfl
        · exact e0
        · exact e1
      have hgo2 : ∀ K : Int32 → St → Prop, ((¬ gA τ 19 (3 * p + 0) = 2 → w_X10_faults τ (nI a) (nI c) 4 K) ∧ (gA τ 19 (3 * p + 0) = 2 → ((gA τ 19 (3 * p + 1) = 1 → b_X10_cells_50 K τ (nI p) (nI k) (nI a) (nI c)) ∧ (¬ gA τ 19 (3 * p + 1) = 1 → w_X10_faults τ (nI a) (nI c) 4 K)))) → w_X10_goesOff τ (nI p) K := fun K h => by
        refine hgoM K (ev_197_none (t1 := 0) hp3 (by decide) hnf (jbf hk9 (jbn hk17 ?_)))
        unfold w_X10_cells
        rw [nI_clamp (show p < 2 ^ 31 by omega), h14, h15]
        refine ⟨hpi, hpi, ?_⟩
        refine ev_kindAt (j := 0) hp3 (by decide) ⟨h.1, fun z => jbf hk20 ?_⟩
        exact ev_kindAt (j := 1) hp3 (by decide) (h.2 z)
      by_cases eok : gA τ 19 (3 * p + 0) = 2 ∧ gA τ 19 (3 * p + 1) = 1
      · obtain ⟨e2, e3⟩ := eok
        rcases id v0 with ⟨z, -⟩ | ⟨-, r, hr, hrv, hrx⟩ | ⟨z, -⟩
        · rw [e2] at z; exact absurd z (by decide)
        · obtain ⟨-, s, z, g1, g2, g3, g4, g5, g6⟩ := hS.2.2.2.2.2.2.1 r hr
          rw [e2] at v0
          rw [e3] at v1
          have hri : vp_in (nI r) 300 := vp_in_nI (by omega) (by decide)
          have hpl : ∀ K : Int32 → St → Prop, ((gA τ 20 (3 * p + 1) < 0 → K (-1) σ) ∧ (¬ gA τ 20 (3 * p + 1) < 0 → ((nI z ≤ gA τ 20 (3 * p + 1) → K (-1) σ) ∧ (¬ nI z ≤ gA τ 20 (3 * p + 1) → K (nI s + gA τ 20 (3 * p + 1)) σ)))) → w_X4_placeAsked σ (nI p) K := fun K h => by
            unfold w_X4_placeAsked w_X8_contentOf
            refine ev_came (j := 0) hp3 (by decide) ?_
            refine ev_came (j := 1) hp3 (by decide) ?_
            rw [v0.con, v1.con, hrv]
            unfold w_X6_placeIn
            refine ⟨h.1, fun y => ?_⟩
            refine ev_sizeOf hS hr g3 ⟨(h.2 y).1, fun w => ⟨hri, ?_⟩⟩
            rw [nI_clamp (show r < 2 ^ 31 by omega), g1]
            exact (h.2 y).2 w
          have hM : ∀ (K : Int32 → St → Prop), b_X10_cells_50 K τ (nI p) (nI k) (nI a) (nI c) → w_X10_goesOff τ (nI p) K := fun K h => hgo2 K (jbm e2 (jbr e3 h))
          have hout : (gA τ 20 (3 * p + 1) < 0 ∨ (¬ gA τ 20 (3 * p + 1) < 0 ∧ nI z ≤ gA τ 20 (3 * p + 1))) → (∃ (y : Int64) (kk v of : Int32), vr nR y kk v of ∧ ¬ lg_cmp y 0 = 0 ∧ (∀ K : Int32 → Int64 → St → Prop, (∀ pl, K pl y σ) → w_X4_placeAsked σ (nI p) (fun r u => w_X4_refuseCell u (nI p) (nI a) r (fun r4 u3 => K r r4 u3))) ∧ (∀ K : Int32 → St → Prop, w_X10_gives τ (nI a) 0 (nI c) kk v of K → w_X10_goesOff τ (nI p) K)) := by
            intro ho
            refine ⟨encF 2 a, 3, 2, nI a, vr_fault (c := 2) (by decide) (by decide) ha8, hne 2 (by decide) (by decide), fun K hK => ?_, fun K hK => hM K ?_⟩
            · have hb : w_X4_refuseCell σ (nI p) (nI a) (-1) (fun r4 u3 => K (-1) r4 u3) := by
                refine hrc _ _ (ev_refuse2_ok v0 v1 hR3 (by decide) (by decide) (jbm lg00 (jbm rfl ?_)))
                exact ev_fault (c := 2) (by decide) ha8 (hK _)
              rcases ho with x | ⟨x, y⟩
              · exact hpl _ (jbr x hb)
              · exact hpl _ (jbf x (jbr y hb))
            · unfold b_X10_cells_50
              refine ev_valueAt (j := 0) hp3 (by decide) (jbn hk20 ?_)
              refine ev_valueAt (j := 1) hp3 (by decide) ?_
              rw [hrv, nI_clamp (show r < 2 ^ 31 by omega), g4]
              refine ⟨hri, ?_⟩
              rcases ho with x | ⟨x, y⟩
              · exact ev_in_lo x (jbm rfl hK)
              · obtain ⟨j, hj, e⟩ := nI_of x
                rw [e] at x y ⊢
                exact ev_in_hi x (in_out ((nI_leI (by omega) (by omega)).mp y) hj) (jbm rfl hK)
          rcases pk_ix (gA τ 20 (3 * p + 1)) (n := z) (by omega) with x | x | ⟨ii, hii, x⟩
          · exact Or.inl (hout (Or.inl x))
          · by_cases y : gA τ 20 (3 * p + 1) < 0
            · exact Or.inl (hout (Or.inl y))
            · exact Or.inl (hout (Or.inr ⟨y, x⟩))
          · right
            refine ⟨r, ii, s, z, hr, hii, g5, g6, g2, g4, hrv, x, fun K hK => hpl _ ?_, hM⟩
            rw [x]
            refine jbf (nI_pos (by omega)) (jbf (nI_ge hii (by omega)) ?_)
            rw [nI_add]
            refine hrc _ _ (ev_refuse2_ok v0 v1 hR3 (by decide) (by decide) (jbm lg00 (jbn (nI_m1 (by have := hS.2.1; omega)) hK)))
        · exact absurd z e0
      · left
        refine ⟨encF 4 a, 3, 4, nI a, vr_fault (c := 4) (by decide) (by decide) ha8, hne 4 (by decide) (by decide), fun K hK => hany _ (fun pl => hrc _ _ ?_), fun K hK => hgo2 K ?_⟩
        · exact ev_refuse2_bad v0 v1 hR3 e0 e1 eok ha8 (jbn (hne 4 (by decide) (by decide)) (hK pl))
        · by_cases x : gA τ 19 (3 * p + 0) = 2
          · exact jbm x (jbf (fun y => eok ⟨x, y⟩) hK)
          · exact jbn x hK
