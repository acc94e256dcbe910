/-! ===== act ===== -/
theorem jports_ok : ∀ k, k < 22 → (k ≠ 14 → jports k = nI (jpo k)) := by decide +kernel
theorem ev_pC {k pp : Nat} {σ : St} {a3 : Int32} {K : Int32 → St → Prop} (hk : k < 22) (h1 : k ≠ 14 → pp = jpo k) (h2 : k = 14 → a3 = nI pp) (h : K (nI pp) σ) : w_X3_portsOf σ (nI k) a3 K := by
  unfold w_X3_portsOf w_X3_exists
  by_cases e : k = 14
  · rw [h2 e, e]
    exact jbr rfl h
  · have := jports_ok k hk e
    rw [nI_clamp (show k < 2 ^ 31 by omega), this, ← h1 e]
    exact jbf (nkne hk (j := 14) (by decide) e) (jbf (nI_pos (by omega)) (jbf (nI_nlt (a := 21) (by omega) (by decide)) (jbn (by decide) ⟨vp_in_nI hk (by decide), h⟩)))
theorem ev_pM {k pp : Nat} {τ : St} {a3 : Int32} {K : Int32 → St → Prop} (hk : k < 22) (h1 : k ≠ 14 → pp = jpo k) (h2 : k = 14 → a3 = nI pp) (h : K (nI pp) τ) : w_X10_portsOf τ (nI k) a3 K := by
  unfold w_X10_portsOf
  by_cases e : k = 14
  · rw [h2 e, e]
    exact jbm rfl h
  · rw [h1 e] at h
    refine jbn (nkne hk (j := 14) (by decide) e) ?_
    by_cases e19 : k = 19
    · subst e19
      exact jbm rfl h
    · refine jbn (nkne hk (j := 19) (by decide) e19) ?_
      by_cases e28 : 2 ≤ k ∧ k ≤ 8
      · have : jpo k = 2 := by unfold jpo; rw [if_pos (by omega)]
        rw [this] at h
        exact ev_in_ok (nI_nlt (b := 2) (by omega) (by omega)) (nI_nlt (a := 8) (by omega) (by decide)) (jbn (by decide) h)
      · have hin : ∀ K : Int32 → St → Prop, K 0 τ → w_X10_in τ (nI k) 2 8 K := fun K hh => by
          by_cases y : k < 2
          · exact ev_in_lo (nI_lt (b := 2) y (by decide)) hh
          · exact ev_in_hi (nI_nlt (b := 2) (by omega) (by omega)) (nI_lt (a := 8) (by omega) (by omega)) hh
        refine hin _ (jbm rfl ?_)
        by_cases e10 : k = 10
        · subst e10
          exact jbr rfl h
        · refine jbf (nkne hk (j := 10) (by decide) e10) ?_
          by_cases e18 : k = 18
          · subst e18
            exact jbm rfl h
          · have : jpo k = 1 := by unfold jpo; rw [if_neg (by omega), if_neg e19]
            rw [this] at h
            exact jbn (nkne hk (j := 18) (by decide) e18) h
/-- an act's kind, number and ports, on both sides -/
theorem act_eval {k : Nat} (hk : k < 22) (a2 a3 : Int32) (σ τ : St) (nA : Nat) (hA : nA < 80) (h0 : gS τ 0 = nI nA) :
    (∀ K K' : Int32 → St → Prop, (K (-1) σ → w_X2_addAct σ (nI k) a2 a3 K) ∧ (K' (-1) τ → w_X10_act τ (nI k) a2 a3 K')) ∨
    (∃ pp, 1 ≤ pp ∧ pp ≤ 3 ∧ (k ≠ 14 → pp = jpo k) ∧ (k = 14 → a3 = nI pp) ∧ ((11 ≤ k ∧ k ≤ 14) ∨ k = 21 → isN a2 10) ∧ (k = 15 → isN a2 100) ∧ ∀ K K' : Int32 → St → Prop, (b_X2_addAct_28 K σ (nI k) a2 a3 1 → w_X2_addAct σ (nI k) a2 a3 K) ∧ (b_X10_act_93 K' τ (nI k) a2 a3 → w_X10_act τ (nI k) a2 a3 K')) := by
  have n : ∀ j, j < 100 → k ≠ j → ¬ nI k = nI j := fun j hj hne => nkne hk hj hne
  have hex : ∀ K : Int32 → St → Prop, K 1 σ → w_X3_exists σ (nI k) K := fun K h => jbf (nI_pos (by omega)) (jbf (nI_nlt (a := 21) (by omega) (by decide)) h)
  have hC : ∀ K : Int32 → St → Prop, w_X3_allowsNumber σ (nI k) a2 (fun r u => (r = 0 → b_X2_addAct_28 K u (nI k) a2 a3 0) ∧ (¬ r = 0 → w_X3_allowsPorts u (nI k) a3 (fun r u => (r = 0 → b_X2_addAct_28 K u (nI k) a2 a3 0) ∧ (¬ r = 0 → b_X2_addAct_28 K u (nI k) a2 a3 1)))) → w_X2_addAct σ (nI k) a2 a3 K := fun K h => hex _ (jbf (by decide) h)
  have hM : ∀ K : Int32 → St → Prop, w_X10_in τ (nI k) 11 14 (fun r_18 u_17 => (¬ r_18 = 0 → (w_X10_in u_17 a2 0 9 (fun (r_20 : Int32) (u_19 : St) => (¬ r_20 = 0 → (b_X10_act_50 K u_19 (nI k) a2 a3)) ∧ (r_20 = 0 → (K (-1) u_19))))) ∧ (r_18 = 0 → ((¬ nI k = 21 → (b_X10_act_50 K u_17 (nI k) a2 a3)) ∧ (nI k = 21 → (w_X10_in u_17 a2 0 9 (fun (r_23 : Int32) (u_22 : St) => (¬ r_23 = 0 → (b_X10_act_50 K u_22 (nI k) a2 a3)) ∧ (r_23 = 0 → (K (-1) u_22)))))))) → w_X10_act τ (nI k) a2 a3 K := fun K h => by
    unfold w_X10_act
    exact ev_in_ok (nI_pos (by omega)) (nI_nlt (a := 21) (by omega) (by decide)) (jbf (by decide) (jbn (by rw [h0]; exact fun z => by have := nI_inj (b := 80) (by omega) (by decide) z; omega) h))
  have h28 : ∀ K : Int32 → St → Prop, K (-1) σ → b_X2_addAct_28 K σ (nI k) a2 a3 0 := fun K h => jbr rfl h
  have hin1 : (11 ≤ k ∧ k ≤ 14) → ∀ K : Int32 → St → Prop, K 1 τ → w_X10_in τ (nI k) 11 14 K := fun hr K h => ev_in_ok (nI_nlt (b := 11) (by omega) (by omega)) (nI_nlt (a := 14) (by omega) (by decide)) h
  have hin0 : ¬ (11 ≤ k ∧ k ≤ 14) → ∀ K : Int32 → St → Prop, K 0 τ → w_X10_in τ (nI k) 11 14 K := fun hr K h => by
    by_cases y : k < 11
    · exact ev_in_lo (nI_lt (b := 11) y (by decide)) h
    · exact ev_in_hi (nI_nlt (b := 11) (by omega) (by omega)) (nI_lt (a := 14) (by omega) (by omega)) h
  -- the number of kinds 11 to 14 and 21
  by_cases c1 : (11 ≤ k ∧ k ≤ 14) ∨ k = 21
  · have hor : (nI k = 11 ∨ nI k = 12 ∨ nI k = 13 ∨ nI k = 14 ∨ nI k = 21) := by
      rcases (show k = 11 ∨ k = 12 ∨ k = 13 ∨ k = 14 ∨ k = 21 by omega) with rfl | rfl | rfl | rfl | rfl <;> decide
    have hM9 : ∀ K : Int32 → St → Prop, w_X10_in τ a2 0 9 (fun r u => (¬ r = 0 → b_X10_act_50 K u (nI k) a2 a3) ∧ (r = 0 → K (-1) u)) → w_X10_act τ (nI k) a2 a3 K := fun K h => by
      by_cases r : 11 ≤ k ∧ k ≤ 14
      · exact hM K (hin1 r _ (jbn (by decide) h))
      · have hk21 : k = 21 := by omega
        exact hM K (hin0 r _ (jbm rfl (jbm (by rw [hk21]; rfl) h)))
    have hbad : (a2 < 0 ∨ (¬ a2 < 0 ∧ 9 < a2)) → (∀ K K' : Int32 → St → Prop, (K (-1) σ → w_X2_addAct σ (nI k) a2 a3 K) ∧ (K' (-1) τ → w_X10_act τ (nI k) a2 a3 K')) := fun hb K K' => by
      refine ⟨fun h => hC K ?_, fun h => hM9 K' ?_⟩
      · unfold w_X3_allowsNumber
        refine jbr hor ?_
        rcases hb with x | ⟨x, y⟩
        · exact jbr x (jbr rfl (h28 K h))
        · exact jbf x (jbr y (jbr rfl (h28 K h)))
      · rcases hb with x | ⟨x, y⟩
        · exact ev_in_lo x (jbm rfl h)
        · exact ev_in_hi x y (jbm rfl h)
    by_cases x : a2 < 0
    · exact Or.inl (hbad (Or.inl x))
    · by_cases y : 9 < a2
      · exact Or.inl (hbad (Or.inr ⟨x, y⟩))
      · obtain ⟨nn, hnn, e2⟩ := nI_of2 (M := 9) (n := 9) (by decide) x (Int32.not_lt.mp y)
        have hN : ∀ K : Int32 → St → Prop, K 1 σ → w_X3_allowsNumber σ (nI k) a2 K := fun K h => by
          unfold w_X3_allowsNumber
          exact jbr hor (jbf x (jbf y h))
        have hM2 : ∀ K : Int32 → St → Prop, b_X10_act_76 K τ (nI k) a2 a3 → w_X10_act τ (nI k) a2 a3 K := fun K h => by
          refine hM9 K (ev_in_ok x y (jbn (by decide) ?_))
          unfold b_X10_act_50
          exact jbn (n 15 (by decide) (by omega)) h
        by_cases e14 : k = 14
        · have hpbad : (a3 < 1 ∨ (¬ a3 < 1 ∧ 3 < a3)) → (∀ K K' : Int32 → St → Prop, (K (-1) σ → w_X2_addAct σ (nI k) a2 a3 K) ∧ (K' (-1) τ → w_X10_act τ (nI k) a2 a3 K')) := fun hb K K' => by
            refine ⟨fun h => hC K (hN _ (jbf (by decide) ?_)), fun h => hM2 K' ?_⟩
            · unfold w_X3_allowsPorts
              refine jbm (by rw [e14]; rfl) ?_
              rcases hb with x | ⟨x, y⟩
              · exact jbr x (jbr rfl (h28 K h))
              · exact jbf x (jbr y (jbr rfl (h28 K h)))
            · unfold b_X10_act_76
              refine jbm (by rw [e14]; rfl) ?_
              rcases hb with x | ⟨x, y⟩
              · exact ev_in_lo x (jbm rfl h)
              · exact ev_in_hi x y (jbm rfl h)
          by_cases x3 : a3 < 1
          · exact Or.inl (hpbad (Or.inl x3))
          · by_cases y3 : 3 < a3
            · exact Or.inl (hpbad (Or.inr ⟨x3, y3⟩))
            · have x0 : ¬ a3 < 0 := fun z => x3 (by
                apply Int32.lt_iff_toInt_lt.mpr
                have := Int32.lt_iff_toInt_lt.mp z
                have e0 : (0 : Int32).toInt = 0 := by decide
                have e1 : (1 : Int32).toInt = 1 := by decide
                omega)
              obtain ⟨pp, hpp, e3⟩ := nI_of2 (M := 3) (n := 3) (by decide) x0 (Int32.not_lt.mp y3)
              refine Or.inr ⟨pp, ?_, hpp, fun z => absurd e14 z, fun _ => e3, fun _ => ⟨nn, by omega, e2⟩, fun z => by omega, fun K K' => ⟨fun h => hC K (hN _ (jbf (by decide) ?_)), fun h => hM2 K' ?_⟩⟩
              · rcases Nat.eq_zero_or_pos pp with z | z
                · subst z
                  exact absurd (by rw [e3]; decide) x3
                · exact z
              · unfold w_X3_allowsPorts
                exact jbm (by rw [e14]; rfl) (jbf x3 (jbf y3 (jbf (by decide) h)))
              · unfold b_X10_act_76
                exact jbm (by rw [e14]; rfl) (ev_in_ok x3 y3 (jbn (by decide) h))
        · refine Or.inr ⟨jpo k, ?_, ?_, fun _ => rfl, fun z => absurd z e14, fun _ => ⟨nn, by omega, e2⟩, fun z => by omega, fun K K' => ⟨fun h => hC K (hN _ (jbf (by decide) ?_)), fun h => hM2 K' ?_⟩⟩
          · unfold jpo; split <;> (try split) <;> omega
          · unfold jpo; split <;> (try split) <;> omega
          · unfold w_X3_allowsPorts
            exact jbn (n 14 (by decide) e14) (jbf (by decide) h)
          · unfold b_X10_act_76
            exact jbn (n 14 (by decide) e14) h
  · have hor : ¬ (nI k = 11 ∨ nI k = 12 ∨ nI k = 13 ∨ nI k = 14 ∨ nI k = 21) := by
      rintro (z | z | z | z | z)
      · exact n 11 (by decide) (by omega) z
      · exact n 12 (by decide) (by omega) z
      · exact n 13 (by decide) (by omega) z
      · exact n 14 (by decide) (by omega) z
      · exact n 21 (by decide) (by omega) z
    have hM50 : ∀ K : Int32 → St → Prop, b_X10_act_50 K τ (nI k) a2 a3 → w_X10_act τ (nI k) a2 a3 K := fun K h => hM K (hin0 (by omega) _ (jbm rfl (jbn (n 21 (by decide) (by omega)) h)))
    have e14 : k ≠ 14 := by omega
    have hjp : 1 ≤ jpo k ∧ jpo k ≤ 3 := by unfold jpo; constructor <;> split <;> (try split) <;> omega
    by_cases e15 : k = 15
    · have hcl : ∀ K : Int32 → St → Prop, ((a2 < 0 → b_X2_addAct_28 K σ (nI k) a2 a3 0) ∧ (¬ a2 < 0 → ((99 < a2 → b_X2_addAct_28 K σ (nI k) a2 a3 0) ∧ (¬ 99 < a2 → ((3 ≤ (a2 - a2 / 10 * 10) → b_X2_addAct_28 K σ (nI k) a2 a3 0) ∧ (¬ 3 ≤ (a2 - a2 / 10 * 10) → b_X2_addAct_28 K σ (nI k) a2 a3 1)))))) → w_X2_addAct σ (nI k) a2 a3 K := fun K h => by
        refine hC K ?_
        unfold w_X3_allowsNumber
        refine jbf hor (jbr (by rw [e15]; rfl) ⟨fun x => jbr rfl (h.1 x), fun x => ⟨fun y => jbr rfl ((h.2 x).1 y), fun y => ⟨fun z => jbr rfl (((h.2 x).2 y).1 z), fun z => jbf (by decide) ?_⟩⟩⟩)
        unfold w_X3_allowsPorts
        exact jbn (n 14 (by decide) e14) (jbf (by decide) (((h.2 x).2 y).2 z))
      have hml : ∀ K : Int32 → St → Prop, ((a2 < 0 → K (-1) τ) ∧ (¬ a2 < 0 → ((99 < a2 → K (-1) τ) ∧ (¬ 99 < a2 → (((a2 - a2 / 10 * 10) ≤ 2 → b_X10_act_93 K τ (nI k) a2 a3) ∧ (¬ (a2 - a2 / 10 * 10) ≤ 2 → K (-1) τ)))))) → w_X10_act τ (nI k) a2 a3 K := fun K h => by
        refine hM50 K ?_
        unfold b_X10_act_50
        refine jbm (by rw [e15]; rfl) ?_
        by_cases x : a2 < 0
        · exact ev_in_lo x (jbr rfl (h.1 x))
        · by_cases y : 99 < a2
          · exact ev_in_hi x y (jbr rfl ((h.2 x).1 y))
          · refine ev_in_ok x y (jbf (by decide) ⟨fun z => ?_, fun z => ((h.2 x).2 y).2 z⟩)
            unfold b_X10_act_76
            exact jbn (n 14 (by decide) e14) (((h.2 x).2 y).1 z)
      by_cases x : a2 < 0
      · exact Or.inl (fun K K' => ⟨fun h => hcl K (jbr x (h28 K h)), fun h => hml K' (jbr x h)⟩)
      · by_cases y : 99 < a2
        · exact Or.inl (fun K K' => ⟨fun h => hcl K (jbf x (jbr y (h28 K h))), fun h => hml K' (jbf x (jbr y h))⟩)
        · have h32 : ¬ 3 ≤ (a2 - a2 / 10 * 10) ↔ (a2 - a2 / 10 * 10) ≤ 2 := by
            constructor
            · intro z
              apply Int32.le_iff_toInt_le.mpr
              have := Int32.lt_iff_toInt_lt.mp (Int32.not_le.mp z)
              have e2 : (2 : Int32).toInt = 2 := by decide
              have e3 : (3 : Int32).toInt = 3 := by decide
              omega
            · intro z w
              have h1 := Int32.le_iff_toInt_le.mp z
              have h2 := Int32.le_iff_toInt_le.mp w
              have e2 : (2 : Int32).toInt = 2 := by decide
              have e3 : (3 : Int32).toInt = 3 := by decide
              omega
          obtain ⟨nn, hnn, e2⟩ := nI_of2 (M := 99) (n := 99) (by decide) x (Int32.not_lt.mp y)
          by_cases z : 3 ≤ (a2 - a2 / 10 * 10)
          · exact Or.inl (fun K K' => ⟨fun h => hcl K (jbf x (jbf y (jbr z (h28 K h)))), fun h => hml K' (jbf x (jbf y (jbf (fun w => h32.mpr w z) h)))⟩)
          · exact Or.inr ⟨jpo k, hjp.1, hjp.2, fun _ => rfl, fun w => absurd w e14, fun w => absurd w c1, fun _ => ⟨nn, by omega, e2⟩, fun K K' => ⟨fun h => hcl K (jbf x (jbf y (jbf z h))), fun h => hml K' (jbf x (jbf y (jbr (h32.mp z) h)))⟩⟩
    · refine Or.inr ⟨jpo k, hjp.1, hjp.2, fun _ => rfl, fun w => absurd w e14, fun w => absurd w c1, fun w => absurd w e15, fun K K' => ⟨fun h => hC K ?_, fun h => hM50 K' ?_⟩⟩
      · unfold w_X3_allowsNumber
        refine jbf hor (jbf (n 15 (by decide) e15) (jbf (by decide) ?_))
        unfold w_X3_allowsPorts
        exact jbn (n 14 (by decide) e14) (jbf (by decide) h)
      · unfold b_X10_act_50
        refine jbn (n 15 (by decide) e15) ?_
        unfold b_X10_act_76
        exact jbn (n 14 (by decide) e14) h
theorem addAct_full {a1 a2 a3 : Int32} {σ : St} {K : Int32 → St → Prop} (h1 : ¬ gS σ 1 < 80) (h : K (-1) σ) : w_X2_addAct σ a1 a2 a3 K := by
  have h28 : ∀ t, b_X2_addAct_28 K σ a1 a2 a3 t := fun t => ⟨fun _ => h, fun _ => jbf h1 h⟩
  unfold w_X2_addAct w_X3_exists
  have hP : ∀ r : Int32, (r = 0 → b_X2_addAct_28 K σ a1 a2 a3 0) ∧ (¬ r = 0 → b_X2_addAct_28 K σ a1 a2 a3 1) := fun r => ⟨fun _ => h28 0, fun _ => h28 1⟩
  have hN : ∀ r : Int32, (r = 0 → b_X2_addAct_28 K σ a1 a2 a3 0) ∧ (¬ r = 0 → w_X3_allowsPorts σ a1 a3 (fun r u => (r = 0 → b_X2_addAct_28 K u a1 a2 a3 0) ∧ (¬ r = 0 → b_X2_addAct_28 K u a1 a2 a3 1))) := fun r => ⟨fun _ => h28 0, fun _ => ⟨fun _ => hP 1, fun _ => ⟨fun _ => hP 0, fun _ => ⟨fun _ => hP 0, fun _ => hP 1⟩⟩⟩⟩
  have hE : ∀ r : Int32, (r = 0 → b_X2_addAct_28 K σ a1 a2 a3 0) ∧ (¬ r = 0 → w_X3_allowsNumber σ a1 a2 (fun r u => (r = 0 → b_X2_addAct_28 K u a1 a2 a3 0) ∧ (¬ r = 0 → w_X3_allowsPorts u a1 a3 (fun r u => (r = 0 → b_X2_addAct_28 K u a1 a2 a3 0) ∧ (¬ r = 0 → b_X2_addAct_28 K u a1 a2 a3 1))))) := fun r => ⟨fun _ => h28 0, fun _ => ⟨fun _ => ⟨fun _ => hN 0, fun _ => ⟨fun _ => hN 0, fun _ => hN 1⟩⟩, fun _ => ⟨fun _ => ⟨fun _ => hN 0, fun _ => ⟨fun _ => hN 0, fun _ => ⟨fun _ => hN 0, fun _ => hN 1⟩⟩⟩, fun _ => hN 1⟩⟩⟩
  exact ⟨fun _ => hE 0, fun _ => ⟨fun _ => hE 0, fun _ => hE 1⟩⟩
