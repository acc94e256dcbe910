/-! ===== the plain kinds: 0, 15, 1, 2 to 9 ===== -/
theorem nkne {k j : Nat} (hk : k < 22) (hj : j < 100) (h : k ≠ j) : ¬ nI k = nI j := fun z => h (nI_inj (by omega) (by omega) z)
theorem ev_goes_def {τ : St} {p a c k q : Nat} {K : Int32 → St → Prop} (hp : p < 3000) (ha : a < 80) (h14 : gA τ 14 p = nI a) (h15 : gA τ 15 p = nI c) (h0 : gA τ 0 a = nI k) (h2 : gA τ 2 a = nI q) (hk : k < 22) (hd : (2 ≤ k ∧ k ≤ 9) ∨ k = 17 ∨ k = 18 ∨ k = 20) (h : b_X10_goesOff_197 K τ (nI p) (nI a) (nI c) (nI k) (nI p) (nI q)) : w_X10_goesOff τ (nI p) K := by
  unfold w_X10_goesOff
  have hpi : vp_in (nI p) 3000 := vp_in_nI hp (by decide)
  have hai : vp_in (nI a) 80 := vp_in_nI ha (by decide)
  have n : ∀ j, j < 100 → k ≠ j → ¬ nI k = nI j := fun j hj hne => nkne hk hj hne
  rw [nI_clamp (show p < 2 ^ 31 by omega), h14, nI_clamp (show a < 2 ^ 31 by omega), h0, h15, h2]
  refine ⟨hpi, hpi, hai, jbf (fun z => z.elim (n 0 (by decide) (by omega)) (n 15 (by decide) (by omega))) (jbf (n 1 (by decide) (by omega)) (jbf (n 10 (by decide) (by omega)) (jbf (fun z => z.elim (n 11 (by decide) (by omega)) (fun z => z.elim (n 12 (by decide) (by omega)) (n 13 (by decide) (by omega)))) (jbf (n 14 (by decide) (by omega)) (jbf (n 16 (by decide) (by omega)) (jbf (n 21 (by decide) (by omega)) (jbn (n 19 (by decide) (by omega)) ⟨hai, h⟩)))))))⟩
theorem ev_reck_ne8 {τ : St} {p a c k : Nat} {K : Int32 → St → Prop} (hp : p < 3000) (h14 : gA τ 14 p = nI a) (h15 : gA τ 15 p = nI c) (hk : k < 22) (h8 : k ≠ 8) (h : ∃ n : Nat, w_X10_reckons_82 K n τ (nI p) (nI k) (nI a) (nI c) (gA τ 20 (3 * p + 0)) (gA τ 20 (3 * p + 1)) (nI 0)) : w_X10_reckons τ (nI p) (nI k) K := by
  unfold w_X10_reckons
  have hpi : vp_in (nI p) 3000 := vp_in_nI hp (by decide)
  rw [nI_clamp (show p < 2 ^ 31 by omega), h14, h15]
  refine ⟨hpi, hpi, ?_⟩
  refine ev_valueAt (j := 0) hp (by decide) ?_
  refine ev_valueAt (j := 1) hp (by decide) ?_
  exact jbn (nkne hk (j := 8) (by decide) h8) h
/-- two values: what the class and the reference make of them -/
theorem plain2 {cx : Cx} {nA nW nT nC nP m hd nR nCe nQ p a c k q : Nat} {pr : Nat → Nat} {σ τ : St} (hF : Fire cx nA nW nT nC nP m hd nR nCe nQ p a c k q pr σ τ) (hk2 : 2 ≤ k) (hk8 : k ≤ 8) :
    ∃ (y : Int64) (kk v of : Int32), vr nR y kk v of ∧ (∀ K : Int64 → St → Prop, K y σ → w_X7_ofTwo σ (nI k) (nI a) (gL σ 4 (3 * p + 0)) (gL σ 4 (3 * p + 1)) K) ∧ (∀ K : Int32 → St → Prop, w_X10_gives τ (nI a) 0 (nI c) kk v of K → w_X10_goesOff τ (nI p) K) := by
  obtain ⟨hG, hR, hgo, hp, h14, h15, ha, hc, h0, hk22, h2, hq1, hq3, hjq, hvr, h17, hq2, hr1, hr2⟩ := hF
  have hP := hR.2.1.1
  have hA := hG.1
  have hR3 := hR.2.2.2.2.2.1.1
  have hq : q = 2 := by rw [hjq (by omega)]; unfold jpo; rw [if_pos (by omega)]
  subst hq
  have v0 := hvr 0 (by decide)
  have v1 := hvr 1 (by decide)
  have hp3 : p < 3000 := by omega
  have ha8 : a < 80 := by omega
  have hle9 : nI k ≤ 9 := nI_le (b := 9) (by omega) (by decide)
  generalize hx : gL σ 4 (3 * p + 0) = x at v0 ⊢
  generalize hy : gL σ 4 (3 * p + 1) = y at v1 ⊢
  have hof : ∀ (t0 : Int32) (K : Int64 → St → Prop), (k ≠ 8 → t0 = 1) → (k = 8 → t0 = gA τ 19 (3 * p + 0)) → b_X7_ofTwo_14 K σ (nI k) (nI a) x y t0 → w_X7_ofTwo σ (nI k) (nI a) x y K := by
    intro t0 K f1 f2 h
    unfold w_X7_ofTwo w_X8_sortOf
    rw [v0.srt hR3]
    by_cases e : k = 8
    · rw [f2 e] at h
      exact jbm (by rw [e]; rfl) h
    · rw [f1 e] at h
      exact jbn (nkne hk22 (j := 8) (by decide) e) h
  by_cases e0 : gA τ 19 (3 * p + 0) = 3
  · rw [e0] at v0
    refine ⟨x, 3, _, _, v0, fun K hK => ?_, fun K hK => ?_⟩
    · refine hof (if k = 8 then gA τ 19 (3 * p + 0) else 1) K (fun z => if_neg z) (fun z => if_pos z) ?_
      unfold b_X7_ofTwo_14
      exact ev_refuse2_f1 v0 hR3 (jbf (lgne (v0.ne0 hR3)) hK)
    · exact ev_goes_def hp3 ha8 h14 h15 h0 h2 hk22 (by omega) (ev_197_at hp3 (by decide) (j0 := 0) (by decide) (fun j hj => by omega) e0 hK)
  · by_cases e1 : gA τ 19 (3 * p + 1) = 3
    · rw [e1] at v1
      refine ⟨y, 3, _, _, v1, fun K hK => ?_, fun K hK => ?_⟩
      · refine hof (if k = 8 then gA τ 19 (3 * p + 0) else 1) K (fun z => if_neg z) (fun z => if_pos z) ?_
        unfold b_X7_ofTwo_14
        exact ev_refuse2_f2 v0 v1 hR3 e0 (jbf (lgne (v1.ne0 hR3)) hK)
      · refine ev_goes_def hp3 ha8 h14 h15 h0 h2 hk22 (by omega) (ev_197_at hp3 (by decide) (j0 := 1) (by decide) (fun j hj => ?_) e1 hK)
        rcases (show j = 0 by omega) with rfl
        exact e0
    · have hnf : ∀ j, j < 2 → ¬ gA τ 19 (3 * p + j) = 3 := fun j hj => by
        rcases (show j = 0 ∨ j = 1 by omega) with rfl | rfl
        · exact e0
        · exact e1
      have hgo2 : ∀ K : Int32 → St → Prop, w_X10_reckons τ (nI p) (nI k) K → w_X10_goesOff τ (nI p) K := fun K h => ev_goes_def hp3 ha8 h14 h15 h0 h2 hk22 (by omega) (ev_197_none (t1 := 0) hp3 (by decide) hnf (jbr hle9 h))
      by_cases e8 : k = 8
      · subst e8
        have hre : ∀ K : Int32 → St → Prop, ((gA τ 19 (3 * p + 0) = gA τ 19 (3 * p + 1) → ((¬ gA τ 20 (3 * p + 0) = gA τ 20 (3 * p + 1) → w_X10_number τ (nI p) 0 K) ∧ (gA τ 20 (3 * p + 0) = gA τ 20 (3 * p + 1) → w_X10_number τ (nI p) 1 K))) ∧ (¬ gA τ 19 (3 * p + 0) = gA τ 19 (3 * p + 1) → w_X10_faults τ (nI a) (nI c) 4 K)) → w_X10_reckons τ (nI p) (nI 8) K := by
          intro K h
          unfold w_X10_reckons
          have hpi : vp_in (nI p) 3000 := vp_in_nI hp3 (by decide)
          rw [nI_clamp (show p < 2 ^ 31 by omega), h14, h15]
          refine ⟨hpi, hpi, ?_⟩
          refine ev_valueAt (j := 0) hp3 (by decide) ?_
          refine ev_valueAt (j := 1) hp3 (by decide) (jbm rfl ?_)
          refine ev_kindAt (j := 0) hp3 (by decide) ?_
          exact ev_kindAt (j := 1) hp3 (by decide) h
        by_cases ek : gA τ 19 (3 * p + 0) = gA τ 19 (3 * p + 1)
        · by_cases ev : gA τ 20 (3 * p + 0) = gA τ 20 (3 * p + 1)
          · refine ⟨encN 1, 1, 1, -1, vr_num 1 (-1), fun K hK => ?_, fun K hK => hgo2 K (hre K (jbr ek (jbm ev (ev_number hp3 h14 h15 hK))))⟩
            refine hof (gA τ 19 (3 * p + 0)) K (fun z => absurd rfl z) (fun _ => rfl) ?_
            unfold b_X7_ofTwo_14 w_X8_contentOf
            rw [ek] at v0 ⊢
            refine ev_refuse2_ok v0 v1 hR3 (by rw [← ek]; exact e0) e1 (jbr lg00 ?_)
            dsimp only
            rw [v0.con, v1.con]
            exact jbf (by decide) (jbf (by decide) (jbf (by decide) (jbf (by decide) (jbf (by decide) (jbf (by decide) (jbm ev (ev_truth1 hK)))))))
          · refine ⟨encN 0, 1, 0, -1, vr_num 0 (-1), fun K hK => ?_, fun K hK => hgo2 K (hre K (jbr ek (jbn ev (ev_number hp3 h14 h15 hK))))⟩
            refine hof (gA τ 19 (3 * p + 0)) K (fun z => absurd rfl z) (fun _ => rfl) ?_
            unfold b_X7_ofTwo_14 w_X8_contentOf
            rw [ek] at v0 ⊢
            refine ev_refuse2_ok v0 v1 hR3 (by rw [← ek]; exact e0) e1 (jbr lg00 ?_)
            dsimp only
            rw [v0.con, v1.con]
            exact jbf (by decide) (jbf (by decide) (jbf (by decide) (jbf (by decide) (jbf (by decide) (jbf (by decide) (jbn ev (ev_truth0 hK)))))))
        · refine ⟨encF 4 a, 3, 4, nI a, vr_fault (c := 4) (by decide) (by decide) ha8, fun K hK => ?_, fun K hK => hgo2 K (hre K (jbf ek hK))⟩
          refine hof (gA τ 19 (3 * p + 0)) K (fun z => absurd rfl z) (fun _ => rfl) ?_
          unfold b_X7_ofTwo_14
          exact ev_refuse2_bad v0 v1 hR3 e0 e1 (fun z => ek z.2.symm) ha8 (jbf (lgne (encF_ne (nR := nR) (by decide) (by decide) ha8 hR3)) hK)
      · by_cases en : gA τ 19 (3 * p + 0) = 1 ∧ gA τ 19 (3 * p + 1) = 1
        · have hall : ∀ j, j < 2 → gA τ 19 (3 * p + j) = 1 := fun j hj => by
            rcases (show j = 0 ∨ j = 1 by omega) with rfl | rfl
            · exact en.1
            · exact en.2
          have hM : ∀ K : Int32 → St → Prop, jsw K τ (nI p) (nI k) (nI a) (nI c) (gA τ 20 (3 * p + 0)) (gA τ 20 (3 * p + 1)) → w_X10_goesOff τ (nI p) K := fun K h => hgo2 K (ev_reck_ne8 hp3 h14 h15 hk22 e8 ⟨3, lp_reck hp3 ha8 h2 (by decide) hall h 2 0 3 (by omega) (by omega)⟩)
          rw [en.1] at v0
          rw [en.2] at v1
          generalize gA τ 20 (3 * p + 0) = vx at v0 hM
          generalize gA τ 20 (3 * p + 1) = vy at v1 hM
          have hN : ∀ K : Int32 → St → Prop, ∀ v : Int32, w_X10_gives τ (nI a) 0 (nI c) 1 v (-1) K → w_X10_number τ (nI p) v K := fun K v h => ev_number hp3 h14 h15 h
          rcases (show k = 2 ∨ k = 3 ∨ k = 4 ∨ k = 5 ∨ k = 6 ∨ k = 7 by omega) with rfl | rfl | rfl | rfl | rfl | rfl
          · refine ⟨encN (vx + vy), 1, vx + vy, -1, vr_num _ _, fun K hK => hof 1 K (fun _ => rfl) (fun z => absurd z e8) ?_, fun K hK => hM K ?_⟩
            · unfold b_X7_ofTwo_14 w_X8_contentOf
              refine ev_refuse2_ok v0 v1 hR3 (by decide) (by decide) (jbr lg00 ?_)
              dsimp only
              rw [v0.con, v1.con]
              exact jbr (by decide) (ev_num hK)
            · unfold jsw
              exact jbr (by decide) (hN _ _ hK)
          · refine ⟨encN (vx - vy), 1, vx - vy, -1, vr_num _ _, fun K hK => hof 1 K (fun _ => rfl) (fun z => absurd z e8) ?_, fun K hK => hM K ?_⟩
            · unfold b_X7_ofTwo_14 w_X8_contentOf
              refine ev_refuse2_ok v0 v1 hR3 (by decide) (by decide) (jbr lg00 ?_)
              dsimp only
              rw [v0.con, v1.con]
              exact jbf (by decide) (jbr (by decide) (ev_num hK))
            · unfold jsw
              exact jbf (by decide) (jbr (by decide) (hN _ _ hK))
          · refine ⟨encN (vx * vy), 1, vx * vy, -1, vr_num _ _, fun K hK => hof 1 K (fun _ => rfl) (fun z => absurd z e8) ?_, fun K hK => hM K ?_⟩
            · unfold b_X7_ofTwo_14 w_X8_contentOf
              refine ev_refuse2_ok v0 v1 hR3 (by decide) (by decide) (jbr lg00 ?_)
              dsimp only
              rw [v0.con, v1.con]
              exact jbf (by decide) (jbf (by decide) (jbr (by decide) (ev_num hK)))
            · unfold jsw
              exact jbf (by decide) (jbf (by decide) (jbr (by decide) (hN _ _ hK)))
          · by_cases ez : vy = 0
            · refine ⟨encF 1 a, 3, 1, nI a, vr_fault (c := 1) (by decide) (by decide) ha8, fun K hK => hof 1 K (fun _ => rfl) (fun z => absurd z e8) ?_, fun K hK => hM K ?_⟩
              · unfold b_X7_ofTwo_14 w_X8_contentOf
                refine ev_refuse2_ok v0 v1 hR3 (by decide) (by decide) (jbr lg00 ?_)
                dsimp only
                rw [v0.con, v1.con]
                exact jbf (by decide) (jbf (by decide) (jbf (by decide) (jbr (by decide) (jbm ez (ev_fault (c := 1) (by decide) ha8 hK)))))
              · unfold jsw
                exact jbf (by decide) (jbf (by decide) (jbf (by decide) (jbr (by decide) (jbm ez hK))))
            · refine ⟨encN (vx / vy), 1, vx / vy, -1, vr_num _ _, fun K hK => hof 1 K (fun _ => rfl) (fun z => absurd z e8) ?_, fun K hK => hM K ?_⟩
              · unfold b_X7_ofTwo_14 w_X8_contentOf
                refine ev_refuse2_ok v0 v1 hR3 (by decide) (by decide) (jbr lg00 ?_)
                dsimp only
                rw [v0.con, v1.con]
                exact jbf (by decide) (jbf (by decide) (jbf (by decide) (jbr (by decide) (jbn ez ⟨ez, ev_num hK⟩))))
              · unfold jsw
                exact jbf (by decide) (jbf (by decide) (jbf (by decide) (jbr (by decide) (jbn ez ⟨ez, hN _ _ hK⟩))))
          · by_cases ez : vy = 0
            · refine ⟨encF 1 a, 3, 1, nI a, vr_fault (c := 1) (by decide) (by decide) ha8, fun K hK => hof 1 K (fun _ => rfl) (fun z => absurd z e8) ?_, fun K hK => hM K ?_⟩
              · unfold b_X7_ofTwo_14 w_X8_contentOf
                refine ev_refuse2_ok v0 v1 hR3 (by decide) (by decide) (jbr lg00 ?_)
                dsimp only
                rw [v0.con, v1.con]
                exact jbf (by decide) (jbf (by decide) (jbf (by decide) (jbf (by decide) (jbr (by decide) (jbm ez (ev_fault (c := 1) (by decide) ha8 hK))))))
              · unfold jsw
                exact jbf (by decide) (jbf (by decide) (jbf (by decide) (jbf (by decide) (jbr (by decide) (jbm ez hK)))))
            · refine ⟨encN (vx - vx / vy * vy), 1, vx - vx / vy * vy, -1, vr_num _ _, fun K hK => hof 1 K (fun _ => rfl) (fun z => absurd z e8) ?_, fun K hK => hM K ?_⟩
              · unfold b_X7_ofTwo_14 w_X8_contentOf
                refine ev_refuse2_ok v0 v1 hR3 (by decide) (by decide) (jbr lg00 ?_)
                dsimp only
                rw [v0.con, v1.con]
                exact jbf (by decide) (jbf (by decide) (jbf (by decide) (jbf (by decide) (jbr (by decide) (jbn ez ⟨ez, ev_num hK⟩)))))
              · unfold jsw
                exact jbf (by decide) (jbf (by decide) (jbf (by decide) (jbf (by decide) (jbr (by decide) (jbn ez ⟨ez, hN _ _ hK⟩)))))
          · by_cases el : vy ≤ vx
            · refine ⟨encN 0, 1, 0, -1, vr_num _ _, fun K hK => hof 1 K (fun _ => rfl) (fun z => absurd z e8) ?_, fun K hK => hM K ?_⟩
              · unfold b_X7_ofTwo_14 w_X8_contentOf
                refine ev_refuse2_ok v0 v1 hR3 (by decide) (by decide) (jbr lg00 ?_)
                dsimp only
                rw [v0.con, v1.con]
                exact jbf (by decide) (jbf (by decide) (jbf (by decide) (jbf (by decide) (jbf (by decide) (jbr (by decide) (jbr el (ev_truth0 hK)))))))
              · unfold jsw
                exact jbf (by decide) (jbf (by decide) (jbf (by decide) (jbf (by decide) (jbf (by decide) (jbr (by decide) (jbr el (hN _ _ hK)))))))
            · refine ⟨encN 1, 1, 1, -1, vr_num _ _, fun K hK => hof 1 K (fun _ => rfl) (fun z => absurd z e8) ?_, fun K hK => hM K ?_⟩
              · unfold b_X7_ofTwo_14 w_X8_contentOf
                refine ev_refuse2_ok v0 v1 hR3 (by decide) (by decide) (jbr lg00 ?_)
                dsimp only
                rw [v0.con, v1.con]
                exact jbf (by decide) (jbf (by decide) (jbf (by decide) (jbf (by decide) (jbf (by decide) (jbr (by decide) (jbf el (ev_truth1 hK)))))))
              · unfold jsw
                exact jbf (by decide) (jbf (by decide) (jbf (by decide) (jbf (by decide) (jbf (by decide) (jbr (by decide) (jbf el (hN _ _ hK)))))))
        · refine ⟨encF 4 a, 3, 4, nI a, vr_fault (c := 4) (by decide) (by decide) ha8, fun K hK => hof 1 K (fun _ => rfl) (fun z => absurd z e8) ?_, fun K hK => hgo2 K (ev_reck_ne8 hp3 h14 h15 hk22 e8 ⟨3, ?_⟩)⟩
          · unfold b_X7_ofTwo_14
            exact ev_refuse2_bad v0 v1 hR3 e0 e1 en ha8 (jbf (lgne (encF_ne (nR := nR) (by decide) (by decide) ha8 hR3)) hK)
          · by_cases x0 : gA τ 19 (3 * p + 0) = 1
            · exact lp_reck_bad hp3 ha8 h2 (by decide) (j0 := 1) (by decide) (fun j hj => by
                rcases (show j = 0 by omega) with rfl
                exact x0) (fun z => en ⟨x0, z⟩) hK 1 0 3 (by omega) (by omega)
            · exact lp_reck_bad hp3 ha8 h2 (by decide) (j0 := 0) (by decide) (fun j hj => by omega) x0 hK 0 0 3 (by omega) (by omega)
