/-! ===== cell, told ===== -/
theorem lp_cell_miss {τ : St} {nR : Nat} {a1 a2 a3 : Int32} {K : Int32 → St → Prop} (hR : nR ≤ 300) (h15 : gS τ 15 = nI nR) (hno : ∀ r, r < nR → ¬ (gA τ 27 r = a1 ∧ gA τ 28 r = 0)) (hk : K (-1) τ) : ∀ (d w f : Nat), w + d = nR → d < f → w_X10_cell_21 K f τ a1 a2 a3 (nI w) := by
  intro d
  induction d with
  | zero =>
    intro w f hw hf
    obtain ⟨f, rfl⟩ : ∃ z, f = z + 1 := ⟨f - 1, by omega⟩
    show b_X10_cell_21 (w_X10_cell_21 K f) K τ a1 a2 a3 (nI w)
    unfold b_X10_cell_21
    exact jbr (by rw [h15]; exact nI_le (by omega) (by omega)) hk
  | succ d ih =>
    intro w f hw hf
    obtain ⟨f, rfl⟩ : ∃ z, f = z + 1 := ⟨f - 1, by omega⟩
    show b_X10_cell_21 (w_X10_cell_21 K f) K τ a1 a2 a3 (nI w)
    unfold b_X10_cell_21
    have hwi : vp_in (nI w) 300 := vp_in_nI (by omega) (by decide)
    have hn := ih (w + 1) f (by omega) (by omega)
    rw [nI_clamp (show w < 2 ^ 31 by omega), nI_1]
    refine jbf (by rw [h15]; exact nI_ge (by omega) (by omega)) ⟨hwi, ?_⟩
    by_cases e : gA τ 27 w = a1
    · exact jbm e ⟨hwi, jbf (fun z => hno w (by omega) ⟨e, z⟩) hn⟩
    · exact jbn e hn
theorem lp_cell_hit {τ : St} {nR r : Nat} {a1 a2 a3 : Int32} {K : Int32 → St → Prop} (hR : nR ≤ 300) (h15 : gS τ 15 = nI nR) (hr : r < nR) (h27 : gA τ 27 r = a1) (h28 : gA τ 28 r = 0) (hno : ∀ w, w < r → ¬ (gA τ 27 w = a1 ∧ gA τ 28 w = 0)) (hk : ∀ f, b_X10_cell_21 (w_X10_cell_21 K f) K τ a1 a2 a3 (nI r)) : ∀ (d w f : Nat), w + d = r → d < f → w_X10_cell_21 K f τ a1 a2 a3 (nI w) := by
  intro d
  induction d with
  | zero =>
    intro w f hw hf
    obtain ⟨f, rfl⟩ : ∃ z, f = z + 1 := ⟨f - 1, by omega⟩
    have : w = r := by omega
    subst this
    exact hk f
  | succ d ih =>
    intro w f hw hf
    obtain ⟨f, rfl⟩ : ∃ z, f = z + 1 := ⟨f - 1, by omega⟩
    show b_X10_cell_21 (w_X10_cell_21 K f) K τ a1 a2 a3 (nI w)
    unfold b_X10_cell_21
    have hwi : vp_in (nI w) 300 := vp_in_nI (by omega) (by decide)
    have hn := ih (w + 1) f (by omega) (by omega)
    rw [nI_clamp (show w < 2 ^ 31 by omega), nI_1]
    refine jbf (by rw [h15]; exact nI_ge (by omega) (by omega)) ⟨hwi, ?_⟩
    by_cases e : gA τ 27 w = a1
    · exact jbm e ⟨hwi, jbf (fun z => hno w (by omega) ⟨e, z⟩) hn⟩
    · exact jbn e hn
theorem st_cell (σ τ : St) (a1 a2 a3 : Int32) (h : Rel σ τ) : w_X9_cell σ a1 a2 a3 (fun r σ2 => w_X10_cell τ a1 a2 a3 (fun r2 τ2 => r = r2 ∧ Rel σ2 τ2)) := by
  have h' := h
  obtain ⟨hZ, nA, nW, nT, hG, h03, hz, hO⟩ := h
  have hA := hG.1
  unfold w_X9_cell w_X10_cell
  rcases hz with h0 | h0
  · exact jbr h0 (jbr (h03.symm.trans h0) ⟨rfl, h'⟩)
  · obtain ⟨nC, nP, m, hd, nR, nCe, nQ, o1, o2, o3, o4, o5, o6, o7, o8, o9, o10, o11, o12, o13, o14, o15, o16, o17, o22⟩ := hO h0
    have h3 : ¬ gS τ 3 = 0 := by rw [← h03, h0]; decide
    have hR3 := o14.1
    have hCe := o14.2.1
    have h15 := o14.2.2.2.1
    refine jbf (by rw [h0]; decide) ?_
    have hmiss : (∀ r, r < nR → ¬ (gA τ 27 r = a1 ∧ gA τ 28 r = 0)) → (gS τ 3 = 0 → (-1 : Int32) = -1 ∧ Rel σ τ) ∧ (¬ gS τ 3 = 0 → w_X10_in τ a3 0 2 (fun r u => (¬ r = 0 → ∃ n : Nat, w_X10_cell_21 (fun r2 τ2 => (-1 : Int32) = r2 ∧ Rel σ τ2) n u a1 a2 a3 0) ∧ (r = 0 → (-1 : Int32) = -1 ∧ Rel σ u))) := fun hno => by
      refine jbf h3 ?_
      rcases in02 a3 with ⟨z, hin⟩ | ⟨z, hin⟩
      · exact hin τ _ (jbm rfl ⟨rfl, h'⟩)
      · exact hin τ _ (jbn (by decide) ⟨nR + 1, lp_cell_miss (K := fun r2 τ2 => (-1 : Int32) = r2 ∧ Rel σ τ2) hR3 h15 hno ⟨rfl, h'⟩ nR 0 (nR + 1) (by omega) (by omega)⟩)
    rcases act_case hG a1 with ⟨ha, hne⟩ | ⟨a, ha, rfl, hc⟩
    · refine (ha _ (fun _ _ => True)).1 (jbm rfl ?_)
      refine hmiss (fun r hr z => ?_)
      obtain ⟨b, hb, e⟩ := o22 r hr
      exact hne b hb (z.1.symm.trans e)
    · have hai : vp_in (nI a) 80 := vp_in_nI (by omega) (by decide)
      refine (hc _ (fun _ _ => True)).1 (jbn (by decide) ⟨hai, ?_⟩)
      rw [nI_clamp (show a < 2 ^ 31 by omega)]
      rcases o14.2.2.2.2.2.2.2.2.1 a (by omega) with ⟨g1, g2⟩ | ⟨r, hr, g1, g2, g3⟩
      · have := hmiss g2
        rw [g1]
        unfold w_X6_placeIn w_X6_sizeOf
        exact ⟨fun _ => jbm rfl this, fun y => jbr (by decide) (jbr (Int32.not_lt.mp y) (jbm rfl this))⟩
      · obtain ⟨-, s, z, q1, q2, q3, q4, q5, q6⟩ := o14.2.2.2.2.2.2.1 r hr
        have hri : vp_in (nI r) 300 := vp_in_nI (by omega) (by decide)
        have hhit : ∀ (v : Int32), (∀ K : Int32 → St → Prop, (K v τ → b_X10_cell_21 (fun _ _ _ _ _ => False) K τ (nI a) a2 a3 (nI r))) → (a3 = 0 ∨ a3 = 1 ∨ a3 = 2) → (∃ n : Nat, w_X10_cell_21 (fun r2 τ2 => v = r2 ∧ Rel σ τ2) n τ (nI a) a2 a3 0) := fun v hb _ => by
          refine ⟨r + 1, lp_cell_hit (K := fun r2 τ2 => v = r2 ∧ Rel σ τ2) hR3 h15 hr g2 g3 (fun w hw z => ?_) (fun f => ?_) r 0 (r + 1) (by omega) (by omega)⟩
          · have := o14.2.2.2.2.2.2.2.1 w r (by omega) hr (z.1.trans g2.symm) (z.2.trans g3.symm)
            omega
          · have hb := hb (fun r2 τ2 => v = r2 ∧ Rel σ τ2) ⟨rfl, h'⟩
            unfold b_X10_cell_21 at hb ⊢
            rw [nI_clamp (show r < 2 ^ 31 by omega)] at hb ⊢
            have hlt : ¬ gS τ 15 ≤ nI r := by rw [h15]; exact nI_ge hr (by omega)
            have hb2 := hb.2 hlt
            refine jbf hlt ⟨hb2.1, jbm g2 ⟨((hb2.2.2 g2).1), jbr g3 ((hb2.2.2 g2).2.1 g3)⟩⟩
        have hbody : ∀ (v : Int32) (K : Int32 → St → Prop), w_X10_in τ a2 0 (nI z - 1) (fun r_2 u_1 => (¬ r_2 = 0 → (vp_in (nI r) 300 ∧ (vp_in ((gA u_1 25 r) + a2) 2000 ∧ (vp_in ((gA u_1 25 r) + a2) 2000 ∧ (vp_in ((gA u_1 25 r) + a2) 2000 ∧ (w_X10_told1 u_1 (gA u_1 29 (((gA u_1 25 r) + a2)).toNatClampNeg) (gA u_1 30 (((gA u_1 25 r) + a2)).toNatClampNeg) (gA u_1 31 (((gA u_1 25 r) + a2)).toNatClampNeg) a3 K)))))) ∧ (r_2 = 0 → K (-1) u_1)) → b_X10_cell_21 (fun _ _ _ _ _ => False) K τ (nI a) a2 a3 (nI r) := fun v K hb => by
          unfold b_X10_cell_21
          rw [nI_clamp (show r < 2 ^ 31 by omega), q4]
          exact jbf (by rw [h15]; exact nI_ge hr (by omega)) ⟨hri, jbm g2 ⟨hri, jbr g3 ⟨hri, hb⟩⟩⟩
        have hin3 : ∀ (v : Int32), ((a3 = 0 ∨ a3 = 1 ∨ a3 = 2) → (∃ n : Nat, w_X10_cell_21 (fun r2 τ2 => v = r2 ∧ Rel σ τ2) n τ (nI a) a2 a3 0)) → (¬ (a3 = 0 ∨ a3 = 1 ∨ a3 = 2) → v = -1) → (gS τ 3 = 0 → v = -1 ∧ Rel σ τ) ∧ (¬ gS τ 3 = 0 → w_X10_in τ a3 0 2 (fun r u => (¬ r = 0 → ∃ n : Nat, w_X10_cell_21 (fun r2 τ2 => v = r2 ∧ Rel σ τ2) n u (nI a) a2 a3 0) ∧ (r = 0 → v = -1 ∧ Rel σ u))) := fun v h1 h2 => by
          refine jbf h3 ?_
          rcases in02 a3 with ⟨z, hin⟩ | ⟨z, hin⟩
          · exact hin τ _ (jbm rfl ⟨h2 z, h'⟩)
          · exact hin τ _ (jbn (by decide) (h1 z))
        rw [g1]
        unfold w_X6_placeIn
        refine ⟨fun y => jbm rfl (hin3 (-1) (hhit (-1) (fun K hK => hbody (-1) K (ev_in_lo y (jbm rfl hK)))) (fun _ => rfl)), fun y => ?_⟩
        refine ev_sizeOf o14 hr q3 ⟨fun x => ?_, fun x => ⟨hri, ?_⟩⟩
        · refine jbm rfl (hin3 (-1) (hhit (-1) (fun K hK => hbody (-1) K ?_)) (fun _ => rfl))
          obtain ⟨j, hj, e⟩ := nI_of y
          rw [e] at x y ⊢
          exact ev_in_hi y (in_out ((nI_leI (by omega) hj).mp x) hj) (jbm rfl hK)
        · rcases pk_ix a2 (n := z) (by omega) with w | w | ⟨ii, hii, w⟩
          · exact absurd w y
          · exact absurd w x
          · rw [nI_clamp (show r < 2 ^ 31 by omega), q1, w, nI_add]
            have hii2 : vp_in (nI (s + ii)) 2000 := vp_in_nI (by omega) (by decide)
            refine jbn (nI_m1 (by omega)) ⟨hii2, ?_⟩
            rw [nI_clamp (show s + ii < 2 ^ 31 by omega)]
            rw [w] at hin3 hhit hbody
            by_cases h02 : a3 = 0 ∨ a3 = 1 ∨ a3 = 2
            · obtain ⟨v, v1, v2⟩ := told_val o14 (o14.2.2.2.2.2.2.2.2.2 (s + ii) (by omega) |>.imp (fun h => h) (fun h => h)) a3 h02
              refine v1 _ (hin3 v (hhit v (fun K hK => hbody v K (ev_in_ok (nI_pos (by omega)) (in_in hii (by omega)) (jbn (by decide) ⟨hri, ?_⟩)))) (fun c => absurd h02 c))
              rw [q2, nI_add, nI_clamp (show s + ii < 2 ^ 31 by omega)]
              exact ⟨hii2, hii2, hii2, v2 K hK⟩
            · exact describe_else h02 (hin3 (-1) (fun c => absurd c h02) (fun _ => rfl))
theorem lp_cw {σ : St} {K : Int32 → St → Prop} : ∀ (l : List Nat) (h : Int32) (c f : Nat), Chn (gA σ 6) h l → c + l.length ≤ 300 → l.length < f → (∀ q, q ∈ l → q < 300) → K (nI (c + l.length)) σ → w_X2_countWays_10 K f σ (nI c) h := by
  intro l
  induction l with
  | nil =>
    intro h c f hc hl hf _ hk
    obtain ⟨f, rfl⟩ : ∃ z, f = z + 1 := ⟨f - 1, by simp at hf; omega⟩
    show b_X2_countWays_10 (w_X2_countWays_10 K f) K σ (nI c) h
    unfold b_X2_countWays_10
    exact jbr hc hk
  | cons q l ih =>
    intro h c f hc hl hf hb hk
    rw [List.length_cons] at hl hf hk
    obtain ⟨f, rfl⟩ : ∃ z, f = z + 1 := ⟨f - 1, by omega⟩
    obtain ⟨rfl, hc⟩ := hc
    have hq := hb q List.mem_cons_self
    show b_X2_countWays_10 (w_X2_countWays_10 K f) K σ (nI c) (nI q)
    unfold b_X2_countWays_10
    refine jbf (nI_m1 (by omega)) (jbf (nI_ge (b := 300) (by omega) (by decide)) ⟨vp_in_nI hq (by decide), ?_⟩)
    rw [nI_clamp (show q < 2 ^ 31 by omega), nI_1]
    exact ih _ (c + 1) f hc (by omega) (by omega) (fun z hz => hb z (List.mem_cons_of_mem _ hz)) (by rw [show c + 1 + l.length = c + (l.length + 1) by omega]; exact hk)
theorem ev_cw {nA nW nT a s : Nat} {σ τ : St} {K : Int32 → St → Prop} (hG : RG nA nW nT σ τ) (ha : a < 80) (hs : s < 2) (hk : K (nI (wl τ a s nW).length) σ) : w_X2_countWays σ (nI a) (nI s) K := by
  unfold w_X2_countWays w_X2_firstWayOf
  rw [show (2 : Int32) * nI a + nI s = nI (2 * a + s) by rw [show (2 : Int32) = nI 2 from rfl, pk_mul, nI_add]]
  have hW := hG.2.1
  have hl := selU_len (fun w => decide (gA τ 3 w = nI a) && decide (gA τ 4 w = nI s)) nW
  refine ⟨vp_in_nI (by omega) (by decide), (wl τ a s nW).length + 1, ?_⟩
  rw [nI_clamp (by omega)]
  exact lp_cw (wl τ a s nW) _ 0 _ (hG.2.2.2.2.2.2.2.2.2.2.2.1 a s ha hs).1 (by unfold wl; omega) (by omega) (fun q hq => by have := (mem_selU.mp hq).1; omega) (by rw [Nat.zero_add]; exact hk)
theorem selU_step (P : Nat → Bool) (n : Nat) : (selU P (n + 1)).length = (selU P n).length + (if P n = true then 1 else 0) := by
  show (if P n then selU P n ++ [n] else selU P n).length = _
  by_cases h : P n = true
  · rw [if_pos h, if_pos h, List.length_append]; rfl
  · rw [if_neg h, if_neg h]; rfl
theorem lp_t76 {τ : St} {nW a s : Nat} {K : Int32 → St → Prop} (hW : nW ≤ 300) (h1 : gS τ 1 = nI nW) (hk : K (nI (wl τ a s nW).length) τ) : ∀ (d w f : Nat), w + d = nW → d < f → w_X10_told_76 K f τ (nI a) (nI (s + 3)) (nI (wl τ a s w).length) (nI w) := by
  intro d
  induction d with
  | zero =>
    intro w f hw hf
    obtain ⟨f, rfl⟩ : ∃ z, f = z + 1 := ⟨f - 1, by omega⟩
    have : w = nW := by omega
    subst this
    show b_X10_told_76 (w_X10_told_76 K f) K τ (nI a) (nI (s + 3)) _ (nI w)
    unfold b_X10_told_76
    exact jbr (by rw [h1]; exact nI_le (Nat.le_refl _) (by omega)) hk
  | succ d ih =>
    intro w f hw hf
    obtain ⟨f, rfl⟩ : ∃ z, f = z + 1 := ⟨f - 1, by omega⟩
    show b_X10_told_76 (w_X10_told_76 K f) K τ (nI a) (nI (s + 3)) _ (nI w)
    unfold b_X10_told_76
    have hn := ih (w + 1) f (by omega) (by omega)
    have hwi : vp_in (nI w) 300 := vp_in_nI (by omega) (by decide)
    unfold wl at hn ⊢
    rw [selU_step] at hn
    rw [show nI (s + 3) - 3 = nI s from by rw [show (3 : Int32) = nI 3 from rfl, pk_sub (by omega)]; rfl, nI_clamp (show w < 2 ^ 31 by omega), nI_1 w, nI_1, show (0 : Int32) = nI 0 from rfl, nI_add]
    refine jbf (by rw [h1]; exact nI_ge (by omega) (by omega)) ⟨hwi, ?_⟩
    by_cases e1 : gA τ 3 w = nI a
    · by_cases e2 : gA τ 4 w = nI s
      · rw [if_pos (by simp [e1, e2])] at hn
        exact jbm e1 ⟨hwi, jbm e2 hn⟩
      · rw [if_neg (by simp [e2])] at hn
        exact jbm e1 ⟨hwi, jbn e2 hn⟩
    · rw [if_neg (by simp [e1])] at hn
      exact jbn e1 hn
theorem lp_t128 {τ : St} {nT : Nat} {x : Int32} {K : Int32 → St → Prop} (hT : nT ≤ 40) (h2 : gS τ 2 = nI nT) (hk : K (nI (selU (fun t => decide (gA τ 7 t = x)) nT).length) τ) : ∀ (d w f : Nat), w + d = nT → d < f → w_X10_told_128 K f τ x (nI (selU (fun t => decide (gA τ 7 t = x)) w).length) (nI w) := by
  intro d
  induction d with
  | zero =>
    intro w f hw hf
    obtain ⟨f, rfl⟩ : ∃ z, f = z + 1 := ⟨f - 1, by omega⟩
    have : w = nT := by omega
    subst this
    show b_X10_told_128 (w_X10_told_128 K f) K τ x _ (nI w)
    unfold b_X10_told_128
    exact jbr (by rw [h2]; exact nI_le (Nat.le_refl _) (by omega)) hk
  | succ d ih =>
    intro w f hw hf
    obtain ⟨f, rfl⟩ : ∃ z, f = z + 1 := ⟨f - 1, by omega⟩
    show b_X10_told_128 (w_X10_told_128 K f) K τ x _ (nI w)
    unfold b_X10_told_128
    have hn := ih (w + 1) f (by omega) (by omega)
    rw [selU_step] at hn
    rw [nI_clamp (show w < 2 ^ 31 by omega), nI_1 w, nI_1, show (0 : Int32) = nI 0 from rfl, nI_add]
    refine jbf (by rw [h2]; exact nI_ge (by omega) (by omega)) ⟨vp_in_nI (by omega) (by decide), ?_⟩
    by_cases e1 : gA τ 7 w = x
    · rw [if_pos (by simp [e1])] at hn
      exact jbm e1 hn
    · rw [if_neg (by simp [e1])] at hn
      exact jbn e1 hn
theorem lp_ct {σ τ : St} {nT : Nat} {x : Int32} {K : Int32 → St → Prop} (hT : nT ≤ 40) (h3 : gS σ 3 = nI nT) (h79 : ∀ t, t < nT → gA τ 7 t = gA σ 9 t) (hk : K (nI (selU (fun t => decide (gA τ 7 t = x)) nT).length) σ) : ∀ (d w f : Nat), w + d = nT → d < f → w_X2_countTokens_4 K f σ x (nI (selU (fun t => decide (gA τ 7 t = x)) w).length) (nI w) := by
  intro d
  induction d with
  | zero =>
    intro w f hw hf
    obtain ⟨f, rfl⟩ : ∃ z, f = z + 1 := ⟨f - 1, by omega⟩
    have : w = nT := by omega
    subst this
    show b_X2_countTokens_4 (w_X2_countTokens_4 K f) K σ x _ (nI w)
    unfold b_X2_countTokens_4
    exact jbr (by rw [h3]; exact nI_le (Nat.le_refl _) (by omega)) hk
  | succ d ih =>
    intro w f hw hf
    obtain ⟨f, rfl⟩ : ∃ z, f = z + 1 := ⟨f - 1, by omega⟩
    show b_X2_countTokens_4 (w_X2_countTokens_4 K f) K σ x _ (nI w)
    unfold b_X2_countTokens_4
    have hn := ih (w + 1) f (by omega) (by omega)
    rw [selU_step] at hn
    rw [nI_clamp (show w < 2 ^ 31 by omega), nI_1 w, nI_1, ← h79 w (by omega)]
    refine jbf (by rw [h3]; exact nI_ge (by omega) (by omega)) ⟨vp_in_nI (by omega) (by decide), ?_⟩
    by_cases e1 : gA τ 7 w = x
    · rw [if_pos (by simp [e1])] at hn
      exact jbm e1 hn
    · rw [if_neg (by simp [e1])] at hn
      exact jbn e1 hn
theorem st_told (σ τ : St) (a1 a2 : Int32) (h : Rel σ τ) : w_X9_told σ a1 a2 (fun r σ2 => w_X10_told τ a1 a2 (fun r2 τ2 => r = r2 ∧ Rel σ2 τ2)) := by
  have h' := h
  obtain ⟨hZ, nA, nW, nT, hG, hO⟩ := h
  have hA := hG.1
  unfold w_X9_told w_X10_told
  rcases act_case hG a1 with ⟨ha, hne⟩ | ⟨a, ha, rfl, hc⟩
  · refine (ha _ (fun _ _ => True)).1 (jbm rfl ?_)
    exact (ha (fun _ _ => True) _).2 (jbm rfl ⟨rfl, h'⟩)
  · have hai : vp_in (nI a) 80 := vp_in_nI (by omega) (by decide)
    obtain ⟨r0, r1, r2, -⟩ := hG.2.2.2.2.2.2.2.2.2.1 a ha
    refine (hc _ (fun _ _ => True)).1 (jbn (by decide) ?_)
    have hM : ∀ K : Int32 → St → Prop, (((a2 = 0) → (vp_in (nI a) 80 ∧ (K (gA τ 0 (nI a).toNatClampNeg) τ))) ∧ (¬ (a2 = 0) → (((a2 = 1) → (vp_in (nI a) 80 ∧ (K (gA τ 1 (nI a).toNatClampNeg) τ))) ∧ (¬ (a2 = 1) → (((a2 = 2) → (vp_in (nI a) 80 ∧ (K (gA τ 2 (nI a).toNatClampNeg) τ))) ∧ (¬ (a2 = 2) → (((a2 = 3 ∨ a2 = 4) → (∃ n : Nat, w_X10_told_76 K n τ (nI a) a2 0 0)) ∧ (¬ (a2 = 3 ∨ a2 = 4) → (((a2 = 5) → (∃ n : Nat, w_X10_told_128 K n τ (nI a) 0 0)) ∧ (¬ (a2 = 5) → (K (-1) τ))))))))))) → w_X10_isAct τ (nI a) (fun (r_10 : Int32) (u_9 : St) => (¬ r_10 = 0 → (((a2 = 0) → (vp_in (nI a) 80 ∧ (K (gA u_9 0 (nI a).toNatClampNeg) u_9))) ∧ (¬ (a2 = 0) → (((a2 = 1) → (vp_in (nI a) 80 ∧ (K (gA u_9 1 (nI a).toNatClampNeg) u_9))) ∧ (¬ (a2 = 1) → (((a2 = 2) → (vp_in (nI a) 80 ∧ (K (gA u_9 2 (nI a).toNatClampNeg) u_9))) ∧ (¬ (a2 = 2) → (((a2 = 3 ∨ a2 = 4) → (∃ n : Nat, w_X10_told_76 K n u_9 (nI a) a2 0 0)) ∧ (¬ (a2 = 3 ∨ a2 = 4) → (((a2 = 5) → (∃ n : Nat, w_X10_told_128 K n u_9 (nI a) 0 0)) ∧ (¬ (a2 = 5) → (K (-1) u_9)))))))))))) ∧ (r_10 = 0 → (K (-1) u_9))) := fun K hb => (hc (fun _ _ => True) _).2 (jbn (by decide) hb)
    refine ⟨fun c => ⟨hai, hM (fun r2 τ2 => gA σ 0 (nI a).toNatClampNeg = r2 ∧ Rel σ τ2) (jbr c ⟨hai, ?_⟩)⟩, fun n0 => ⟨fun c => ⟨hai, hM (fun r2 τ2 => gA σ 1 (nI a).toNatClampNeg = r2 ∧ Rel σ τ2) (jbf n0 (jbr c ⟨hai, ?_⟩))⟩, fun n1 => ⟨fun c => ⟨hai, hM (fun r2 τ2 => gA σ 2 (nI a).toNatClampNeg = r2 ∧ Rel σ τ2) (jbf n0 (jbf n1 (jbr c ⟨hai, ?_⟩)))⟩, fun n2 => ⟨fun c => ?_, fun n3 => ⟨fun c => ?_, fun n4 => ⟨fun c => ?_, fun n5 => ?_⟩⟩⟩⟩⟩⟩
    · rw [nI_clamp (show a < 2 ^ 31 by omega)]
      exact ⟨r0.symm, h'⟩
    · rw [nI_clamp (show a < 2 ^ 31 by omega)]
      exact ⟨r1.symm, h'⟩
    · rw [nI_clamp (show a < 2 ^ 31 by omega)]
      exact ⟨r2.symm, h'⟩
    · subst c
      refine ev_cw (s := 0) hG (by omega) (by decide) (hM (fun r2 τ2 => nI (wl τ a 0 nW).length = r2 ∧ Rel σ τ2) (jbf n0 (jbf n1 (jbf n2 (jbr (by decide) ⟨nW + 1, ?_⟩)))))
      exact lp_t76 (s := 0) (K := fun r2 τ2 => nI (wl τ a 0 nW).length = r2 ∧ Rel σ τ2) hG.2.1 hG.2.2.2.2.2.2.1 ⟨rfl, h'⟩ nW 0 (nW + 1) (by omega) (by omega)
    · subst c
      refine ev_cw (s := 1) hG (by omega) (by decide) (hM (fun r2 τ2 => nI (wl τ a 1 nW).length = r2 ∧ Rel σ τ2) (jbf n0 (jbf n1 (jbf n2 (jbr (by decide) ⟨nW + 1, ?_⟩)))))
      exact lp_t76 (s := 1) (K := fun r2 τ2 => nI (wl τ a 1 nW).length = r2 ∧ Rel σ τ2) hG.2.1 hG.2.2.2.2.2.2.1 ⟨rfl, h'⟩ nW 0 (nW + 1) (by omega) (by omega)
    · subst c
      unfold w_X2_countTokens
      refine ⟨nT + 1, lp_ct (τ := τ) hG.2.2.1 hG.2.2.2.2.2.2.2.1 (fun t ht => (hG.2.2.2.2.2.2.2.2.2.2.2.2.2 t ht).1) ?_ nT 0 (nT + 1) (by omega) (by omega)⟩
      refine hM (fun r2 τ2 => nI (selU (fun t => decide (gA τ 7 t = nI a)) nT).length = r2 ∧ Rel σ τ2) (jbf n0 (jbf n1 (jbf n2 (jbf (by decide) (jbr rfl ⟨nT + 1, ?_⟩)))))
      exact lp_t128 (K := fun r2 τ2 => nI (selU (fun t => decide (gA τ 7 t = nI a)) nT).length = r2 ∧ Rel σ τ2) hG.2.2.1 hG.2.2.2.2.2.2.2.2.1 ⟨rfl, h'⟩ nT 0 (nT + 1) (by omega) (by omega)
    · exact hM (fun r2 τ2 => (-1 : Int32) = r2 ∧ Rel σ τ2) (jbf n0 (jbf n1 (jbf n2 (jbf (fun z => z.elim n3 n4) (jbf n5 ⟨rfl, h'⟩)))))
