/-! ===== CALL ===== -/
theorem vals_of {nA nC nP nR p a q : Nat} {σ τ : St} (h2 : RP nA nC nP σ τ) (h3 : RV nR nP σ τ) (hA : nA ≤ 80) (hp : p < nP) (ha : a < 80) (h14 : gA τ 14 p = nI a) (hq : gA τ 2 a = nI q) (hq3 : q ≤ 3) (h17 : ¬ gA τ 17 p = 0) (j : Nat) (hj : j < q) : vr nR (gL σ 4 (3 * p + j)) (gA τ 19 (3 * p + j)) (gA τ 20 (3 * p + j)) (gA τ 21 (3 * p + j)) := by
  obtain ⟨-, -, -, -, -, a', q', h, g1, g2, g3, g4, g5, g6, g7, g8⟩ := h2.2.2.2.1 p hp
  have e1 : a' = a := nI_inj (by omega) (by omega) (g2.symm.trans h14)
  subst e1
  have e2 : q' = q := nI_inj (by omega) (by omega) (g3.symm.trans hq)
  subst e2
  have h8 := two8 g5
  have hfull : h = 2 ^ q' - 1 := Classical.byContradiction (fun z => h17 (g8.mpr z))
  refine h3 p h hp g6 (by omega) j (by omega) ?_
  rw [hfull]
  rcases (show q' = 1 ∨ q' = 2 ∨ q' = 3 by omega) with rfl | rfl | rfl
  · rcases (show j = 0 by omega) with rfl; decide
  · rcases (show j = 0 ∨ j = 1 by omega) with rfl | rfl <;> decide
  · rcases (show j = 0 ∨ j = 1 ∨ j = 2 by omega) with rfl | rfl | rfl <;> decide
theorem i10 (f i : Nat) : (10 : Int32) * nI f + nI i = nI (10 * f + i) := by rw [show (10 : Int32) = nI 10 from rfl, pk_mul, nI_add]
theorem lp_par_hit {τ : St} {nA a b f i : Nat} {x1 x3 : Int32} {L : St → Int32 → Int32 → Int32 → Int32 → Prop} {K : Int32 → St → Prop} (hA : nA ≤ 80) (hS : gS τ 0 = nI nA) (ha : a < 80) (hf : gA τ 1 a = nI f) (hb : b < nA) (hb1 : gA τ 0 b = 15 ∧ gA τ 1 b = nI (10 * f + i)) (hmin : ∀ b', b' < b → ¬ (gA τ 0 b' = 15 ∧ gA τ 1 b' = nI (10 * f + i))) (hk : b_X10_calls_93 L K τ x1 (nI a) x3 (nI i) (nI b)) :
    ∀ (d w n : Nat), w + d = b → d < n → w_X10_calls_44 L K n τ x1 (nI a) x3 (nI i) (nI w) := by
  intro d
  induction d with
  | zero =>
    intro w n h1 h2
    obtain ⟨n, rfl⟩ : ∃ z, n = z + 1 := ⟨n - 1, by omega⟩
    have : w = b := by omega
    subst this
    show b_X10_calls_44 L (w_X10_calls_44 L K n) K τ x1 (nI a) x3 (nI i) (nI w)
    unfold b_X10_calls_44
    have hwi : vp_in (nI w) 80 := vp_in_nI (by omega) (by decide)
    rw [hS, nI_clamp (show w < 2 ^ 31 by omega), nI_clamp (show a < 2 ^ 31 by omega), hf, i10]
    exact jbf (nI_ge hb (by omega)) ⟨hwi, jbm hb1.1 ⟨hwi, vp_in_nI ha (by decide), jbr hb1.2 hk⟩⟩
  | succ d ih =>
    intro w n h1 h2
    obtain ⟨n, rfl⟩ : ∃ z, n = z + 1 := ⟨n - 1, by omega⟩
    show b_X10_calls_44 L (w_X10_calls_44 L K n) K τ x1 (nI a) x3 (nI i) (nI w)
    unfold b_X10_calls_44
    have hwi : vp_in (nI w) 80 := vp_in_nI (by omega) (by decide)
    have hr := ih (w + 1) n (by omega) (by omega)
    rw [hS, nI_clamp (show w < 2 ^ 31 by omega), nI_clamp (show a < 2 ^ 31 by omega), hf, i10, nI_1]
    refine jbf (nI_ge (by omega) (by omega)) ⟨hwi, ?_⟩
    by_cases e : gA τ 0 w = 15
    · exact jbm e ⟨hwi, vp_in_nI ha (by decide), jbf (fun z => hmin w (by omega) ⟨e, z⟩) hr⟩
    · exact jbn e hr
theorem lp_par_miss {τ : St} {nA a f i : Nat} {x1 x3 : Int32} {L : St → Int32 → Int32 → Int32 → Int32 → Prop} {K : Int32 → St → Prop} (hA : nA ≤ 80) (hS : gS τ 0 = nI nA) (ha : a < 80) (hf : gA τ 1 a = nI f) (hmin : ∀ b', b' < nA → ¬ (gA τ 0 b' = 15 ∧ gA τ 1 b' = nI (10 * f + i))) (hk : b_X10_calls_93 L K τ x1 (nI a) x3 (nI i) (nI nA)) :
    ∀ (d w n : Nat), w + d = nA → d < n → w_X10_calls_44 L K n τ x1 (nI a) x3 (nI i) (nI w) := by
  intro d
  induction d with
  | zero =>
    intro w n h1 h2
    obtain ⟨n, rfl⟩ : ∃ z, n = z + 1 := ⟨n - 1, by omega⟩
    have : w = nA := by omega
    subst this
    show b_X10_calls_44 L (w_X10_calls_44 L K n) K τ x1 (nI a) x3 (nI i) (nI w)
    unfold b_X10_calls_44
    exact jbr (by rw [hS]; exact nI_le (Nat.le_refl _) (by omega)) hk
  | succ d ih =>
    intro w n h1 h2
    obtain ⟨n, rfl⟩ : ∃ z, n = z + 1 := ⟨n - 1, by omega⟩
    show b_X10_calls_44 L (w_X10_calls_44 L K n) K τ x1 (nI a) x3 (nI i) (nI w)
    unfold b_X10_calls_44
    have hwi : vp_in (nI w) 80 := vp_in_nI (by omega) (by decide)
    have hr := ih (w + 1) n (by omega) (by omega)
    rw [hS, nI_clamp (show w < 2 ^ 31 by omega), nI_clamp (show a < 2 ^ 31 by omega), hf, i10, nI_1]
    refine jbf (nI_ge (by omega) (by omega)) ⟨hwi, ?_⟩
    by_cases e : gA τ 0 w = 15
    · exact jbm e ⟨hwi, vp_in_nI ha (by decide), jbf (fun z => hmin w (by omega) ⟨e, z⟩) hr⟩
    · exact jbn e hr
theorem lp_call {cx : Cx} {nA nW nT nC hd nR nCe nQ p a c q f : Nat} {pr : Nat → Nat} (hc : c < nC) (ha : a < nA) (hq3 : q ≤ 3) (hf10 : f < 10) :
    ∀ (d i nP m : Nat) (σ τ : St), i + d = q → RG nA nW nT σ τ → RR cx nA nC nP m hd nR nCe nQ pr σ τ → Go σ τ → p < nP → gA τ 14 p = nI a → gA τ 17 p = 2 → gA τ 2 a = nI q → gA τ 1 a = nI f →
    ∃ (σ' τ' : St) (r : Int32) (nP' m' : Nat), (∀ K : St → Prop, K σ' → ∀ n, d < n → w_X4_goCall_26 K n σ (nI p) (nI a) (nI c) (nI i)) ∧ (∀ K : Int32 → St → Prop, K r τ' → ∀ n, d < n → w_X10_calls_30 K n τ (nI p) (nI a) (nI c) (nI i)) ∧ RG nA nW nT σ' τ' ∧ RR cx nA nC nP' m' hd nR nCe nQ pr σ' τ' ∧ ((r = 1 ∧ Go σ' τ') ∨ (r = 0 ∧ Hlt σ' τ')) := by
  intro d
  induction d with
  | zero =>
    intro i nP m σ τ hi hG hR hgo hp h14 h17 h2 hf
    have hA := hG.1
    have hai : vp_in (nI a) 80 := vp_in_nI (by omega) (by decide)
    have h2C : gA σ 2 a = nI q := by rw [← (hG.2.2.2.2.2.2.2.2.2.1 a ha).2.2.1]; exact h2
    refine ⟨σ, τ, 1, nP, m, fun K hK n hn => ?_, fun K hK n hn => ?_, hG, hR, Or.inl ⟨rfl, hgo⟩⟩
    · obtain ⟨n, rfl⟩ : ∃ z, n = z + 1 := ⟨n - 1, by omega⟩
      show b_X4_goCall_26 (w_X4_goCall_26 K n) K σ (nI p) (nI a) (nI c) (nI i)
      unfold b_X4_goCall_26
      rw [nI_clamp (show a < 2 ^ 31 by omega), h2C]
      exact ⟨hai, jbr (nI_le (by omega) (by omega)) hK⟩
    · obtain ⟨n, rfl⟩ : ∃ z, n = z + 1 := ⟨n - 1, by omega⟩
      show b_X10_calls_30 (w_X10_calls_30 K n) K τ (nI p) (nI a) (nI c) (nI i)
      unfold b_X10_calls_30
      rw [nI_clamp (show a < 2 ^ 31 by omega), h2]
      exact ⟨hai, jbr (nI_le (by omega) (by omega)) hK⟩
  | succ d ih =>
    intro i nP m σ τ hi hG hR hgo hp h14 h17 h2 hf
    have hA := hG.1
    have hP := hR.2.1.1
    have hai : vp_in (nI a) 80 := vp_in_nI (by omega) (by decide)
    have h2C : gA σ 2 a = nI q := by rw [← (hG.2.2.2.2.2.2.2.2.2.1 a ha).2.2.1]; exact h2
    have hfC : gA σ 1 a = nI f := by rw [← (hG.2.2.2.2.2.2.2.2.2.1 a ha).2.1]; exact hf
    have hS : gS τ 0 = nI nA := hG.2.2.2.2.1
    have hnle : ¬ nI q ≤ nI i := nI_ge (by omega) (by omega)
    have h9 : vp_in (3 * nI p + nI i) 9000 := by rw [i3]; exact vp_in_nI (by omega) (by decide)
    have hvi := vals_of hR.2.1 hR.2.2.1 hA hp (by omega) h14 h2 hq3 (by rw [h17]; decide) i (by omega)
    have hbody : ∀ (K : St → Prop) (n : Nat), (((gA σ 3 (10 * f + i) = -1 → w_X4_goCall_26 K n σ (nI p) (nI a) (nI c) (nI (i + 1))) ∧ (¬ gA σ 3 (10 * f + i) = -1 → w_X4_arrive σ (gA σ 3 (10 * f + i)) 0 (nI c) (gL σ 4 (3 * p + i)) (fun u => w_X4_goCall_26 K n u (nI p) (nI a) (nI c) (nI (i + 1)))))) → w_X4_goCall_26 K (n + 1) σ (nI p) (nI a) (nI c) (nI i) := by
      intro K n hb
      show b_X4_goCall_26 (w_X4_goCall_26 K n) K σ (nI p) (nI a) (nI c) (nI i)
      unfold b_X4_goCall_26 w_X2_parameterFor
      rw [nI_clamp (show a < 2 ^ 31 by omega), h2C, hfC, i10, nI_1, nI_clamp (show 10 * f + i < 2 ^ 31 by omega)]
      refine ⟨hai, jbf hnle (jbm hgo.1 ⟨hai, jbf (nI_pos (by omega)) (jbf (nI_ge (b := 100) (by omega) (by decide)) ⟨vp_in_nI (by omega) (by decide), hb.1, fun z => ?_⟩)⟩)⟩
      exact ev_came (j := i) (by omega) (by omega) (hb.2 z)
    rcases hG.2.2.2.2.2.2.2.2.2.2.2.2.1 (10 * f + i) (by omega) with ⟨y1, y2⟩ | ⟨b, y1, y2, y3, y4, y5⟩
    · obtain ⟨σ', τ', r, nP', m', z1, z2, z3⟩ := ih (i + 1) nP m σ τ (by omega) hG hR hgo hp h14 h17 h2 hf
      refine ⟨σ', τ', r, nP', m', fun K hK n hn => ?_, fun K hK n hn => ?_, z3⟩
      · obtain ⟨n, rfl⟩ : ∃ z, n = z + 1 := ⟨n - 1, by omega⟩
        exact hbody K n (jbr y1 (z1 K hK n (by omega)))
      · obtain ⟨n, rfl⟩ : ∃ z, n = z + 1 := ⟨n - 1, by omega⟩
        show b_X10_calls_30 (w_X10_calls_30 K n) K τ (nI p) (nI a) (nI c) (nI i)
        unfold b_X10_calls_30
        rw [nI_clamp (show a < 2 ^ 31 by omega), h2]
        refine ⟨hai, jbf hnle ⟨nA + 1, ?_⟩⟩
        refine lp_par_miss hA hS (by omega) hf y2 ?_ nA 0 (nA + 1) (by omega) (by omega)
        unfold b_X10_calls_93
        rw [hS, nI_1]
        exact jbr (nI_le (Nat.le_refl _) (by omega)) (z2 K hK n (by omega))
    · have hb1 : gA τ 2 b = nI 1 := by
        obtain ⟨-, -, -, kk, pp, w1, w2, w3, w4, w5, w6, -⟩ := hG.2.2.2.2.2.2.2.2.2.1 b y1
        have : kk = 15 := nI_inj (by omega) (by decide) (w2.symm.trans y3)
        subst this
        rw [w3, w6 (by decide)]
        rfl
      obtain ⟨σ1, τ1, r1, nP1, m1, k1, k2, k3, k4, k5, k6, k7⟩ := sim_arrive (k := 0) hG hR hgo y1 hb1 (by decide) (by decide) hc hvi
      have hG1 := hG.fr k5 k6
      have hcall : ∀ (K : Int32 → St → Prop) (n : Nat), ((¬ r1 = 0 → w_X10_calls_30 K n τ1 (nI p) (nI a) (nI c) (nI (i + 1))) ∧ (r1 = 0 → K 0 τ1)) → w_X10_calls_30 K (n + 1) τ (nI p) (nI a) (nI c) (nI i) := by
        intro K n hb
        show b_X10_calls_30 (w_X10_calls_30 K n) K τ (nI p) (nI a) (nI c) (nI i)
        unfold b_X10_calls_30
        rw [nI_clamp (show a < 2 ^ 31 by omega), h2]
        refine ⟨hai, jbf hnle ⟨nA + 1, ?_⟩⟩
        refine lp_par_hit hA hS (by omega) hf y1 ⟨y3, y4⟩ y5 ?_ b 0 (nA + 1) (by omega) (by omega)
        unfold b_X10_calls_93
        refine jbf (by rw [hS]; exact nI_ge y1 (by omega)) ⟨h9, h9, h9, ?_⟩
        rw [i3, nI_clamp (show 3 * p + i < 2 ^ 31 by omega), nI_1]
        exact k2 _ hb
      rcases k7 with ⟨rfl, hgo1⟩ | ⟨rfl, hlt⟩
      · obtain ⟨σ', τ', r, nP', m', z1, z2, z3⟩ := ih (i + 1) nP1 m1 σ1 τ1 (by omega) hG1 k3 hgo1 (by omega) (by rw [(k6.2.2 p hp).1]; exact h14) ((k6.2.2 p hp).2.2 h17) (by rw [k6.2.1 2 (by decide)]; exact h2) (by rw [k6.2.1 1 (by decide)]; exact hf)
        refine ⟨σ', τ', r, nP', m', fun K hK n hn => ?_, fun K hK n hn => ?_, z3⟩
        · obtain ⟨n, rfl⟩ : ∃ z, n = z + 1 := ⟨n - 1, by omega⟩
          exact hbody K n (jbf (by rw [y2]; exact nI_m1 (by omega)) (by rw [y2]; exact k1 _ (z1 K hK n (by omega))))
        · obtain ⟨n, rfl⟩ : ∃ z, n = z + 1 := ⟨n - 1, by omega⟩
          exact hcall K n (jbn (by decide) (z2 K hK n (by omega)))
      · refine ⟨σ1, τ1, 0, nP1, m1, fun K hK n hn => ?_, fun K hK n hn => ?_, hG1, k3, Or.inr ⟨rfl, hlt⟩⟩
        · obtain ⟨n, rfl⟩ : ∃ z, n = z + 1 := ⟨n - 1, by omega⟩
          have hz : w_X4_goCall_26 K n σ1 (nI p) (nI a) (nI c) (nI (i + 1)) := by
            obtain ⟨n, rfl⟩ : ∃ z, n = z + 1 := ⟨n - 1, by omega⟩
            show b_X4_goCall_26 (w_X4_goCall_26 K n) K σ1 (nI p) (nI a) (nI c) (nI (i + 1))
            unfold b_X4_goCall_26
            exact ⟨hai, fun _ => hK, fun _ => jbn hlt.2.2.1 hK⟩
          exact hbody K n (jbf (by rw [y2]; exact nI_m1 (by omega)) (by rw [y2]; exact k1 _ hz))
        · obtain ⟨n, rfl⟩ : ∃ z, n = z + 1 := ⟨n - 1, by omega⟩
          exact hcall K n (jbm rfl hK)
theorem fire_call {cx : Cx} {nA nW nT nC nP m hd nR nCe nQ p a c k q f : Nat} {pr : Nat → Nat} {σ τ : St} (hF : Fire cx nA nW nT nC nP m hd nR nCe nQ p a c k q pr σ τ) (hf : gA τ 1 a = nI f) (hf10 : f < 10) :
    ∃ (σ' τ' : St) (r : Int32), (∀ K : St → Prop, K σ' → w_X4_goCall σ (nI p) (nI a) (nI c) K) ∧ (∀ K : Int32 → St → Prop, K r τ' → w_X10_calls τ (nI p) K) ∧ Done cx nA nW nT hd σ' τ' ∧ zb r := by
  obtain ⟨hG, hR, hgo, hp, h14, h15, ha, hc, h0, hk22, h2, hq1, hq3, hjq, hvr, h17, hq2, hr1, hr2⟩ := hF
  have hP := hR.2.1.1
  have hA := hG.1
  have hpi : vp_in (nI p) 3000 := vp_in_nI (by omega) (by decide)
  have e10 : (10 : Int32) + nI a = nI (10 + a) := by rw [show (10 : Int32) = nI 10 from rfl, nI_add]
  have hM : ∀ K : Int32 → St → Prop, w_X10_colour τ 2 (nI a) 0 (nI c) (fun r u => (0 ≤ r → ∃ n : Nat, w_X10_calls_30 K n u (nI p) (nI a) r 0) ∧ (¬ 0 ≤ r → K 0 u)) → w_X10_calls τ (nI p) K := by
    intro K h
    unfold w_X10_calls
    rw [nI_clamp (show p < 2 ^ 31 by omega), h14, h15]
    exact ⟨hpi, hpi, h⟩
  have hCl : ∀ K : St → Prop, w_X0_reach σ (nI c) (nI (10 + a)) (nI (10 + a)) (nI c) (fun r u => (¬ r = -1 → ∃ n : Nat, w_X4_goCall_26 K n u (nI p) (nI a) r 0) ∧ (r = -1 → K (sS u 4 2))) → w_X4_goCall σ (nI p) (nI a) (nI c) K := by
    intro K h
    unfold w_X4_goCall w_X0_callBy
    rw [e10]
    exact h
  rcases sim_col hR hgo (b := c) (ky := nI (10 + a)) (og := nI (10 + a)) (ou := nI c) (s := 2) (o := nI a) (t := 0) (i := nI c) (Or.inr ⟨a, c, by omega, hc, rfl, rfl, rfl, rfl, rfl, rfl, rfl, rfl⟩) hc with ⟨c', nC', pr', σ1, τ1, k1, k2, k3, k4, k5, k6, k7, k8⟩ | ⟨k1, k2⟩
  · have hG1 := hG.fk k7 k8
    have hC6 := k5.1.2.1
    obtain ⟨σ', τ', r, nP', m', z1, z2, z3, z4, z5⟩ := lp_call (p := p) (q := q) (f := f) k1 ha hq3 hf10 q 0 nP m σ1 τ1 (by omega) hG1 k5 k6 hp (by rw [k8.2 14 (by decide)]; exact h14) (by rw [k8.2 17 (by decide)]; exact h17) (by rw [k8.2 2 (by decide)]; exact h2) (by rw [k8.2 1 (by decide)]; exact hf)
    refine ⟨σ', τ', r, fun K hK => hCl K (k3 _ (jbn (nI_m1 (by omega)) ⟨q + 1, z1 K hK (q + 1) (by omega)⟩)), fun K hK => hM K (k4 _ (jbr (nI_pos' (by omega)) ⟨q + 1, z2 K hK (q + 1) (by omega)⟩)), ⟨nC', nP', m', nR, nCe, nQ, pr', z3, z4, ?_⟩, ?_⟩
    · rcases z5 with h | h
      · exact Or.inl h.2
      · exact Or.inr h.2
    · rcases z5 with h | h
      · exact Or.inr h.1
      · exact Or.inl h.1
  · exact ⟨_, _, 0, fun K hK => hCl K (k1 _ (jbm rfl hK)), fun K hK => hM K (k2 _ (jbf (by decide) hK)), Done_full hG hR hgo, Or.inl rfl⟩
