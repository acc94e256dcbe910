/-! ===== the graph grows ===== -/
def GfC (σ σ' : St) : Prop := (∀ k, (k = 0 ∨ 3 < k) → gS σ' k = gS σ k) ∧ (∀ k, 11 < k → gA σ' k = gA σ k) ∧ (∀ k, gL σ' k = gL σ k)
def GfM (τ τ' : St) : Prop := (∀ k, 2 < k → gS τ' k = gS τ k) ∧ (∀ k, 9 < k → gA τ' k = gA τ k)
theorem RO.gf {nA nA' : Nat} {σ τ σ' τ' : St} (h : RO nA σ τ) (hle : nA ≤ nA') (hC : GfC σ σ') (hM : GfM τ τ') : RO nA' σ' τ' := by
  obtain ⟨h03, hz, hO⟩ := h
  have cS := hC.1
  have cA := hC.2.1
  have cL := hC.2.2
  have mS := hM.1
  have mA := hM.2
  refine ⟨by rw [cS 0 (by decide), mS 3 (by decide)]; exact h03, by rw [cS 0 (by decide)]; exact hz, fun h0 => ?_⟩
  rw [cS 0 (by decide)] at h0
  obtain ⟨nC, nP, m, hd, nR, nCe, nQ, o1, o2, o3, o4, o5, o6, o7, o8, o9, o10, o11, o12, o13, o14, o15, o16, o17, o22⟩ := hO h0
  refine ⟨nC, nP, m, hd, nR, nCe, nQ, ?_, ?_, ?_, ?_, ?_, ?_, ?_, ?_, o9, o10, ?_, ?_, ?_, ?_, ?_, ?_, ?_, fun r hr => ?_⟩
  · rw [cS 4 (by decide), mS 5 (by decide)]; exact o1
  · rw [cS 7 (by decide), mS 8 (by decide)]; exact o2
  · rw [cS 10 (by decide), mS 11 (by decide)]; exact o3
  · rw [cS 14 (by decide)]; exact o4
  · rw [mS 12 (by decide)]; exact o5
  · rw [mS 14 (by decide)]; exact o6
  · rw [cS 17 (by decide)]; exact o7
  · rw [cS 18 (by decide)]; exact o8
  · rw [mS 13 (by decide)]; exact o11
  · rw [mA 16 (by decide)]; exact o12
  · unfold RLf at o13 ⊢
    rw [cS 15 (by decide), mA 16 (by decide), mA 17 (by decide)]; exact o13
  · unfold RS at o14 ⊢
    rw [cS 12 (by decide), cS 13 (by decide), mS 15 (by decide), mS 16 (by decide), cA 13 (by decide), cA 14 (by decide), cA 15 (by decide), cL 3, mA 25 (by decide), mA 26 (by decide), mA 27 (by decide), mA 28 (by decide), mA 29 (by decide), mA 30 (by decide), mA 31 (by decide)]
    exact o14
  · unfold RDw at o15 ⊢
    rw [mS 17 (by decide), cS 11 (by decide), mA 32 (by decide)]; exact o15
  · unfold RE at o16 ⊢
    rw [cL 2, mA 34 (by decide), mA 35 (by decide), mA 36 (by decide)]; exact o16
  · unfold RK0 at o17 ⊢
    rw [cS 5 (by decide), cS 6 (by decide), cS 8 (by decide), cS 9 (by decide), mS 6 (by decide), mS 7 (by decide), mS 9 (by decide), mS 10 (by decide), cA 12 (by decide), mA 23 (by decide)]
    exact o17
  · rw [mA 27 (by decide)]
    obtain ⟨b, hb, e⟩ := o22 r hr
    exact ⟨b, by omega, e⟩
/-- a port, on both sides -/
theorem port_case {nA nW nT a q : Nat} {σ τ : St} (hG : RG nA nW nT σ τ) (ha : a < nA) (hq : gA τ 2 a = nI q) (hq3 : q ≤ 3) (a2 : Int32) : (∀ K K' : Int32 → St → Prop, (K 0 σ → w_X2_hasPort σ (nI a) a2 K) ∧ (K' 0 τ → w_X10_in τ a2 0 (nI q - 1) K')) ∨ ∃ p, p < q ∧ a2 = nI p ∧ ∀ K K' : Int32 → St → Prop, (K 1 σ → w_X2_hasPort σ (nI a) a2 K) ∧ (K' 1 τ → w_X10_in τ a2 0 (nI q - 1) K') := by
  have hA := hG.1
  have hai : vp_in (nI a) 80 := vp_in_nI (by omega) (by decide)
  have hqC : gA σ 2 a = nI q := by rw [← (hG.2.2.2.2.2.2.2.2.2.1 a ha).2.2.1]; exact hq
  have hcl : ∀ K : Int32 → St → Prop, ((a2 < 0 → K 0 σ) ∧ (¬ a2 < 0 → ((nI q ≤ a2 → K 0 σ) ∧ (¬ nI q ≤ a2 → K 1 σ)))) → w_X2_hasPort σ (nI a) a2 K := fun K h => by
    unfold w_X2_hasPort w_X2_hasAct
    rw [hG.2.2.2.1]
    refine jbf (nI_pos (by omega)) (jbf (nI_ge ha (by omega)) (jbf (by decide) ⟨h.1, fun y => ⟨hai, ?_⟩⟩))
    rw [nI_clamp (show a < 2 ^ 31 by omega), hqC]
    exact h.2 y
  rcases pk_ix a2 (n := q) (by omega) with x | x | ⟨p, hp, x⟩
  · exact Or.inl (fun K K' => ⟨fun h => hcl K (jbr x h), fun h => ev_in_lo x h⟩)
  · by_cases y : a2 < 0
    · exact Or.inl (fun K K' => ⟨fun h => hcl K (jbr y h), fun h => ev_in_lo y h⟩)
    · refine Or.inl (fun K K' => ⟨fun h => hcl K (jbf y (jbr x h)), fun h => ?_⟩)
      obtain ⟨j, hj, e⟩ := nI_of y
      rw [e] at x y ⊢
      exact ev_in_hi y (in_out ((nI_leI (by omega) hj).mp x) hj) h
  · refine Or.inr ⟨p, hp, x, fun K K' => ⟨fun h => hcl K ?_, fun h => ?_⟩⟩
    · rw [x]
      exact jbf (nI_pos (by omega)) (jbf (nI_ge hp (by omega)) h)
    · rw [x]
      exact ev_in_ok (nI_pos (by omega)) (in_in hp (by omega)) h
theorem st_token (σ τ : St) (a1 a2 a3 : Int32) (h : Rel σ τ) : w_X9_token σ a1 a2 a3 (fun r σ2 => w_X10_token τ a1 a2 a3 (fun r2 τ2 => r = r2 ∧ Rel σ2 τ2)) := by
  have h' := h
  obtain ⟨hZ, nA, nW, nT, hG, hO⟩ := h
  have hA := hG.1
  have hT := hG.2.2.1
  unfold w_X9_token w_X2_addToken w_X10_token
  rcases act_case hG a1 with ⟨ha, hne⟩ | ⟨a, ha, rfl, hc⟩
  · unfold w_X2_hasPort
    refine (ha _ (fun _ _ => True)).1 (jbr rfl (jbr rfl ?_))
    exact (ha (fun _ _ => True) _).2 (jbr rfl ⟨rfl, h'⟩)
  · have hai : vp_in (nI a) 80 := vp_in_nI (by omega) (by decide)
    obtain ⟨-, -, -, kk, q, -, -, hq, -, hq3, -⟩ := hG.2.2.2.2.2.2.2.2.2.1 a ha
    have hM : ∀ K : Int32 → St → Prop, w_X10_in τ a2 0 (nI q - 1) (fun r_4 u_3 => (r_4 = 0 → (K (-1) u_3)) ∧ (¬ r_4 = 0 → ((¬ (gS u_3 2) = 40 → (vp_in (gS u_3 2) 40 ∧ (vp_in (gS u_3 2) 40 ∧ (vp_in (gS u_3 2) 40 ∧ (K ((gS u_3 2) + 1) (sS (sA (sA (sA u_3 7 ((gS u_3 2)).toNatClampNeg (nI a)) 8 ((gS u_3 2)).toNatClampNeg a2) 9 ((gS u_3 2)).toNatClampNeg a3) 2 ((gS u_3 2) + 1))))))) ∧ ((gS u_3 2) = 40 → (K (-1) u_3))))) → w_X10_token τ (nI a) a2 a3 K := fun K hb => by
      unfold w_X10_token
      refine (hc (fun _ _ => True) _).2 (jbf (by decide) ⟨hai, ?_⟩)
      rw [nI_clamp (show a < 2 ^ 31 by omega), hq]
      exact hb
    rcases port_case hG ha hq hq3 a2 with hp | ⟨p, hp, rfl, hpc⟩
    · refine (hp _ (fun _ _ => True)).1 (jbr rfl ?_)
      exact hM (fun r2 τ2 => (-1 : Int32) = r2 ∧ Rel σ τ2) ((hp (fun _ _ => True) _).2 (jbr rfl ⟨rfl, h'⟩))
    · refine (hpc _ (fun _ _ => True)).1 (jbf (by decide) ?_)
      have h3 := hG.2.2.2.2.2.2.2.1
      have h2 := hG.2.2.2.2.2.2.2.2.1
      by_cases full : nT = 40
      · refine jbf (by rw [h3, full]; decide) ?_
        exact hM (fun r2 τ2 => (-1 : Int32) = r2 ∧ Rel σ τ2) ((hpc (fun _ _ => True) _).2 (jbf (by decide) (jbm (by rw [h2, full]; rfl) ⟨rfl, h'⟩)))
      · have hti : vp_in (nI nT) 40 := vp_in_nI (by omega) (by decide)
        rw [h3, nI_clamp (show nT < 2 ^ 31 by omega), nI_1]
        refine jbr (nI_lt (b := 40) (by omega) (by decide)) ⟨hti, hti, hti, ?_⟩
        refine hM (fun r2 τ2 => nI (nT + 1) = r2 ∧ Rel (sS (sA (sA (sA σ 9 nT (nI a)) 10 nT (nI p)) 11 nT a3) 3 (nI (nT + 1))) τ2) ((hpc (fun _ _ => True) _).2 (jbf (by decide) (jbn (by rw [h2]; exact fun z => full (nI_inj (b := 40) (by omega) (by decide) z)) ?_)))
        rw [h2, nI_clamp (show nT < 2 ^ 31 by omega), nI_1]
        refine ⟨hti, hti, hti, rfl, hZ.gl (fun k => by simp only [gL_sS, gL_sA]), nA, nW, nT + 1, ?_, hO.gf (Nat.le_refl _) ⟨fun k hk => ?_, fun k hk => ?_, fun k => ?_⟩ ⟨fun k hk => ?_, fun k hk => ?_⟩⟩
        · obtain ⟨g1, g2, g3, g4, g5, g6, g7, g8, g9, g10, g11, g12, g13, g14⟩ := hG
          unfold RG prm wl
          simp only [gS_sS, gS_sA, gS_sL, gS_fA, gS_fL, gA_sS, gA_sA, gA_sL, gA_fA, gA_fL, gL_sS, gL_sA, gL_sL, gL_fA, gL_fL, reduceIte, Nat.reduceEqDiff, jupd, jupdL]
          refine ⟨g1, g2, by omega, g4, g5, g6, g7, trivial, trivial, g10, g11, g12, g13, fun t ht => ?_⟩
          by_cases e : t = nT
          · simp only [if_pos e]
            exact ⟨trivial, trivial, trivial, a, p, q, ha, rfl, rfl, hq, hp, hq3⟩
          · simp only [if_neg e]
            exact g14 t (by omega)
        · simp only [gS_sS, gS_sA, if_neg (show ¬ k = 3 by omega)]
        · simp only [gA_sS, gA_sA, if_neg (show ¬ k = 9 by omega), if_neg (show ¬ k = 10 by omega), if_neg (show ¬ k = 11 by omega)]
        · simp only [gL_sS, gL_sA]
        · simp only [gS_sS, gS_sA, if_neg (show ¬ k = 2 by omega)]
        · simp only [gA_sS, gA_sA, if_neg (show ¬ k = 7 by omega), if_neg (show ¬ k = 8 by omega), if_neg (show ¬ k = 9 by omega)]
theorem st_clear (σ τ : St) (a1 : Int32) (h : Rel σ τ) : w_X9_clear σ a1 (fun r σ2 => w_X10_clear τ a1 (fun r2 τ2 => r = r2 ∧ Rel σ2 τ2)) := by
  have h' := h
  obtain ⟨hZ, nA, nW, nT, hG, hO⟩ := h
  unfold w_X9_clear w_X10_clear
  by_cases x : a1 < 0
  · exact jbr x (ev_in_lo x (jbm rfl ⟨rfl, h'⟩))
  · by_cases y : a1 ≤ 2
    · refine jbf x (jbr y ?_)
      have hin : ∀ K : Int32 → St → Prop, K 1 τ → w_X10_in τ a1 0 2 K := fun K hk => ev_in_ok x (Int32.not_lt.mpr y) hk
      obtain ⟨n, hn, rfl⟩ := nI_of2 (M := 2) (n := 2) (by decide) x y
      have hO' : ∀ (nA' : Nat) (σ' τ' : St), gS σ' 0 = 0 → gS τ' 3 = 0 → RO nA' σ' τ' := fun nA' σ' τ' e1 e2 => ⟨by rw [e1, e2], Or.inl e1, fun z => by rw [e1] at z; exact absurd z (by decide)⟩
      obtain ⟨g1, g2, g3, g4, g5, g6, g7, g8, g9, g10, g11, g12, g13, g14⟩ := hG
      unfold w_X2_dropTokens w_X2_dropWays
      rcases (show n = 0 ∨ n = 1 ∨ n = 2 by omega) with rfl | rfl | rfl
      · refine jbr (by decide) ?_
        unfold b_X9_clear_30
        refine jbn (by decide) (hin _ (jbn (by decide) (jbr (by decide) ?_)))
        unfold b_X10_clear_25
        refine jbr (by decide) ⟨rfl, hZ.gl (fun k => by simp only [gL_sS, gL_sA, gL_fA]), nA, nW, 0, ?_, hO' _ _ _ (by simp only [gS_sS, gS_sA, gS_sL, gS_fA, gS_fL, gA_sS, gA_sA, gA_sL, gA_fA, gA_fL, gL_sS, gL_sA, gL_sL, gL_fA, gL_fL, reduceIte, Nat.reduceEqDiff, jupd, jupdL]) (by simp only [gS_sS, gS_sA, gS_sL, gS_fA, gS_fL, gA_sS, gA_sA, gA_sL, gA_fA, gA_fL, gL_sS, gL_sA, gL_sL, gL_fA, gL_fL, reduceIte, Nat.reduceEqDiff, jupd, jupdL])⟩
        unfold RG prm wl
        simp only [gS_sS, gS_sA, gS_sL, gS_fA, gS_fL, gA_sS, gA_sA, gA_sL, gA_fA, gA_fL, gL_sS, gL_sA, gL_sL, gL_fA, gL_fL, reduceIte, Nat.reduceEqDiff, jupd, jupdL]
        exact ⟨g1, g2, by omega, g4, g5, g6, g7, rfl, rfl, g10, g11, g12, g13, fun t ht => by omega⟩
      · refine jbf (by decide) ?_
        unfold b_X9_clear_30
        refine jbn (by decide) (hin _ (jbn (by decide) (jbf (by decide) ?_)))
        unfold b_X10_clear_25
        refine jbr (by decide) ⟨rfl, hZ.gl (fun k => by simp only [gL_sS, gL_sA, gL_fA]), nA, 0, 0, ?_, hO' _ _ _ (by simp only [gS_sS, gS_sA, gS_sL, gS_fA, gS_fL, gA_sS, gA_sA, gA_sL, gA_fA, gA_fL, gL_sS, gL_sA, gL_sL, gL_fA, gL_fL, reduceIte, Nat.reduceEqDiff, jupd, jupdL]) (by simp only [gS_sS, gS_sA, gS_sL, gS_fA, gS_fL, gA_sS, gA_sA, gA_sL, gA_fA, gA_fL, gL_sS, gL_sA, gL_sL, gL_fA, gL_fL, reduceIte, Nat.reduceEqDiff, jupd, jupdL])⟩
        unfold RG prm wl
        simp only [gS_sS, gS_sA, gS_sL, gS_fA, gS_fL, gA_sS, gA_sA, gA_sL, gA_fA, gA_fL, gL_sS, gL_sA, gL_sL, gL_fA, gL_fL, reduceIte, Nat.reduceEqDiff, jupd, jupdL, jfill]
        refine ⟨g1, by omega, by omega, g4, g5, rfl, rfl, rfl, rfl, g10, fun w hw => by omega, fun a s ha hs => ?_, g13, fun t ht => by omega⟩
        rw [if_pos (show 2 * a + s < 160 by omega), if_pos (show 2 * a + s < 160 by omega)]
        exact ⟨rfl, Or.inl ⟨rfl, rfl⟩⟩
      · refine jbf (by decide) ?_
        unfold b_X9_clear_30 w_X2_dropActs
        refine jbm rfl (hin _ (jbn (by decide) (jbf (by decide) ?_)))
        unfold b_X10_clear_25
        refine jbf (by decide) ⟨rfl, hZ.gl (fun k => by simp only [gL_sS, gL_sA, gL_fA]), 0, 0, 0, ?_, hO' _ _ _ (by simp only [gS_sS, gS_sA, gS_sL, gS_fA, gS_fL, gA_sS, gA_sA, gA_sL, gA_fA, gA_fL, gL_sS, gL_sA, gL_sL, gL_fA, gL_fL, reduceIte, Nat.reduceEqDiff, jupd, jupdL]) (by simp only [gS_sS, gS_sA, gS_sL, gS_fA, gS_fL, gA_sS, gA_sA, gA_sL, gA_fA, gA_fL, gL_sS, gL_sA, gL_sL, gL_fA, gL_fL, reduceIte, Nat.reduceEqDiff, jupd, jupdL])⟩
        unfold RG prm wl
        simp only [gS_sS, gS_sA, gS_sL, gS_fA, gS_fL, gA_sS, gA_sA, gA_sL, gA_fA, gA_fL, gL_sS, gL_sA, gL_sL, gL_fA, gL_fL, reduceIte, Nat.reduceEqDiff, jupd, jupdL, jfill]
        refine ⟨by omega, by omega, by omega, rfl, rfl, rfl, rfl, rfl, rfl, fun a ha => by omega, fun w hw => by omega, fun a s ha hs => ?_, fun q hq => ?_, fun t ht => by omega⟩
        · rw [if_pos (show 2 * a + s < 160 by omega), if_pos (show 2 * a + s < 160 by omega)]
          exact ⟨rfl, Or.inl ⟨rfl, rfl⟩⟩
        · rw [if_pos hq]
          exact Or.inl ⟨rfl, fun b hb => by omega⟩
    · exact jbf x (jbf y (ev_in_hi x (Int32.not_le.mp y) (jbm rfl ⟨rfl, h'⟩)))
