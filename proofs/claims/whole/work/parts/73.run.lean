/-! ===== runs ===== -/
def CtC (σ σ' : St) : Prop := (∀ k, k ≠ 4 → k ≠ 6 → k ≠ 7 → k ≠ 10 → gS σ' k = gS σ k) ∧ (∀ k, gA σ' k = gA σ k) ∧ (∀ k, gL σ' k = gL σ k)
def CtM (τ τ' : St) : Prop := (∀ k, k ≠ 4 → k ≠ 5 → k ≠ 7 → k ≠ 8 → k ≠ 11 → gS τ' k = gS τ k) ∧ (∀ k, gA τ' k = gA τ k)
theorem CtC.rf (σ : St) : CtC σ σ := ⟨fun _ _ _ _ _ => rfl, fun _ => rfl, fun _ => rfl⟩
theorem CtM.rf (τ : St) : CtM τ τ := ⟨fun _ _ _ _ _ _ => rfl, fun _ => rfl⟩
theorem CtC.s {σ σ' : St} (h : CtC σ σ') (j : Nat) (v : Int32) (hj : j = 4 ∨ j = 6 ∨ j = 7 ∨ j = 10) : CtC σ (sS σ' j v) := ⟨fun k h1 h2 h3 h4 => by rw [gS_sS, if_neg (by omega)]; exact h.1 k h1 h2 h3 h4, fun k => by rw [gA_sS]; exact h.2.1 k, fun k => by rw [gL_sS]; exact h.2.2 k⟩
theorem CtM.s {τ τ' : St} (h : CtM τ τ') (j : Nat) (v : Int32) (hj : j = 4 ∨ j = 5 ∨ j = 7 ∨ j = 8 ∨ j = 11) : CtM τ (sS τ' j v) := ⟨fun k h1 h2 h3 h4 h5 => by rw [gS_sS, if_neg (by omega)]; exact h.1 k h1 h2 h3 h4 h5, fun k => by rw [gA_sS]; exact h.2 k⟩
theorem RG.ct {nA nW nT : Nat} {σ τ σ' τ' : St} (h : RG nA nW nT σ τ) (hC : CtC σ σ') (hM : CtM τ τ') : RG nA nW nT σ' τ' := by
  unfold RG prm wl at h ⊢
  simp only [hC.2.1, hM.2, hC.1 1 (by decide) (by decide) (by decide) (by decide), hC.1 2 (by decide) (by decide) (by decide) (by decide), hC.1 3 (by decide) (by decide) (by decide) (by decide), hM.1 0 (by decide) (by decide) (by decide) (by decide) (by decide), hM.1 1 (by decide) (by decide) (by decide) (by decide) (by decide), hM.1 2 (by decide) (by decide) (by decide) (by decide) (by decide)]
  exact h
theorem RR.ct {cx cx' : Cx} {nA nC nP m hd nR nCe nQ : Nat} {pr : Nat → Nat} {σ τ σ' τ' : St} (hR : RR cx nA nC nP m hd nR nCe nQ pr σ τ) (hC : CtC σ σ') (hM : CtM τ τ') (h6 : gS σ' 6 = cx'.1 5) (x0 : cx'.1 0 = cx.1 0) (x1 : cx'.1 1 = gS τ' 7) (x2 : cx'.1 2 = gS σ' 7) (x3 : cx'.1 3 = gS τ' 8) (x4 : cx'.1 4 ≤ nI m) (xl : cx'.2.1 = cx.2.1 := by rfl) (xa : cx'.2.2 = cx.2.2 := by rfl) : RR cx' nA nC nP m hd nR nCe nQ pr σ' τ' := by
  obtain ⟨h1, h2, h3, h4, h5, h6', h7, ⟨h8, h9⟩, h10, h11⟩ := hR
  have cS := fun k a b c d => hC.1 k a b c d
  have mS := fun k a b c d e => hM.1 k a b c d e
  refine ⟨?_, ?_, ?_, ?_, ?_, ?_, ?_, ⟨?_, ?_⟩, ?_, ?_⟩
  · unfold RC at h1 ⊢
    simp only [hC.2.1, hM.2, cS 14 (by decide) (by decide) (by decide) (by decide), mS 12 (by decide) (by decide) (by decide) (by decide) (by decide)]
    exact h1
  · unfold RP at h2 ⊢
    simp only [hC.2.1, hM.2, cS 16 (by decide) (by decide) (by decide) (by decide), mS 13 (by decide) (by decide) (by decide) (by decide) (by decide)]
    exact h2
  · unfold RV at h3 ⊢
    simp only [hC.2.2, hM.2]
    exact h3
  · unfold RY at h4 ⊢
    simp only [hC.2.1, hM.2, cS 17 (by decide) (by decide) (by decide) (by decide), cS 18 (by decide) (by decide) (by decide) (by decide), mS 14 (by decide) (by decide) (by decide) (by decide) (by decide)]
    exact h4
  · unfold RLf at h5 ⊢
    simp only [hM.2, cS 15 (by decide) (by decide) (by decide) (by decide)]
    exact h5
  · unfold RS at h6' ⊢
    simp only [hC.2.1, hC.2.2, hM.2, cS 12 (by decide) (by decide) (by decide) (by decide), cS 13 (by decide) (by decide) (by decide) (by decide), mS 15 (by decide) (by decide) (by decide) (by decide) (by decide), mS 16 (by decide) (by decide) (by decide) (by decide) (by decide)]
    exact h6'
  · unfold RSm at h7 ⊢
    simp only [hM.2]
    exact h7
  · unfold RDw at h8 ⊢
    simp only [hM.2, cS 11 (by decide) (by decide) (by decide) (by decide), mS 17 (by decide) (by decide) (by decide) (by decide) (by decide)]
    exact h8
  · unfold RD rl at h9 ⊢
    simp only [hC.2.1, hC.2.2, hM.2]
    exact h9
  · unfold RE at h10 ⊢
    simp only [hC.2.2, hM.2]
    exact h10
  · obtain ⟨k1, k2, k3, k4, k5, k6, k7, k8, k9, k10, k11, k12, k13, k14, k15⟩ := h11
    refine ⟨?_, h6, ?_, ?_, ?_, ?_, ?_, x1.symm, x2.symm, x3.symm, ?_, ?_, ?_, by rw [hC.2.2 0, hC.2.2 1, xl]; exact k14, by rw [hM.2, xa]; exact k15⟩
    · rw [cS 5 (by decide) (by decide) (by decide) (by decide), mS 6 (by decide) (by decide) (by decide) (by decide) (by decide)]; exact k1
    · rw [cS 8 (by decide) (by decide) (by decide) (by decide), mS 9 (by decide) (by decide) (by decide) (by decide) (by decide)]; exact k3
    · rw [cS 9 (by decide) (by decide) (by decide) (by decide), mS 10 (by decide) (by decide) (by decide) (by decide) (by decide)]; exact k4
    · simp only [hC.2.1, hM.2]; exact k5
    · simp only [hM.2]; exact k6
    · rw [mS 6 (by decide) (by decide) (by decide) (by decide) (by decide), x0]; exact k7
    · rw [cS 0 (by decide) (by decide) (by decide) (by decide)]; exact k11
    · rw [mS 3 (by decide) (by decide) (by decide) (by decide) (by decide)]; exact k12
    · rw [mS 14 (by decide) (by decide) (by decide) (by decide) (by decide), h4.1]; exact x4
/-- what a run leaves; nF: the acts that it had -/
def Ran (nF : Nat) (lx : Nat → Int64) (ax : Nat → Int32) (σ τ : St) : Prop := gS σ 0 = 1 ∧ gS τ 3 = 1 ∧ (∀ a, nF ≤ a → a < 80 → gA τ 23 a = 0) ∧ (fun i => if i < 100 then gL σ 0 i else gL σ 1 (i - 100)) = lx ∧ gA τ 37 = ax
theorem Rel_of {cx : Cx} {lx : Nat → Int64} {ax : Nat → Int32} {nA nW nT nC nP m hd nR nCe nQ : Nat} {pr : Nat → Nat} {σ τ : St} (hG : RG nA nW nT σ τ) (hR : RR cx nA nC nP m hd nR nCe nQ pr σ τ) (h4 : gS σ 4 = gS τ 5) (h7 : gS σ 7 = gS τ 8) (h10 : gS σ 10 = gS τ 11) (h67 : gS σ 6 = gS τ 7) (hl : cx.2.1 = lx := by rfl) (ha : cx.2.2 = ax := by rfl) : RG nA nW nT σ τ ∧ RO nA σ τ ∧ Ran nA lx ax σ τ := by
  obtain ⟨r1, r2, r3, r4, r5, r6, r7, ⟨r8, r9⟩, r10, r11⟩ := hR
  obtain ⟨k1, k2, k3, k4, k5, k6, k7, k8, k9, k10, k11, k12, k13, k14, k15⟩ := r11
  refine ⟨hG, ⟨by rw [k11, k12], Or.inr k11, fun _ => ⟨nC, nP, m, hd, nR, nCe, nQ, h4, h7, h10, r1.2.2.1, r1.2.2.2.1, r4.1, r4.2.1, r4.2.2.1, ?_, r2.1, r2.2.2.1, fun p hp => ?_, r5, r6, r8, r10, ⟨k1, h67, k3, k4, k5⟩, fun r hr => ?_⟩⟩, k11, k12, k6, by rw [← hl]; exact k14, by rw [← ha]; exact k15⟩
  · have := sm_le (f := fun p => if gA τ 17 p = 0 then 0 else 1) (b := 1) (n := nP) (fun i _ => by split <;> omega)
    have h1 := r4.2.2.2.1
    have h2 := r2.1
    omega
  · obtain ⟨-, -, -, -, -, a, q, h, -, -, -, -, x1, x2, x3, -⟩ := r2.2.2.2.1 p hp
    have := two8 x1
    exact ⟨h, by omega, x2⟩
  · obtain ⟨p, w1, w2, w3, w4⟩ := r7 r hr
    obtain ⟨-, -, -, -, -, a, q, h, x0, x1, -⟩ := r2.2.2.2.1 p w1
    rw [← w3, x1]
    exact ⟨a, x0, rfl⟩
theorem ev_size {nP m hd : Nat} {σ τ : St} {K : Int32 → St → Prop} (hY : RY nP m hd σ τ) (hk : K (nI m) σ) : w_X5_size σ K := by
  unfold w_X5_size
  rw [hY.2.1, hY.2.2.1, pk_sub (by omega), show hd + m - hd = m by omega]
  exact hk
theorem rnd_idx (x : Int32) {m : Nat} (h0 : 0 < m) (hm : m < 2 ^ 31) : ∃ i, i < m ∧ ((x.toUInt32 >>> ((16 : Int32).toUInt32 &&& Int32.toUInt32 31)).toInt32) - ((x.toUInt32 >>> ((16 : Int32).toUInt32 &&& Int32.toUInt32 31)).toInt32) / nI m * nI m = nI i := by
  have h := pk_ushr x 16 16 (by decide)
  have hlt : x.toBitVec.toNat / 2 ^ 16 < 65536 := by
    have := x.toBitVec.isLt
    omega
  have e : (x.toUInt32 >>> ((16 : Int32).toUInt32 &&& Int32.toUInt32 31)).toInt32 = nI (x.toBitVec.toNat / 2 ^ 16) := by
    apply Int32.toBitVec_inj.mp
    apply BitVec.eq_of_toNat_eq
    rw [h]
    exact (pk_tn (by omega)).symm
  rw [e, pk_rem (by omega) h0 hm]
  exact ⟨_, Nat.mod_lt _ h0, rfl⟩
theorem nz01 {n : Nat} (h : n < 2 ^ 31) : (if n = 0 then (0 : Int32) else 1) = if nI n ≤ 0 then 0 else 1 := by
  by_cases e : n = 0
  · subst e; rw [if_pos rfl, if_pos (by decide)]
  · rw [if_neg e, if_neg (nI_nle (by omega) h)]
theorem ev_74 {σ : St} {n : Nat} {K : Int32 → St → Prop} (hn : n < 2 ^ 31) (h5 : gS σ 5 = nI n) (hk : K (gS σ 4) (sS σ 7 (if n = 0 then 0 else 1))) : b_X4_goBySeed_74 K σ := by
  unfold b_X4_goBySeed_74
  rw [h5]
  by_cases e : n = 0
  · rw [if_pos e] at hk
    subst e
    exact jbr (by decide) hk
  · rw [if_neg e] at hk
    exact jbf (nI_nle (by omega) hn) hk
theorem lp_run {nA nW nT F : Nat} (hF : F ≤ 4000) : ∀ (d n hd : Nat) (cx : Cx) (σ τ : St) (s : Int32), n + d = F → Done cx nA nW nT hd σ τ → cx.1 0 = nI n → cx.1 2 = 0 → cx.1 3 = (if n = 0 then 0 else 1) → cx.1 5 = cx.1 1 →
    ∃ (σ' τ' : St) (v : Int32), (∀ K : Int32 → St → Prop, K v σ' → ∀ f, d + 2 < f → w_X4_goBySeed_9 K f σ (nI F) s (nI n)) ∧ (∀ K : Int32 → St → Prop, K v τ' → ∀ f, d + 2 < f → w_X10_run_19 K f τ (nI F) s) ∧ (RG nA nW nT σ' τ' ∧ RO nA σ' τ' ∧ Ran nA cx.2.1 cx.2.2 σ' τ') ∧ v = gS σ' 4 := by
  intro d
  induction d with
  | zero =>
    intro n hd cx σ τ s hn hD h0 h2 h3 h51
    obtain ⟨nC, nP, m, nR, nCe, nQ, pr, hG, hR, hgh⟩ := hD
    have hY := hR.2.2.2.1
    obtain ⟨k1, k2, k3, k4, k5, k6, k7, k8, k9, k10, k11, k12, k13, k14, k15⟩ := hR.2.2.2.2.2.2.2.2.2
    have h5 : gS σ 5 = nI n := by rw [k1, k7, h0]
    have h6 : gS τ 6 = nI n := by rw [k7, h0]
    have h8 : gS τ 8 = (if n = 0 then 0 else 1) := by rw [k10, h3]
    have hm3 : m < 2 ^ 31 := by
      have := sm_le (f := fun p => if gA τ 17 p = 0 then 0 else 1) (b := 1) (n := nP) (fun i _ => by split <;> omega)
      have h1 := hY.2.2.2.1
      have h2 := hR.2.1.1
      omega
    have hnF : ¬ nI F < nI n := nI_nlt (by omega) (by omega)
    rcases hgh with hgo | hlt
    · by_cases m0 : m = 0
      · refine ⟨sS (sS σ 4 0) 7 (if n = 0 then 0 else 1), τ, 0, fun K hK f hf => ?_, fun K hK f hf => ?_, Rel_of (hG.ct ((CtC.rf σ).s 4 0 (by decide) |>.s 7 _ (by decide)) (CtM.rf τ)) (hR.ct (cx' := ⟨fun j => if j = 0 then cx.1 0 else if j = 1 then gS τ 7 else if j = 2 then (if n = 0 then 0 else 1) else if j = 3 then gS τ 8 else if j = 4 then 0 else gS σ 6, cx.2.1, cx.2.2⟩) ((CtC.rf σ).s 4 0 (by decide) |>.s 7 _ (by decide)) (CtM.rf τ) (by simp only [gS_sS, gS_sA, gS_sL, gS_fA, gS_fL, gA_sS, gA_sA, gA_sL, gA_fA, gA_fL, gL_sS, gL_sA, gL_sL, gL_fA, gL_fL, reduceIte, Nat.reduceEqDiff, jupd, jupdL]) rfl rfl (by simp only [gS_sS, gS_sA, gS_sL, gS_fA, gS_fL, gA_sS, gA_sA, gA_sL, gA_fA, gA_fL, gL_sS, gL_sA, gL_sL, gL_fA, gL_fL, reduceIte, Nat.reduceEqDiff, jupd, jupdL]) rfl (nI_le (a := 0) (by omega) hm3)) (by simp only [gS_sS, gS_sA, gS_sL, gS_fA, gS_fL, gA_sS, gA_sA, gA_sL, gA_fA, gA_fL, gL_sS, gL_sA, gL_sL, gL_fA, gL_fL, reduceIte, Nat.reduceEqDiff, jupd, jupdL]; exact hgo.2.2.1.symm) (by simp only [gS_sS, gS_sA, gS_sL, gS_fA, gS_fL, gA_sS, gA_sA, gA_sL, gA_fA, gA_fL, gL_sS, gL_sA, gL_sL, gL_fA, gL_fL, reduceIte, Nat.reduceEqDiff, jupd, jupdL]; exact h8.symm) (by simp only [gS_sS, gS_sA, gS_sL, gS_fA, gS_fL, gA_sS, gA_sA, gA_sL, gA_fA, gA_fL, gL_sS, gL_sA, gL_sL, gL_fA, gL_fL, reduceIte, Nat.reduceEqDiff, jupd, jupdL]; rw [hgo.2.2.2.1, hgo.2.2.2.2]) (by simp only [gS_sS, gS_sA, gS_sL, gS_fA, gS_fL, gA_sS, gA_sA, gA_sL, gA_fA, gA_fL, gL_sS, gL_sA, gL_sL, gL_fA, gL_fL, reduceIte, Nat.reduceEqDiff, jupd, jupdL]; rw [k2, k8, h51]), by simp only [gS_sS, gS_sA, gS_sL, gS_fA, gS_fL, gA_sS, gA_sA, gA_sL, gA_fA, gA_fL, gL_sS, gL_sA, gL_sL, gL_fA, gL_fL, reduceIte, Nat.reduceEqDiff, jupd, jupdL]⟩
        · obtain ⟨f, rfl⟩ : ∃ z, f = z + 1 := ⟨f - 1, by omega⟩
          show b_X4_goBySeed_9 (w_X4_goBySeed_9 K f) K σ (nI F) s (nI n)
          unfold b_X4_goBySeed_9 w_X4_mayStep
          refine jbf hnF (jbm hgo.1 ?_)
          refine ev_size hY (jbm (by rw [m0]; rfl) (jbn (by decide) (jbr rfl ?_)))
          exact ev_74 (n := n) (by omega) (by simp only [gS_sS, gS_sA, gS_sL, gS_fA, gS_fL, gA_sS, gA_sA, gA_sL, gA_fA, gA_fL, gL_sS, gL_sA, gL_sL, gL_fA, gL_fL, reduceIte, Nat.reduceEqDiff, jupd, jupdL]; exact h5) (by simp only [gS_sS, gS_sA, gS_sL, gS_fA, gS_fL, gA_sS, gA_sA, gA_sL, gA_fA, gA_fL, gL_sS, gL_sA, gL_sL, gL_fA, gL_fL, reduceIte, Nat.reduceEqDiff, jupd, jupdL]; exact hK)
        · obtain ⟨f, rfl⟩ : ∃ z, f = z + 1 := ⟨f - 1, by omega⟩
          show b_X10_run_19 (w_X10_run_19 K f) K τ (nI F) s
          unfold b_X10_run_19
          rw [hgo.2.2.1]
          exact jbm hgo.2.1 (jbr (by rw [hY.1, m0]; decide) hK)
      · refine ⟨sS (sS σ 4 3) 7 (if n = 0 then 0 else 1), sS (sS (sS τ 5 3) 11 (-1)) 4 1, 3, fun K hK f hf => ?_, fun K hK f hf => ?_, Rel_of (hG.ct ((CtC.rf σ).s 4 3 (by decide) |>.s 7 _ (by decide)) ((CtM.rf τ).s 5 3 (by decide) |>.s 11 _ (by decide) |>.s 4 _ (by decide))) (hR.ct (cx' := ⟨fun j => if j = 0 then cx.1 0 else if j = 1 then gS τ 7 else if j = 2 then (if n = 0 then 0 else 1) else if j = 3 then gS τ 8 else if j = 4 then 0 else gS σ 6, cx.2.1, cx.2.2⟩) ((CtC.rf σ).s 4 3 (by decide) |>.s 7 _ (by decide)) ((CtM.rf τ).s 5 3 (by decide) |>.s 11 _ (by decide) |>.s 4 _ (by decide)) (by simp only [gS_sS, gS_sA, gS_sL, gS_fA, gS_fL, gA_sS, gA_sA, gA_sL, gA_fA, gA_fL, gL_sS, gL_sA, gL_sL, gL_fA, gL_fL, reduceIte, Nat.reduceEqDiff, jupd, jupdL]) rfl (by simp only [gS_sS, gS_sA, gS_sL, gS_fA, gS_fL, gA_sS, gA_sA, gA_sL, gA_fA, gA_fL, gL_sS, gL_sA, gL_sL, gL_fA, gL_fL, reduceIte, Nat.reduceEqDiff, jupd, jupdL]) (by simp only [gS_sS, gS_sA, gS_sL, gS_fA, gS_fL, gA_sS, gA_sA, gA_sL, gA_fA, gA_fL, gL_sS, gL_sA, gL_sL, gL_fA, gL_fL, reduceIte, Nat.reduceEqDiff, jupd, jupdL]) (by simp only [gS_sS, gS_sA, gS_sL, gS_fA, gS_fL, gA_sS, gA_sA, gA_sL, gA_fA, gA_fL, gL_sS, gL_sA, gL_sL, gL_fA, gL_fL, reduceIte, Nat.reduceEqDiff, jupd, jupdL]) (nI_le (a := 0) (by omega) hm3)) (by simp only [gS_sS, gS_sA, gS_sL, gS_fA, gS_fL, gA_sS, gA_sA, gA_sL, gA_fA, gA_fL, gL_sS, gL_sA, gL_sL, gL_fA, gL_fL, reduceIte, Nat.reduceEqDiff, jupd, jupdL]) (by simp only [gS_sS, gS_sA, gS_sL, gS_fA, gS_fL, gA_sS, gA_sA, gA_sL, gA_fA, gA_fL, gL_sS, gL_sA, gL_sL, gL_fA, gL_fL, reduceIte, Nat.reduceEqDiff, jupd, jupdL]; exact h8.symm) (by simp only [gS_sS, gS_sA, gS_sL, gS_fA, gS_fL, gA_sS, gA_sA, gA_sL, gA_fA, gA_fL, gL_sS, gL_sA, gL_sL, gL_fA, gL_fL, reduceIte, Nat.reduceEqDiff, jupd, jupdL]; exact hgo.2.2.2.2) (by simp only [gS_sS, gS_sA, gS_sL, gS_fA, gS_fL, gA_sS, gA_sA, gA_sL, gA_fA, gA_fL, gL_sS, gL_sA, gL_sL, gL_fA, gL_fL, reduceIte, Nat.reduceEqDiff, jupd, jupdL]; rw [k2, k8, h51]), by simp only [gS_sS, gS_sA, gS_sL, gS_fA, gS_fL, gA_sS, gA_sA, gA_sL, gA_fA, gA_fL, gL_sS, gL_sA, gL_sL, gL_fA, gL_fL, reduceIte, Nat.reduceEqDiff, jupd, jupdL]⟩
        · obtain ⟨f, rfl⟩ : ∃ z, f = z + 1 := ⟨f - 1, by omega⟩
          show b_X4_goBySeed_9 (w_X4_goBySeed_9 K f) K σ (nI F) s (nI n)
          unfold b_X4_goBySeed_9 w_X4_mayStep
          refine jbf hnF (jbm hgo.1 ?_)
          refine ev_size hY (jbn (nI_ne0 (by omega) hm3) (jbf (by rw [h5]; exact nI_nlt (by omega) (by omega)) (jbn (by decide) (jbr rfl ?_))))
          exact ev_74 (n := n) (by omega) (by simp only [gS_sS, gS_sA, gS_sL, gS_fA, gS_fL, gA_sS, gA_sA, gA_sL, gA_fA, gA_fL, gL_sS, gL_sA, gL_sL, gL_fA, gL_fL, reduceIte, Nat.reduceEqDiff, jupd, jupdL]; exact h5) (by simp only [gS_sS, gS_sA, gS_sL, gS_fA, gS_fL, gA_sS, gA_sA, gA_sL, gA_fA, gA_fL, gL_sS, gL_sA, gL_sL, gL_fA, gL_fL, reduceIte, Nat.reduceEqDiff, jupd, jupdL]; exact hK)
        · obtain ⟨f, rfl⟩ : ∃ z, f = z + 2 := ⟨f - 2, by omega⟩
          show b_X10_run_19 (w_X10_run_19 K (f + 1)) K τ (nI F) s
          unfold b_X10_run_19 w_X10_stops
          refine jbm hgo.2.1 (jbf (by rw [hY.1]; exact nI_nle (by omega) hm3) (jbm (by rw [h6]; congr 1) ?_))
          show b_X10_run_19 (w_X10_run_19 K f) K (sS (sS (sS τ 5 3) 11 (-1)) 4 1) (nI F) s
          unfold b_X10_run_19
          simp only [gS_sS, gS_sA, gS_sL, gS_fA, gS_fL, gA_sS, gA_sA, gA_sL, gA_fA, gA_fL, gL_sS, gL_sA, gL_sL, gL_fA, gL_fL, reduceIte, Nat.reduceEqDiff, jupd, jupdL]
          exact jbn (by decide) hK
    · refine ⟨sS σ 7 (if n = 0 then 0 else 1), τ, gS σ 4, fun K hK f hf => ?_, fun K hK f hf => ?_, Rel_of (hG.ct ((CtC.rf σ).s 7 _ (by decide)) (CtM.rf τ)) (hR.ct (cx' := ⟨fun j => if j = 0 then cx.1 0 else if j = 1 then gS τ 7 else if j = 2 then (if n = 0 then 0 else 1) else if j = 3 then gS τ 8 else if j = 4 then 0 else gS σ 6, cx.2.1, cx.2.2⟩) ((CtC.rf σ).s 7 _ (by decide)) (CtM.rf τ) (by simp only [gS_sS, gS_sA, gS_sL, gS_fA, gS_fL, gA_sS, gA_sA, gA_sL, gA_fA, gA_fL, gL_sS, gL_sA, gL_sL, gL_fA, gL_fL, reduceIte, Nat.reduceEqDiff, jupd, jupdL]) rfl rfl (by simp only [gS_sS, gS_sA, gS_sL, gS_fA, gS_fL, gA_sS, gA_sA, gA_sL, gA_fA, gA_fL, gL_sS, gL_sA, gL_sL, gL_fA, gL_fL, reduceIte, Nat.reduceEqDiff, jupd, jupdL]) rfl (nI_le (a := 0) (by omega) hm3)) (by simp only [gS_sS, gS_sA, gS_sL, gS_fA, gS_fL, gA_sS, gA_sA, gA_sL, gA_fA, gA_fL, gL_sS, gL_sA, gL_sL, gL_fA, gL_fL, reduceIte, Nat.reduceEqDiff, jupd, jupdL]; exact hlt.2.1) (by simp only [gS_sS, gS_sA, gS_sL, gS_fA, gS_fL, gA_sS, gA_sA, gA_sL, gA_fA, gA_fL, gL_sS, gL_sA, gL_sL, gL_fA, gL_fL, reduceIte, Nat.reduceEqDiff, jupd, jupdL]; exact h8.symm) (by simp only [gS_sS, gS_sA, gS_sL, gS_fA, gS_fL, gA_sS, gA_sA, gA_sL, gA_fA, gA_fL, gL_sS, gL_sA, gL_sL, gL_fA, gL_fL, reduceIte, Nat.reduceEqDiff, jupd, jupdL]; exact hlt.2.2.2) (by simp only [gS_sS, gS_sA, gS_sL, gS_fA, gS_fL, gA_sS, gA_sA, gA_sL, gA_fA, gA_fL, gL_sS, gL_sA, gL_sL, gL_fA, gL_fL, reduceIte, Nat.reduceEqDiff, jupd, jupdL]; rw [k2, k8, h51]), by simp only [gS_sS, gS_sA, gS_sL, gS_fA, gS_fL, gA_sS, gA_sA, gA_sL, gA_fA, gA_fL, gL_sS, gL_sA, gL_sL, gL_fA, gL_fL, reduceIte, Nat.reduceEqDiff, jupd, jupdL]⟩
      · obtain ⟨f, rfl⟩ : ∃ z, f = z + 1 := ⟨f - 1, by omega⟩
        show b_X4_goBySeed_9 (w_X4_goBySeed_9 K f) K σ (nI F) s (nI n)
        unfold b_X4_goBySeed_9 w_X4_mayStep
        refine jbf hnF (jbn hlt.2.2.1 (jbn hlt.2.2.1 (jbr rfl ?_)))
        exact ev_74 (n := n) (by omega) h5 hK
      · obtain ⟨f, rfl⟩ : ∃ z, f = z + 1 := ⟨f - 1, by omega⟩
        show b_X10_run_19 (w_X10_run_19 K f) K τ (nI F) s
        unfold b_X10_run_19
        rw [← hlt.2.1]
        exact jbn (by rw [hlt.1]; decide) hK
  | succ d ih =>
    intro n hd cx σ τ s hn hD h0 h2 h3 h51
    obtain ⟨nC, nP, m, nR, nCe, nQ, pr, hG, hR, hgh⟩ := hD
    have hY := hR.2.2.2.1
    obtain ⟨k1, k2, k3, k4, k5, k6, k7, k8, k9, k10, k11, k12, k13, k14, k15⟩ := hR.2.2.2.2.2.2.2.2.2
    have h5 : gS σ 5 = nI n := by rw [k1, k7, h0]
    have h6 : gS τ 6 = nI n := by rw [k7, h0]
    have h8 : gS τ 8 = (if n = 0 then 0 else 1) := by rw [k10, h3]
    have hm3 : m < 2 ^ 31 := by
      have := sm_le (f := fun p => if gA τ 17 p = 0 then 0 else 1) (b := 1) (n := nP) (fun i _ => by split <;> omega)
      have h1 := hY.2.2.2.1
      have h2 := hR.2.1.1
      omega
    have hnF : ¬ nI F < nI n := nI_nlt (by omega) (by omega)
    rcases hgh with hgo | hlt
    · by_cases m0 : m = 0
      · refine ⟨sS (sS σ 4 0) 7 (if n = 0 then 0 else 1), τ, 0, fun K hK f hf => ?_, fun K hK f hf => ?_, Rel_of (hG.ct ((CtC.rf σ).s 4 0 (by decide) |>.s 7 _ (by decide)) (CtM.rf τ)) (hR.ct (cx' := ⟨fun j => if j = 0 then cx.1 0 else if j = 1 then gS τ 7 else if j = 2 then (if n = 0 then 0 else 1) else if j = 3 then gS τ 8 else if j = 4 then 0 else gS σ 6, cx.2.1, cx.2.2⟩) ((CtC.rf σ).s 4 0 (by decide) |>.s 7 _ (by decide)) (CtM.rf τ) (by simp only [gS_sS, gS_sA, gS_sL, gS_fA, gS_fL, gA_sS, gA_sA, gA_sL, gA_fA, gA_fL, gL_sS, gL_sA, gL_sL, gL_fA, gL_fL, reduceIte, Nat.reduceEqDiff, jupd, jupdL]) rfl rfl (by simp only [gS_sS, gS_sA, gS_sL, gS_fA, gS_fL, gA_sS, gA_sA, gA_sL, gA_fA, gA_fL, gL_sS, gL_sA, gL_sL, gL_fA, gL_fL, reduceIte, Nat.reduceEqDiff, jupd, jupdL]) rfl (nI_le (a := 0) (by omega) hm3)) (by simp only [gS_sS, gS_sA, gS_sL, gS_fA, gS_fL, gA_sS, gA_sA, gA_sL, gA_fA, gA_fL, gL_sS, gL_sA, gL_sL, gL_fA, gL_fL, reduceIte, Nat.reduceEqDiff, jupd, jupdL]; exact hgo.2.2.1.symm) (by simp only [gS_sS, gS_sA, gS_sL, gS_fA, gS_fL, gA_sS, gA_sA, gA_sL, gA_fA, gA_fL, gL_sS, gL_sA, gL_sL, gL_fA, gL_fL, reduceIte, Nat.reduceEqDiff, jupd, jupdL]; exact h8.symm) (by simp only [gS_sS, gS_sA, gS_sL, gS_fA, gS_fL, gA_sS, gA_sA, gA_sL, gA_fA, gA_fL, gL_sS, gL_sA, gL_sL, gL_fA, gL_fL, reduceIte, Nat.reduceEqDiff, jupd, jupdL]; rw [hgo.2.2.2.1, hgo.2.2.2.2]) (by simp only [gS_sS, gS_sA, gS_sL, gS_fA, gS_fL, gA_sS, gA_sA, gA_sL, gA_fA, gA_fL, gL_sS, gL_sA, gL_sL, gL_fA, gL_fL, reduceIte, Nat.reduceEqDiff, jupd, jupdL]; rw [k2, k8, h51]), by simp only [gS_sS, gS_sA, gS_sL, gS_fA, gS_fL, gA_sS, gA_sA, gA_sL, gA_fA, gA_fL, gL_sS, gL_sA, gL_sL, gL_fA, gL_fL, reduceIte, Nat.reduceEqDiff, jupd, jupdL]⟩
        · obtain ⟨f, rfl⟩ : ∃ z, f = z + 1 := ⟨f - 1, by omega⟩
          show b_X4_goBySeed_9 (w_X4_goBySeed_9 K f) K σ (nI F) s (nI n)
          unfold b_X4_goBySeed_9 w_X4_mayStep
          refine jbf hnF (jbm hgo.1 ?_)
          refine ev_size hY (jbm (by rw [m0]; rfl) (jbn (by decide) (jbr rfl ?_)))
          exact ev_74 (n := n) (by omega) (by simp only [gS_sS, gS_sA, gS_sL, gS_fA, gS_fL, gA_sS, gA_sA, gA_sL, gA_fA, gA_fL, gL_sS, gL_sA, gL_sL, gL_fA, gL_fL, reduceIte, Nat.reduceEqDiff, jupd, jupdL]; exact h5) (by simp only [gS_sS, gS_sA, gS_sL, gS_fA, gS_fL, gA_sS, gA_sA, gA_sL, gA_fA, gA_fL, gL_sS, gL_sA, gL_sL, gL_fA, gL_fL, reduceIte, Nat.reduceEqDiff, jupd, jupdL]; exact hK)
        · obtain ⟨f, rfl⟩ : ∃ z, f = z + 1 := ⟨f - 1, by omega⟩
          show b_X10_run_19 (w_X10_run_19 K f) K τ (nI F) s
          unfold b_X10_run_19
          rw [hgo.2.2.1]
          exact jbm hgo.2.1 (jbr (by rw [hY.1, m0]; decide) hK)
      · obtain ⟨i, hi, ei⟩ := rnd_idx (1103515245 * s + 12345) (m := m) (by omega) hm3
        have hG2 := hG.ct (CtC.rf σ) ((CtM.rf τ).s 8 1 (by decide))
        have hR2 := hR.ct (cx' := ⟨fun j => if j = 0 then cx.1 0 else if j = 1 then gS τ 7 else if j = 2 then gS σ 7 else if j = 3 then 1 else if j = 4 then 0 else gS σ 6, cx.2.1, cx.2.2⟩) (CtC.rf σ) ((CtM.rf τ).s 8 1 (by decide)) (by simp only [gS_sS, gS_sA, gS_sL, gS_fA, gS_fL, gA_sS, gA_sA, gA_sL, gA_fA, gA_fL, gL_sS, gL_sA, gL_sL, gL_fA, gL_fL, reduceIte, Nat.reduceEqDiff, jupd, jupdL]) rfl (by simp only [gS_sS, gS_sA, gS_sL, gS_fA, gS_fL, gA_sS, gA_sA, gA_sL, gA_fA, gA_fL, gL_sS, gL_sA, gL_sL, gL_fA, gL_fL, reduceIte, Nat.reduceEqDiff, jupd, jupdL]) (by simp only [gS_sS, gS_sA, gS_sL, gS_fA, gS_fL, gA_sS, gA_sA, gA_sL, gA_fA, gA_fL, gL_sS, gL_sA, gL_sL, gL_fA, gL_fL, reduceIte, Nat.reduceEqDiff, jupd, jupdL]) (by simp only [gS_sS, gS_sA, gS_sL, gS_fA, gS_fL, gA_sS, gA_sA, gA_sL, gA_fA, gA_fL, gL_sS, gL_sA, gL_sL, gL_fA, gL_fL, reduceIte, Nat.reduceEqDiff, jupd, jupdL]) (nI_le (a := 0) (by omega) hm3)
        have hgo2 : Go σ (sS τ 8 1) := by
          unfold Go at hgo ⊢
          simp only [gS_sS, gS_sA, gS_sL, gS_fA, gS_fL, gA_sS, gA_sA, gA_sL, gA_fA, gA_fL, gL_sS, gL_sA, gL_sL, gL_fA, gL_fL, reduceIte, Nat.reduceEqDiff, jupd, jupdL]
          exact hgo
        obtain ⟨σ1, τ1, hd1, c1, c2, c3⟩ := sim_step hG2 hR2 hgo2 hi
        obtain ⟨σ', τ', v, z1, z2, z3, z4⟩ := ih (n + 1) hd1 _ σ1 τ1 (1103515245 * s + 12345) (by omega) c3 (by simp only [reduceIte]; rw [h0, nI_1]) (by simp only [reduceIte, Nat.reduceEqDiff]; rw [k9, h2]) (by rw [if_neg (show ¬ n + 1 = 0 by omega)]; rfl) (by show gS σ 6 = gS τ 7; rw [k2, k8, h51])
        refine ⟨σ', τ', v, fun K hK f hf => ?_, fun K hK f hf => ?_, z3, z4⟩
        · obtain ⟨f, rfl⟩ : ∃ z, f = z + 1 := ⟨f - 1, by omega⟩
          show b_X4_goBySeed_9 (w_X4_goBySeed_9 K f) K σ (nI F) s (nI n)
          unfold b_X4_goBySeed_9 w_X4_mayStep
          refine jbf hnF (jbm hgo.1 ?_)
          refine ev_size hY (jbn (nI_ne0 (by omega) hm3) (jbr (by rw [h5]; exact nI_lt (by omega) (by omega)) (jbm hgo.1 (jbf (by decide) ?_))))
          refine ev_size hY (jbn (nI_ne0 (by omega) hm3) ⟨nI_ne0 (by omega) hm3, ?_⟩)
          rw [ei, nI_1]
          exact c1 _ (z1 K hK f (by omega))
        · obtain ⟨f, rfl⟩ : ∃ z, f = z + 1 := ⟨f - 1, by omega⟩
          show b_X10_run_19 (w_X10_run_19 K f) K τ (nI F) s
          unfold b_X10_run_19
          rw [hY.1, h6, ei]
          exact jbm hgo.2.1 (jbf (nI_nle (by omega) hm3) (jbn (fun z => by have := nI_inj (by omega) (by omega) z; omega) ⟨nI_ne0 (by omega) hm3, c2 _ (z2 K hK f (by omega))⟩))
    · refine ⟨sS σ 7 (if n = 0 then 0 else 1), τ, gS σ 4, fun K hK f hf => ?_, fun K hK f hf => ?_, Rel_of (hG.ct ((CtC.rf σ).s 7 _ (by decide)) (CtM.rf τ)) (hR.ct (cx' := ⟨fun j => if j = 0 then cx.1 0 else if j = 1 then gS τ 7 else if j = 2 then (if n = 0 then 0 else 1) else if j = 3 then gS τ 8 else if j = 4 then 0 else gS σ 6, cx.2.1, cx.2.2⟩) ((CtC.rf σ).s 7 _ (by decide)) (CtM.rf τ) (by simp only [gS_sS, gS_sA, gS_sL, gS_fA, gS_fL, gA_sS, gA_sA, gA_sL, gA_fA, gA_fL, gL_sS, gL_sA, gL_sL, gL_fA, gL_fL, reduceIte, Nat.reduceEqDiff, jupd, jupdL]) rfl rfl (by simp only [gS_sS, gS_sA, gS_sL, gS_fA, gS_fL, gA_sS, gA_sA, gA_sL, gA_fA, gA_fL, gL_sS, gL_sA, gL_sL, gL_fA, gL_fL, reduceIte, Nat.reduceEqDiff, jupd, jupdL]) rfl (nI_le (a := 0) (by omega) hm3)) (by simp only [gS_sS, gS_sA, gS_sL, gS_fA, gS_fL, gA_sS, gA_sA, gA_sL, gA_fA, gA_fL, gL_sS, gL_sA, gL_sL, gL_fA, gL_fL, reduceIte, Nat.reduceEqDiff, jupd, jupdL]; exact hlt.2.1) (by simp only [gS_sS, gS_sA, gS_sL, gS_fA, gS_fL, gA_sS, gA_sA, gA_sL, gA_fA, gA_fL, gL_sS, gL_sA, gL_sL, gL_fA, gL_fL, reduceIte, Nat.reduceEqDiff, jupd, jupdL]; exact h8.symm) (by simp only [gS_sS, gS_sA, gS_sL, gS_fA, gS_fL, gA_sS, gA_sA, gA_sL, gA_fA, gA_fL, gL_sS, gL_sA, gL_sL, gL_fA, gL_fL, reduceIte, Nat.reduceEqDiff, jupd, jupdL]; exact hlt.2.2.2) (by simp only [gS_sS, gS_sA, gS_sL, gS_fA, gS_fL, gA_sS, gA_sA, gA_sL, gA_fA, gA_fL, gL_sS, gL_sA, gL_sL, gL_fA, gL_fL, reduceIte, Nat.reduceEqDiff, jupd, jupdL]; rw [k2, k8, h51]), by simp only [gS_sS, gS_sA, gS_sL, gS_fA, gS_fL, gA_sS, gA_sA, gA_sL, gA_fA, gA_fL, gL_sS, gL_sA, gL_sL, gL_fA, gL_fL, reduceIte, Nat.reduceEqDiff, jupd, jupdL]⟩
      · obtain ⟨f, rfl⟩ : ∃ z, f = z + 1 := ⟨f - 1, by omega⟩
        show b_X4_goBySeed_9 (w_X4_goBySeed_9 K f) K σ (nI F) s (nI n)
        unfold b_X4_goBySeed_9 w_X4_mayStep
        refine jbf hnF (jbn hlt.2.2.1 (jbn hlt.2.2.1 (jbr rfl ?_)))
        exact ev_74 (n := n) (by omega) h5 hK
      · obtain ⟨f, rfl⟩ : ∃ z, f = z + 1 := ⟨f - 1, by omega⟩
        show b_X10_run_19 (w_X10_run_19 K f) K τ (nI F) s
        unfold b_X10_run_19
        rw [← hlt.2.1]
        exact jbn (by rw [hlt.1]; decide) hK
/-- a run by a seed -/
theorem sim_run {nA nW nT F : Nat} {σ τ : St} {s : Int32} (hG : RG nA nW nT σ τ) (h0 : gS σ 0 = 1) (hF : F ≤ 4000) :
    ∃ (σ' τ' : St) (v : Int32), (∀ K : Int32 → St → Prop, K v σ' → w_X4_goBySeed σ s (nI F) K) ∧ (∀ K : Int32 → St → Prop, K v τ' → w_X10_begins τ (fun u => ∃ n : Nat, w_X10_run_19 K n u (nI F) s)) ∧ (RG nA nW nT σ' τ' ∧ RO nA σ' τ' ∧ Ran nA (fun i => if i < 100 then gL σ 0 i else gL σ 1 (i - 100)) (gA τ 37) σ' τ') ∧ v = gS σ' 4 := by
  obtain ⟨σ1, τ1, b1, b2, b3⟩ := sim_begin hG h0
  obtain ⟨σ', τ', v, z1, z2, z3, z4⟩ := lp_run hF F 0 0 _ σ1 τ1 s (by omega) b3 rfl rfl rfl rfl
  exact ⟨σ', τ', v, fun K hK => b1 _ ⟨F + 3, z1 K hK (F + 3) (by omega)⟩, fun K hK => b2 _ ⟨F + 3, z2 K hK (F + 3) (by omega)⟩, z3, z4⟩
