/-! ===== a token arrives on both sides ===== -/
def FrC (σ σ' : St) : Prop := (∀ k, k ≠ 4 → k ≠ 10 → k ≠ 15 → k ≠ 16 → k ≠ 18 → gS σ' k = gS σ k) ∧ (∀ k, k < 24 → gA σ' k = gA σ k) ∧ (∀ k, k ≠ 4 → gL σ' k = gL σ k)
def FrM (nP : Nat) (τ τ' : St) : Prop := (∀ k, k ≠ 4 → k ≠ 5 → k ≠ 11 → k ≠ 13 → k ≠ 14 → gS τ' k = gS τ k) ∧ (∀ k, (k < 14 ∨ k = 23 ∨ 24 < k) → gA τ' k = gA τ k) ∧ (∀ p, p < nP → gA τ' 14 p = gA τ 14 p ∧ gA τ' 15 p = gA τ 15 p ∧ (gA τ 17 p = 2 → gA τ' 17 p = 2))
theorem FrC.rf (σ : St) : FrC σ σ := ⟨fun _ _ _ _ _ _ => rfl, fun _ _ => rfl, fun _ _ => rfl⟩
theorem FrM.rf (nP : Nat) (τ : St) : FrM nP τ τ := ⟨fun _ _ _ _ _ _ => rfl, fun _ _ => rfl, fun _ _ => ⟨rfl, rfl, fun h => h⟩⟩
theorem FrC.tr {a b c : St} (h1 : FrC a b) (h2 : FrC b c) : FrC a c := ⟨fun k z1 z2 z3 z4 z5 => (h2.1 k z1 z2 z3 z4 z5).trans (h1.1 k z1 z2 z3 z4 z5), fun k z => (h2.2.1 k z).trans (h1.2.1 k z), fun k z => (h2.2.2 k z).trans (h1.2.2 k z)⟩
theorem FrM.tr {n n2 : Nat} {a b c : St} (h1 : FrM n a b) (h2 : FrM n2 b c) (hn : n ≤ n2) : FrM n a c := ⟨fun k z1 z2 z3 z4 z5 => (h2.1 k z1 z2 z3 z4 z5).trans (h1.1 k z1 z2 z3 z4 z5), fun k z => (h2.2.1 k z).trans (h1.2.1 k z), fun p hp => by
  obtain ⟨g1, g2, g3⟩ := h1.2.2 p hp
  obtain ⟨k1, k2, k3⟩ := h2.2.2 p (by omega)
  exact ⟨k1.trans g1, k2.trans g2, fun h => k3 (g3 h)⟩⟩
/-- the graph stays -/
theorem RG.fr {nA nW nT nP : Nat} {σ τ σ' τ' : St} (h : RG nA nW nT σ τ) (hC : FrC σ σ') (hM : FrM nP τ τ') : RG nA nW nT σ' τ' := by
  have s1 := hC.1 1 (by decide) (by decide) (by decide) (by decide) (by decide)
  have s2 := hC.1 2 (by decide) (by decide) (by decide) (by decide) (by decide)
  have s3 := hC.1 3 (by decide) (by decide) (by decide) (by decide) (by decide)
  have t0 := hM.1 0 (by decide) (by decide) (by decide) (by decide) (by decide)
  have t1 := hM.1 1 (by decide) (by decide) (by decide) (by decide) (by decide)
  have t2 := hM.1 2 (by decide) (by decide) (by decide) (by decide) (by decide)
  have cA : ∀ k, k < 24 → gA σ' k = gA σ k := hC.2.1
  have mA : ∀ k, k < 14 → gA τ' k = gA τ k := fun k hk => hM.2.1 k (Or.inl hk)
  unfold RG prm wl at h ⊢
  rw [s1, s2, s3, t0, t1, t2, cA 0 (by decide), cA 1 (by decide), cA 2 (by decide), cA 3 (by decide), cA 4 (by decide), cA 5 (by decide), cA 6 (by decide), cA 7 (by decide), cA 8 (by decide), cA 9 (by decide), cA 10 (by decide), cA 11 (by decide), mA 0 (by decide), mA 1 (by decide), mA 2 (by decide), mA 3 (by decide), mA 4 (by decide), mA 5 (by decide), mA 6 (by decide), mA 7 (by decide), mA 8 (by decide), mA 9 (by decide)]
  exact h
theorem RR_stop {cx : Cx} {nA nC nP m hd nR nCe nQ : Nat} {pr : Nat → Nat} {σ τ : St} (hR : RR cx nA nC nP m hd nR nCe nQ pr σ τ) (x y x2 y2 z : Int32) : RR cx nA nC nP m hd nR nCe nQ pr (sS (sS σ 4 x) 10 y) (sS (sS (sS τ 5 x2) 11 y2) 4 z) := by
  obtain ⟨h1, h2, h3, h4, h5, h6, h7, ⟨h8, h9⟩, h10, h11⟩ := hR
  refine ⟨?_, ?_, ?_, ?_, ?_, ?_, ?_, ⟨?_, ?_⟩, ?_, ?_⟩
  · simpa only [RC, gS_sS, gS_sA, gS_sL, gS_fA, gS_fL, gA_sS, gA_sA, gA_sL, gA_fA, gA_fL, gL_sS, gL_sA, gL_sL, gL_fA, gL_fL, reduceIte, Nat.reduceEqDiff, jupd, jupdL] using h1
  · simpa only [RP, gS_sS, gS_sA, gS_sL, gS_fA, gS_fL, gA_sS, gA_sA, gA_sL, gA_fA, gA_fL, gL_sS, gL_sA, gL_sL, gL_fA, gL_fL, reduceIte, Nat.reduceEqDiff, jupd, jupdL] using h2
  · simpa only [RV, gS_sS, gS_sA, gS_sL, gS_fA, gS_fL, gA_sS, gA_sA, gA_sL, gA_fA, gA_fL, gL_sS, gL_sA, gL_sL, gL_fA, gL_fL, reduceIte, Nat.reduceEqDiff, jupd, jupdL] using h3
  · simpa only [RY, gS_sS, gS_sA, gS_sL, gS_fA, gS_fL, gA_sS, gA_sA, gA_sL, gA_fA, gA_fL, gL_sS, gL_sA, gL_sL, gL_fA, gL_fL, reduceIte, Nat.reduceEqDiff, jupd, jupdL] using h4
  · simpa only [RLf, gS_sS, gS_sA, gS_sL, gS_fA, gS_fL, gA_sS, gA_sA, gA_sL, gA_fA, gA_fL, gL_sS, gL_sA, gL_sL, gL_fA, gL_fL, reduceIte, Nat.reduceEqDiff, jupd, jupdL] using h5
  · simpa only [RS, gS_sS, gS_sA, gS_sL, gS_fA, gS_fL, gA_sS, gA_sA, gA_sL, gA_fA, gA_fL, gL_sS, gL_sA, gL_sL, gL_fA, gL_fL, reduceIte, Nat.reduceEqDiff, jupd, jupdL] using h6
  · simpa only [RSm, gS_sS, gS_sA, gS_sL, gS_fA, gS_fL, gA_sS, gA_sA, gA_sL, gA_fA, gA_fL, gL_sS, gL_sA, gL_sL, gL_fA, gL_fL, reduceIte, Nat.reduceEqDiff, jupd, jupdL] using h7
  · simpa only [RDw, gS_sS, gS_sA, gS_sL, gS_fA, gS_fL, gA_sS, gA_sA, gA_sL, gA_fA, gA_fL, gL_sS, gL_sA, gL_sL, gL_fA, gL_fL, reduceIte, Nat.reduceEqDiff, jupd, jupdL] using h8
  · simpa only [RD, rl, gS_sS, gS_sA, gS_sL, gS_fA, gS_fL, gA_sS, gA_sA, gA_sL, gA_fA, gA_fL, gL_sS, gL_sA, gL_sL, gL_fA, gL_fL, reduceIte, Nat.reduceEqDiff, jupd, jupdL] using h9
  · simpa only [RE, gS_sS, gS_sA, gS_sL, gS_fA, gS_fL, gA_sS, gA_sA, gA_sL, gA_fA, gA_fL, gL_sS, gL_sA, gL_sL, gL_fA, gL_fL, reduceIte, Nat.reduceEqDiff, jupd, jupdL] using h10
  · simpa only [RK, gS_sS, gS_sA, gS_sL, gS_fA, gS_fL, gA_sS, gA_sA, gA_sL, gA_fA, gA_fL, gL_sS, gL_sA, gL_sL, gL_fA, gL_fL, reduceIte, Nat.reduceEqDiff, jupd, jupdL] using h11
theorem sS_same (σ : St) (k : Nat) : sS σ k (gS σ k) = σ := by
  obtain ⟨a, b, c⟩ := σ
  have : upd a k (a k) = a := by
    funext j
    rw [jupd]
    by_cases h : j = k
    · rw [if_pos h, h]
    · rw [if_neg h]
  show (upd a k (a k), b, c) = (a, b, c)
  rw [this]
theorem FrC_stop (σ : St) (x y : Int32) : FrC σ (sS (sS σ 4 x) 10 y) := ⟨fun k z1 z2 _ _ _ => by simp only [gS_sS, if_neg z1, if_neg z2], fun k _ => by simp only [gA_sS], fun k _ => by simp only [gL_sS]⟩
theorem FrM_stop (nP : Nat) (τ : St) (x y z : Int32) : FrM nP τ (sS (sS (sS τ 5 x) 11 y) 4 z) := ⟨fun k z1 z2 z3 _ _ => by simp only [gS_sS, if_neg z1, if_neg z2, if_neg z3], fun k _ => by simp only [gA_sS], fun p _ => by simp only [gA_sS]; exact ⟨trivial, trivial, fun h => h⟩⟩
theorem FrC_put (σ : St) (p k : Nat) (x : Int64) (h : Nat) : FrC σ (putC σ p k x h) := ⟨fun j z1 z2 z3 z4 z5 => by simp only [putC, gS_sS, gS_sL, gS_sA, if_neg z3], fun j hj => by simp only [putC, gA_sS, gA_sL, gA_sA, if_neg (show ¬ j = 26 by omega)], fun j hj => by simp only [putC, gL_sS, gL_sL, gL_sA, if_neg hj]⟩
theorem FrC_rdy (σ : St) (p q t : Nat) : FrC σ (rdyC σ p q t) := ⟨fun j z1 z2 z3 z4 z5 => by simp only [rdyC, gS_sS, gS_sA, if_neg z3, if_neg z5], fun j hj => by simp only [rdyC, gA_sS, gA_sA, if_neg (show ¬ j = 29 by omega)], fun j hj => by simp only [rdyC, gL_sS, gL_sA]⟩
theorem FrC_add (σ : St) (a c nP : Nat) : FrC σ (addC σ a c nP) := ⟨fun j z1 z2 z3 z4 z5 => by simp only [addC, gS_sS, gS_sA, if_neg z4], fun j hj => by simp only [addC, gA_sS, gA_sA, if_neg (show ¬ j = 24 by omega), if_neg (show ¬ j = 25 by omega), if_neg (show ¬ j = 26 by omega), if_neg (show ¬ j = 27 by omega), if_neg (show ¬ j = 28 by omega)], fun j hj => by simp only [addC, gL_sS, gL_sA]⟩
theorem FrM_put (nP : Nat) (τ : St) (p k : Nat) (kk v of : Int32) (h : Nat) : FrM nP τ (putM τ p k kk v of h) := ⟨fun j z1 z2 z3 z4 z5 => by simp only [putM, gS_sA], fun j hj => by simp only [putM, gA_sA, if_neg (show ¬ j = 16 by omega), if_neg (show ¬ j = 19 by omega), if_neg (show ¬ j = 20 by omega), if_neg (show ¬ j = 21 by omega)], fun p _ => by simp only [putM, gS_sS, gS_sA, gS_sL, gS_fA, gS_fL, gA_sS, gA_sA, gA_sL, gA_fA, gA_fL, gL_sS, gL_sA, gL_sL, gL_fA, gL_fL, reduceIte, Nat.reduceEqDiff, jupd, jupdL]; exact ⟨trivial, trivial, fun h => h⟩⟩
theorem FrM_rdy (nP : Nat) (τ : St) (p m : Nat) (hp : gA τ 17 p = 0) : FrM nP τ (rdyM τ p m) := ⟨fun j z1 z2 z3 z4 z5 => by simp only [rdyM, gS_sS, gS_sA, if_neg z5], fun j hj => by simp only [rdyM, gA_sS, gA_sA, if_neg (show ¬ j = 17 by omega), if_neg (show ¬ j = 24 by omega)], fun r _ => by
  simp only [rdyM, gS_sS, gS_sA, gS_sL, gS_fA, gS_fL, gA_sS, gA_sA, gA_sL, gA_fA, gA_fL, gL_sS, gL_sA, gL_sL, gL_fA, gL_fL, reduceIte, Nat.reduceEqDiff, jupd, jupdL]
  refine ⟨trivial, trivial, fun h => ?_⟩
  have hne : ¬ r = p := fun e => by rw [e, hp] at h; exact absurd h (by decide)
  rw [if_neg hne]
  exact h⟩
theorem FrM_add (nP : Nat) (τ : St) (a : Nat) (c : Int32) : FrM nP τ (addM τ a c nP) := ⟨fun j z1 z2 z3 z4 z5 => by simp only [addM, gS_sS, gS_sA, if_neg z4], fun j hj => by simp only [addM, gA_sS, gA_sA, if_neg (show ¬ j = 14 by omega), if_neg (show ¬ j = 15 by omega), if_neg (show ¬ j = 16 by omega), if_neg (show ¬ j = 17 by omega), if_neg (show ¬ j = 18 by omega), if_neg (show ¬ j = 22 by omega)], fun p hp => by
  simp only [addM, gS_sS, gS_sA, gS_sL, gS_fA, gS_fL, gA_sS, gA_sA, gA_sL, gA_fA, gA_fL, gL_sS, gL_sA, gL_sL, gL_fA, gL_fL, reduceIte, Nat.reduceEqDiff, jupd, jupdL, if_neg (show ¬ p = nP by omega)]
  exact ⟨trivial, trivial, fun h => h⟩⟩
/-- on a pair that is there -/
theorem sim_at {cx : Cx} {nA nC nP m hd nR nCe nQ a k p q : Nat} {pr : Nat → Nat} {σ τ : St} {x : Int64} {kk v of : Int32} {c : Int32} (hR : RR cx nA nC nP m hd nR nCe nQ pr σ τ) (hA : nA ≤ 80) (hgo : Go σ τ) (ha : a < 80) (hp : p < nP) (h14 : gA τ 14 p = nI a) (hq : gA τ 2 a = nI q) (hqc : gA σ 2 a = nI q) (hk : k < q) (hq3 : q ≤ 3) (hv : vr nR x kk v of)
    (τ0 : St) (hpair : ∀ K2 : Int32 → St → Prop, K2 (nI p) τ → w_X10_pair τ0 (nI a) c K2) :
    ∃ (σ' τ' : St) (r : Int32) (m' : Nat), (∀ K : St → Prop, K σ' → b_X4_arrive_28 K σ (nI a) (nI k) x (nI p)) ∧ (∀ K : Int32 → St → Prop, K r τ' → w_X10_comes τ0 (nI a) (nI k) c kk v of K) ∧ RR cx nA nC nP m' hd nR nCe nQ pr σ' τ' ∧ FrC σ σ' ∧ FrM nP τ τ' ∧ ((r = 1 ∧ Go σ' τ') ∨ (r = 0 ∧ Hlt σ' τ')) := by
  have h2 := hR.2.1
  have hP3 := h2.1
  obtain ⟨y1, y2, y3, y4, y5, a', q', h, g1, g2, g3, g4, g5, g6, g7, g8⟩ := h2.2.2.2.1 p hp
  have e1 : a' = a := nI_inj (by omega) (by omega) (g2.symm.trans h14)
  subst e1
  have e2 : q' = q := nI_inj (by omega) (by omega) (g3.symm.trans hq)
  subst e2
  have h8 := two8 hq3
  have h8' : h < 8 := by omega
  obtain ⟨r1, r2, r3, r4, r5, r6⟩ := hR.2.2.2.1
  have hlt : h / 2 ^ k % 2 = 0 → hd + m < 3000 := fun hb => by
    have hw0 : gA τ 17 p = 0 := g8.mpr (fp5 q' (by omega) h h8' k (by omega) hk hb)
    have := sm_lt (f := fun p => if gA τ 17 p = 0 then 0 else 1) hp (by simp only [hw0, reduceIte]) (fun i _ => by split <;> omega)
    omega
  by_cases hb : h / 2 ^ k % 2 = 1
  · refine ⟨sS (sS σ 4 1) 10 (nI a'), sS (sS (sS τ 5 1) 11 (nI a')) 4 1, 0, m, fun K hK => ?_, fun K hK => ?_, RR_stop hR 1 _ 1 _ 1, FrC_stop σ 1 _, FrM_stop nP τ 1 _ 1, Or.inr ⟨rfl, ?_⟩⟩
    · exact ev_arr28 ha (by omega) (by omega) (y3.trans g6) h8' hqc (by omega) r3 hlt (by rw [if_pos hb]; exact hK)
    · exact ev_comes ha (by omega) (by omega) g6 h8' hq (by omega) r1 (fun z => by have := hlt z; omega) (by rw [if_pos hb]; exact hK) τ0 hpair
    · unfold Hlt
      simp only [gS_sS, gS_sA, gS_sL, gS_fA, gS_fL, gA_sS, gA_sA, gA_sL, gA_fA, gA_fL, gL_sS, gL_sA, gL_sL, gL_fA, gL_fL, reduceIte, Nat.reduceEqDiff, jupd, jupdL]
      exact ⟨trivial, trivial, by decide, trivial⟩
  · have hb0 : h / 2 ^ k % 2 = 0 := by omega
    obtain ⟨z1, z2, z3, z4, z5⟩ := hgo
    by_cases hf : h + 2 ^ k = 2 ^ q' - 1
    · refine ⟨_, _, 1, m + 1, fun K hK => ?_, fun K hK => ?_, RR_rdy hR hA hp ha h14 hq hq3 g6 h8' hk hb0 hf hv, (FrC_put σ p k x h).tr (FrC_rdy _ p q' (hd + m)), (FrM_put nP τ p k kk v of h).tr (FrM_rdy nP _ p m ?_) (Nat.le_refl _), Or.inl ⟨rfl, ?_⟩⟩
      · exact ev_arr28 ha (by omega) (by omega) (y3.trans g6) h8' hqc (by omega) r3 hlt (by rw [if_neg hb, if_pos hf]; exact hK)
      · exact ev_comes ha (by omega) (by omega) g6 h8' hq (by omega) r1 (fun z => by have := hlt z; omega) (by rw [if_neg hb, if_pos hf]; exact hK) τ0 hpair
      · simp only [putM, gS_sS, gS_sA, gS_sL, gS_fA, gS_fL, gA_sS, gA_sA, gA_sL, gA_fA, gA_fL, gL_sS, gL_sA, gL_sL, gL_fA, gL_fL, reduceIte, Nat.reduceEqDiff, jupd, jupdL]
        exact g8.mpr (fp5 q' (by omega) h h8' k (by omega) hk hb0)
      · unfold Go rdyC rdyM putC putM
        simp only [gS_sS, gS_sA, gS_sL, gS_fA, gS_fL, gA_sS, gA_sA, gA_sL, gA_fA, gA_fL, gL_sS, gL_sA, gL_sL, gL_fA, gL_fL, reduceIte, Nat.reduceEqDiff, jupd, jupdL]
        exact ⟨z1, z2, z3, z4, z5⟩
    · refine ⟨_, _, 1, m, fun K hK => ?_, fun K hK => ?_, RR_put hR hA hp ha h14 hq hq3 g6 h8' hk hb0 hf hv, FrC_put σ p k x h, FrM_put nP τ p k kk v of h, Or.inl ⟨rfl, ?_⟩⟩
      · exact ev_arr28 ha (by omega) (by omega) (y3.trans g6) h8' hqc (by omega) r3 hlt (by rw [if_neg hb, if_neg hf]; exact hK)
      · exact ev_comes ha (by omega) (by omega) g6 h8' hq (by omega) r1 (fun z => by have := hlt z; omega) (by rw [if_neg hb, if_neg hf]; exact hK) τ0 hpair
      · unfold Go putC putM
        simp only [gS_sS, gS_sA, gS_sL, gS_fA, gS_fL, gA_sS, gA_sA, gA_sL, gA_fA, gA_fL, gL_sS, gL_sA, gL_sL, gL_fA, gL_fL, reduceIte, Nat.reduceEqDiff, jupd, jupdL]
        exact ⟨z1, z2, z3, z4, z5⟩
theorem sim_arrive {cx : Cx} {nA nW nT nC nP m hd nR nCe nQ a k c q : Nat} {pr : Nat → Nat} {σ τ : St} {x : Int64} {kk v of : Int32} (hG : RG nA nW nT σ τ) (hR : RR cx nA nC nP m hd nR nCe nQ pr σ τ) (hgo : Go σ τ) (ha : a < nA) (hq : gA τ 2 a = nI q) (hk : k < q) (hq3 : q ≤ 3) (hc : c < nC) (hv : vr nR x kk v of) :
    ∃ (σ' τ' : St) (r : Int32) (nP' m' : Nat), (∀ K : St → Prop, K σ' → w_X4_arrive σ (nI a) (nI k) (nI c) x K) ∧ (∀ K : Int32 → St → Prop, K r τ' → w_X10_comes τ (nI a) (nI k) (nI c) kk v of K) ∧ RR cx nA nC nP' m' hd nR nCe nQ pr σ' τ' ∧ nP ≤ nP' ∧ FrC σ σ' ∧ FrM nP τ τ' ∧ ((r = 1 ∧ Go σ' τ') ∨ (r = 0 ∧ Hlt σ' τ')) := by
  have hA := hG.1
  have hC := hR.1.2.1
  have h2 := hR.2.1
  have hP3 := h2.1
  have hqc : gA σ 2 a = nI q := by rw [← (hG.2.2.2.2.2.2.2.2.2.1 a ha).2.2.1]; exact hq
  by_cases hex : ∃ p, p < nP ∧ gA τ 14 p = nI a ∧ gA τ 15 p = nI c
  · obtain ⟨p, hp, e1, e2⟩ := hex
    obtain ⟨σ', τ', r, m', k1, k2, k3, k4, k5, k6⟩ := sim_at (k := k) (x := x) (kk := kk) (v := v) (of := of) hR hA hgo (by omega) hp e1 hq hqc hk hq3 hv τ (fun K2 hK2 => ev_pair_hit h2 (by omega) hp e1 e2 K2 hK2)
    refine ⟨σ', τ', r, nP, m', fun K hK => ?_, k2, k3, Nat.le_refl _, k4, k5, k6⟩
    unfold w_X4_arrive
    exact ev_find_hit h2 hA (by omega) hp e1 e2 (jbn (nI_m1 (by omega)) (k1 K hK))
  · have hno : ∀ p, p < nP → gA τ 14 p = nI a → ¬ gA τ 15 p = nI c := fun p hp e1 e2 => hex ⟨p, hp, e1, e2⟩
    by_cases hfull : nP = 3000
    · obtain ⟨z1, z2, z3, z4, z5⟩ := hgo
      refine ⟨sS (sS σ 4 2) 10 (-1), sS (sS (sS τ 5 2) 11 (-1)) 4 1, 0, nP, m, fun K hK => ?_, fun K hK => ?_, RR_stop hR 2 _ 2 _ 1, Nat.le_refl _, FrC_stop σ 2 _, FrM_stop nP τ 2 _ 1, Or.inr ⟨rfl, ?_⟩⟩
      · unfold w_X4_arrive
        refine ev_find_miss h2 hA (by omega) hno (jbm rfl ?_)
        have e : sS (sS σ 4 2) 10 (-1) = sS σ 4 2 := by
          have h := sS_same (sS σ 4 2) 10
          rw [show gS (sS σ 4 2) 10 = -1 by simp only [gS_sS, gS_sA, gS_sL, gS_fA, gS_fL, gA_sS, gA_sA, gA_sL, gA_fA, gA_fL, gL_sS, gL_sA, gL_sL, gL_fA, gL_fL, reduceIte, Nat.reduceEqDiff, jupd, jupdL]; exact z5] at h
          exact h
        rw [e] at hK
        exact ev_add hP3 h2.2.1 (by omega) (by rw [if_pos hfull]; unfold b_X4_arrive_28; exact jbm rfl hK)
      · unfold w_X10_comes
        refine ev_pair_miss h2 (by omega) hno _ ?_
        rw [if_pos hfull]
        exact jbf (by decide) hK
      · unfold Hlt
        simp only [gS_sS, gS_sA, gS_sL, gS_fA, gS_fL, gA_sS, gA_sA, gA_sL, gA_fA, gA_fL, gL_sS, gL_sA, gL_sL, gL_fA, gL_fL, reduceIte, Nat.reduceEqDiff, jupd, jupdL]
        exact ⟨trivial, trivial, by decide, trivial⟩
    · have hR2 := RR_add hR hA (by omega) ha hc hq (by omega) hq3 hno
      have f1 := FrC_add σ a c nP
      have f2 := FrM_add nP τ a (nI c)
      obtain ⟨σ', τ', r, m', k1, k2, k3, k4, k5, k6⟩ := sim_at (k := k) (x := x) (kk := kk) (v := v) (of := of) (c := nI c) hR2 hA (by
          obtain ⟨z1, z2, z3, z4, z5⟩ := hgo
          unfold Go addC addM
          simp only [gS_sS, gS_sA, gS_sL, gS_fA, gS_fL, gA_sS, gA_sA, gA_sL, gA_fA, gA_fL, gL_sS, gL_sA, gL_sL, gL_fA, gL_fL, reduceIte, Nat.reduceEqDiff, jupd, jupdL]
          exact ⟨z1, z2, z3, z4, z5⟩) (by omega) (Nat.lt_succ_self nP) (by simp only [addM, gS_sS, gS_sA, gS_sL, gS_fA, gS_fL, gA_sS, gA_sA, gA_sL, gA_fA, gA_fL, gL_sS, gL_sA, gL_sL, gL_fA, gL_fL, reduceIte, Nat.reduceEqDiff, jupd, jupdL]) (by rw [f2.2.1 2 (by decide)]; exact hq) (by rw [f1.2.1 2 (by decide)]; exact hqc) hk hq3 hv τ (fun K2 hK2 => ev_pair_miss h2 (by omega) hno K2 (by rw [if_neg hfull]; exact hK2))
      refine ⟨σ', τ', r, nP + 1, m', fun K hK => ?_, k2, k3, by omega, f1.tr k4, f2.tr k5 (by omega), k6⟩
      unfold w_X4_arrive
      refine ev_find_miss h2 hA (by omega) hno (jbm rfl ?_)
      exact ev_add hP3 h2.2.1 (by omega) (by rw [if_neg hfull]; exact k1 K hK)
