/-! ===== one act goes off: the kinds that pass ===== -/
def Done (cx : Cx) (nA nW nT hd : Nat) (σ τ : St) : Prop := ∃ (nC nP m nR nCe nQ : Nat) (pr : Nat → Nat), RG nA nW nT σ τ ∧ RR cx nA nC nP m hd nR nCe nQ pr σ τ ∧ (Go σ τ ∨ Hlt σ τ)
theorem gv {cx : Cx} {nA nW nT nC nP m hd nR nCe nQ a s c : Nat} {pr : Nat → Nat} {σ τ : St} {x : Int64} {kk v of : Int32} (hG : RG nA nW nT σ τ) (hR : RR cx nA nC nP m hd nR nCe nQ pr σ τ) (hgo : Go σ τ) (ha : a < 80) (hs : s < 2) (hc : c < nC) (hv : vr nR x kk v of) :
    ∃ (σ' τ' : St) (r : Int32), (∀ K : St → Prop, K σ' → w_X4_give σ (nI a) (nI s) (nI c) x K) ∧ (∀ K : Int32 → St → Prop, K r τ' → w_X10_gives τ (nI a) (nI s) (nI c) kk v of K) ∧ Done cx nA nW nT hd σ' τ' ∧ zb r := by
  obtain ⟨σ', τ', r, nP', m', z1, z2, z3, z4, z5, z6, z7⟩ := sim_give hG hR hgo ha hs hc hv
  refine ⟨σ', τ', r, z1, z2, ⟨nC, nP', m', nR, nCe, nQ, pr, hG.fr z5 z6, z3, ?_⟩, ?_⟩
  · rcases z7 with h | h
    · exact Or.inl h.2
    · exact Or.inr h.2
  · rcases z7 with h | h
    · exact Or.inr h.1
    · exact Or.inl h.1
theorem vr.srt {nR : Nat} {x : Int64} {k v of : Int32} (h : vr nR x k v of) (hR : nR ≤ 300) : ((x.toUInt64 >>> ((40 : Int32).toInt64.toUInt64 &&& Int64.toUInt64 63)).toInt64).toInt32 = k := h.sort hR
theorem ev_came {σ : St} {p j : Nat} {K : Int64 → St → Prop} (hp : p < 3000) (hj : j < 3) (hk : K (gL σ 4 (3 * p + j)) σ) : w_X1_cameTo σ (nI p) (nI j) K := by
  unfold w_X1_cameTo
  rw [i3, nI_clamp (by omega)]
  exact ⟨vp_in_nI (by omega) (by decide), hk⟩
theorem ev_kindAt {τ : St} {p j : Nat} {K : Int32 → St → Prop} (hp : p < 3000) (hj : j < 3) (hk : K (gA τ 19 (3 * p + j)) τ) : w_X10_kindAt τ (nI p) (nI j) K := by
  unfold w_X10_kindAt
  rw [i3, nI_clamp (by omega)]
  exact ⟨vp_in_nI (by omega) (by decide), hk⟩
theorem ev_valueAt {τ : St} {p j : Nat} {K : Int32 → St → Prop} (hp : p < 3000) (hj : j < 3) (hk : K (gA τ 20 (3 * p + j)) τ) : w_X10_valueAt τ (nI p) (nI j) K := by
  unfold w_X10_valueAt
  rw [i3, nI_clamp (by omega)]
  exact ⟨vp_in_nI (by omega) (by decide), hk⟩
theorem i30 (p : Nat) : (3 : Int32) * nI p = nI (3 * p) := by rw [show (3 : Int32) = nI 3 from rfl, pk_mul]
theorem ev_passes {τ : St} {p a : Nat} {s c : Int32} {K : Int32 → St → Prop} (hp : p < 3000) (h14 : gA τ 14 p = nI a) (hk : w_X10_gives τ (nI a) s c (gA τ 19 (3 * p + 0)) (gA τ 20 (3 * p + 0)) (gA τ 21 (3 * p + 0)) K) : w_X10_passes τ (nI p) s c K := by
  unfold w_X10_passes
  rw [i30, nI_clamp (show p < 2 ^ 31 by omega), nI_clamp (show 3 * p < 2 ^ 31 by omega), h14]
  have h9 : vp_in (nI (3 * p)) 9000 := vp_in_nI (by omega) (by decide)
  exact ⟨vp_in_nI hp (by decide), h9, h9, h9, hk⟩
/-- a pair p that is going off: act a of kind k with q ports, in colour c -/
def Fire (cx : Cx) (nA nW nT nC nP m hd nR nCe nQ p a c k q : Nat) (pr : Nat → Nat) (σ τ : St) : Prop := RG nA nW nT σ τ ∧ RR cx nA nC nP m hd nR nCe nQ pr σ τ ∧ Go σ τ ∧ p < nP ∧ gA τ 14 p = nI a ∧ gA τ 15 p = nI c ∧ a < nA ∧ c < nC ∧ gA τ 0 a = nI k ∧ k < 22 ∧ gA τ 2 a = nI q ∧ 1 ≤ q ∧ q ≤ 3 ∧ (k ≠ 14 → q = jpo k) ∧ (∀ j, j < q → vr nR (gL σ 4 (3 * p + j)) (gA τ 19 (3 * p + j)) (gA τ 20 (3 * p + j)) (gA τ 21 (3 * p + j))) ∧ gA τ 17 p = 2 ∧ nQ + 1 ≤ sm (fun p => if gA τ 17 p = 2 then 1 else 0) nP ∧ (∀ n, n < nQ → ¬ gA τ 33 n = nI p) ∧ (∀ r, r < nR → gA τ 27 r = nI a → ¬ gA τ 28 r = nI c)
theorem RR_lost {cx : Cx} {nA nC nP m hd nR nCe nQ : Nat} {pr : Nat → Nat} {σ τ : St} (hR : RR cx nA nC nP m hd nR nCe nQ pr σ τ) : RR cx nA nC nP m hd nR nCe nQ pr (sS σ 8 (gS σ 8 + 1)) (sS τ 9 (gS τ 9 + 1)) := by
  obtain ⟨h1, h2, h3, h4, h5, h6, h7, ⟨h8, h9⟩, h10, h11⟩ := hR
  refine ⟨?_, ?_, ?_, ?_, ?_, ?_, ?_, ⟨?_, ?_⟩, ?_, ?_⟩
  · simpa only [RC, gS_sS, gS_sA, gS_sL, gS_fA, gS_fL, gA_sS, gA_sA, gA_sL, gA_fA, gA_fL, gL_sS, gL_sA, gL_sL, gL_fA, gL_fL, reduceIte, Nat.reduceEqDiff, jupd, jupdL] using h1
  · simpa only [RP, gS_sS, gS_sA, gS_sL, gS_fA, gS_fL, gA_sS, gA_sA, gA_sL, gA_fA, gA_fL, gL_sS, gL_sA, gL_sL, gL_fA, gL_fL, reduceIte, Nat.reduceEqDiff, jupd, jupdL] using h2
  · simpa only [RV, gS_sS, gS_sA, gS_sL, gS_fA, gS_fL, gA_sS, gA_sA, gA_sL, gA_fA, gA_fL, gL_sS, gL_sA, gL_sL, gL_fA, gL_fL, reduceIte, Nat.reduceEqDiff, jupd, jupdL] using h3
  · simpa only [RY, gS_sS, gS_sA, gS_sL, gS_fA, gS_fL, gA_sS, gA_sA, gA_sL, gA_fA, gA_fL, gL_sS, gL_sA, gL_sL, gL_fA, gL_fL, reduceIte, Nat.reduceEqDiff, jupd, jupdL] using h4
  · simpa only [RLf, gS_sS, gS_sA, gS_sL, gS_fA, gS_fL, gA_sS, gA_sA, gA_sL, gA_fA, gA_fL, gL_sS, gL_sA, gL_sL, gL_fA, gL_fL, reduceIte, Nat.reduceEqDiff, jupd, jupdL] using h5
  · simpa only [RS, gS_sS, gS_sA, gS_sL, gS_fA, gS_fL, gA_sS, gA_sA, gA_sL, gA_fA, gA_fL, gL_sS, gL_sA, gL_sL, gL_fA, gL_fL, reduceIte, Nat.reduceEqDiff, jupd, jupdL] using h6
  · simpa only [RSm, gS_sS, gS_sA, gS_sL, gS_fA, gS_fL, gA_sS, gA_sA, gA_sL, gA_fA, gA_fL, gL_sS, gL_sA, gL_sL, gL_fA, gL_fL, reduceIte, Nat.reduceEqDiff, jupd, jupdL] using h7
  · simpa only [RDw, gS_sS, gS_sA, gS_sL, gS_fA, gS_fL, gA_sS, gA_sA, gA_sL, gA_fA, gA_fL, gL_sS, gL_sA, gL_sL, gL_fA, gL_fL, reduceIte, Nat.reduceEqDiff, jupd, jupdL] using h8
  · simpa only [RD, rl, gS_sS, gS_sA, gS_sL, gS_fA, gS_fL, gA_sS, gA_sA, gA_sL, gA_fA, gA_fL, gL_sS, gL_sA, gL_sL, gL_fA, gL_fL, reduceIte, Nat.reduceEqDiff, jupd, jupdL] using h9
  · simpa only [RE, gS_sS, gS_sA, gS_sL, gS_fA, gS_fL, gA_sS, gA_sA, gA_sL, gA_fA, gA_fL, gL_sS, gL_sA, gL_sL, gL_fA, gL_fL, reduceIte, Nat.reduceEqDiff, jupd, jupdL] using h10
  · obtain ⟨g1, g2, g3, g4, g5⟩ := h11
    unfold RK
    simp only [gS_sS, gS_sA, gS_sL, gS_fA, gS_fL, gA_sS, gA_sA, gA_sL, gA_fA, gA_fL, gL_sS, gL_sA, gL_sL, gL_fA, gL_fL, reduceIte, Nat.reduceEqDiff, jupd, jupdL]
    exact ⟨g1, g2, by rw [g3], g4, g5⟩
theorem RR_stray {cx : Cx} {nA nC nP m hd nR nCe nQ : Nat} {pr : Nat → Nat} {σ τ : St} (hR : RR cx nA nC nP m hd nR nCe nQ pr σ τ) : RR cx nA nC nP m hd nR nCe nQ pr (sS σ 9 (gS σ 9 + 1)) (sS τ 10 (gS τ 10 + 1)) := by
  obtain ⟨h1, h2, h3, h4, h5, h6, h7, ⟨h8, h9⟩, h10, h11⟩ := hR
  refine ⟨?_, ?_, ?_, ?_, ?_, ?_, ?_, ⟨?_, ?_⟩, ?_, ?_⟩
  · simpa only [RC, gS_sS, gS_sA, gS_sL, gS_fA, gS_fL, gA_sS, gA_sA, gA_sL, gA_fA, gA_fL, gL_sS, gL_sA, gL_sL, gL_fA, gL_fL, reduceIte, Nat.reduceEqDiff, jupd, jupdL] using h1
  · simpa only [RP, gS_sS, gS_sA, gS_sL, gS_fA, gS_fL, gA_sS, gA_sA, gA_sL, gA_fA, gA_fL, gL_sS, gL_sA, gL_sL, gL_fA, gL_fL, reduceIte, Nat.reduceEqDiff, jupd, jupdL] using h2
  · simpa only [RV, gS_sS, gS_sA, gS_sL, gS_fA, gS_fL, gA_sS, gA_sA, gA_sL, gA_fA, gA_fL, gL_sS, gL_sA, gL_sL, gL_fA, gL_fL, reduceIte, Nat.reduceEqDiff, jupd, jupdL] using h3
  · simpa only [RY, gS_sS, gS_sA, gS_sL, gS_fA, gS_fL, gA_sS, gA_sA, gA_sL, gA_fA, gA_fL, gL_sS, gL_sA, gL_sL, gL_fA, gL_fL, reduceIte, Nat.reduceEqDiff, jupd, jupdL] using h4
  · simpa only [RLf, gS_sS, gS_sA, gS_sL, gS_fA, gS_fL, gA_sS, gA_sA, gA_sL, gA_fA, gA_fL, gL_sS, gL_sA, gL_sL, gL_fA, gL_fL, reduceIte, Nat.reduceEqDiff, jupd, jupdL] using h5
  · simpa only [RS, gS_sS, gS_sA, gS_sL, gS_fA, gS_fL, gA_sS, gA_sA, gA_sL, gA_fA, gA_fL, gL_sS, gL_sA, gL_sL, gL_fA, gL_fL, reduceIte, Nat.reduceEqDiff, jupd, jupdL] using h6
  · simpa only [RSm, gS_sS, gS_sA, gS_sL, gS_fA, gS_fL, gA_sS, gA_sA, gA_sL, gA_fA, gA_fL, gL_sS, gL_sA, gL_sL, gL_fA, gL_fL, reduceIte, Nat.reduceEqDiff, jupd, jupdL] using h7
  · simpa only [RDw, gS_sS, gS_sA, gS_sL, gS_fA, gS_fL, gA_sS, gA_sA, gA_sL, gA_fA, gA_fL, gL_sS, gL_sA, gL_sL, gL_fA, gL_fL, reduceIte, Nat.reduceEqDiff, jupd, jupdL] using h8
  · simpa only [RD, rl, gS_sS, gS_sA, gS_sL, gS_fA, gS_fL, gA_sS, gA_sA, gA_sL, gA_fA, gA_fL, gL_sS, gL_sA, gL_sL, gL_fA, gL_fL, reduceIte, Nat.reduceEqDiff, jupd, jupdL] using h9
  · simpa only [RE, gS_sS, gS_sA, gS_sL, gS_fA, gS_fL, gA_sS, gA_sA, gA_sL, gA_fA, gA_fL, gL_sS, gL_sA, gL_sL, gL_fA, gL_fL, reduceIte, Nat.reduceEqDiff, jupd, jupdL] using h10
  · obtain ⟨g1, g2, g3, g4, g5⟩ := h11
    unfold RK
    simp only [gS_sS, gS_sA, gS_sL, gS_fA, gS_fL, gA_sS, gA_sA, gA_sL, gA_fA, gA_fL, gL_sS, gL_sA, gL_sL, gL_fA, gL_fL, reduceIte, Nat.reduceEqDiff, jupd, jupdL]
    exact ⟨g1, g2, g3, by rw [g4], g5⟩
theorem RG_sS {nA nW nT j j2 : Nat} {σ τ : St} {v v2 : Int32} (h : RG nA nW nT σ τ) (hj : 3 < j) (hj2 : 2 < j2) : RG nA nW nT (sS σ j v) (sS τ j2 v2) := by
  have e1 : ∀ k, k ≤ 3 → gS (sS σ j v) k = gS σ k := fun k hk => by simp only [gS_sS, if_neg (show ¬ k = j by omega)]
  have e2 : ∀ k, k ≤ 2 → gS (sS τ j2 v2) k = gS τ k := fun k hk => by simp only [gS_sS, if_neg (show ¬ k = j2 by omega)]
  unfold RG prm wl at h ⊢
  rw [e1 1 (by decide), e1 2 (by decide), e1 3 (by decide), e2 0 (by decide), e2 1 (by decide), e2 2 (by decide)]
  simp only [gA_sS]
  exact h
theorem RG_l {nA nW nT j : Nat} {σ τ : St} {v : Int32} (h : RG nA nW nT σ τ) (hj : 3 < j) : RG nA nW nT (sS σ j v) τ := by
  have e1 : ∀ k, k ≤ 3 → gS (sS σ j v) k = gS σ k := fun k hk => by simp only [gS_sS, if_neg (show ¬ k = j by omega)]
  unfold RG prm wl at h ⊢
  rw [e1 1 (by decide), e1 2 (by decide), e1 3 (by decide)]
  simp only [gA_sS]
  exact h
theorem RG_r {nA nW nT j : Nat} {σ τ : St} {v : Int32} (h : RG nA nW nT σ τ) (hj : 2 < j) : RG nA nW nT σ (sS τ j v) := by
  have e2 : ∀ k, k ≤ 2 → gS (sS τ j v) k = gS τ k := fun k hk => by simp only [gS_sS, if_neg (show ¬ k = j by omega)]
  unfold RG prm wl at h ⊢
  rw [e2 0 (by decide), e2 1 (by decide), e2 2 (by decide)]
  simp only [gA_sS]
  exact h
theorem Go_s {σ τ : St} {j j2 : Nat} {v v2 : Int32} (h : Go σ τ) (h1 : j ≠ 4) (h2 : j ≠ 10) (h3 : j2 ≠ 4) (h4 : j2 ≠ 5) (h5 : j2 ≠ 11) : Go (sS σ j v) (sS τ j2 v2) := by
  obtain ⟨z1, z2, z3, z4, z5⟩ := h
  unfold Go
  simp only [gS_sS, if_neg (Ne.symm h1), if_neg (Ne.symm h2), if_neg (Ne.symm h3), if_neg (Ne.symm h4), if_neg (Ne.symm h5)]
  exact ⟨z1, z2, z3, z4, z5⟩
theorem fire_switch {cx : Cx} {nA nW nT nC nP m hd nR nCe nQ p a c k q : Nat} {pr : Nat → Nat} {σ τ : St} (hF : Fire cx nA nW nT nC nP m hd nR nCe nQ p a c k q pr σ τ) (hk : k = 10) :
    ∃ (σ' τ' : St) (r : Int32), (∀ K : St → Prop, K σ' → w_X4_goSwitch σ (nI a) (nI c) (gL σ 4 (3 * p + 0)) (gL σ 4 (3 * p + 1)) K) ∧ (∀ K : Int32 → St → Prop, K r τ' → w_X10_switches τ (nI p) K) ∧ Done cx nA nW nT hd σ' τ' ∧ zb r := by
  obtain ⟨hG, hR, hgo, hp, h14, h15, ha, hc, h0, hk22, h2, hq1, hq3, hjq, hvr, h17, hq2, hr1, hr2⟩ := hF
  have hP := hR.2.1.1
  have hA := hG.1
  have hR3 := hR.2.2.2.2.2.1.1
  subst hk
  have hq : q = 2 := hjq (by decide)
  subst hq
  have v0 := hvr 0 (by decide)
  have v1 := hvr 1 (by decide)
  have hpi : vp_in (nI p) 3000 := vp_in_nI (by omega) (by decide)
  by_cases e1 : gA τ 19 (3 * p + 1) = 1
  · by_cases e2 : gA τ 20 (3 * p + 1) = 0
    · obtain ⟨σ', τ', r, z1, z2, z3, z4⟩ := gv hG hR hgo (show a < 80 by omega) (show 1 < 2 by decide) hc v0
      refine ⟨σ', τ', r, fun K hK => ?_, fun K hK => ?_, z3, z4⟩
      · unfold w_X4_goSwitch w_X8_sortOf w_X8_contentOf
        rw [v1.srt hR3, v1.con]
        exact jbr e1 (jbr e2 (z1 K hK))
      · unfold w_X10_switches
        refine ev_kindAt (j := 1) (by omega) (by decide) (jbr e1 ?_)
        refine ev_valueAt (j := 1) (by omega) (by decide) (jbr e2 ⟨hpi, ?_⟩)
        rw [nI_clamp (show p < 2 ^ 31 by omega), h15]
        exact ev_passes (by omega) h14 (z2 K hK)
    · obtain ⟨σ', τ', r, z1, z2, z3, z4⟩ := gv hG hR hgo (show a < 80 by omega) (show 0 < 2 by decide) hc v0
      refine ⟨σ', τ', r, fun K hK => ?_, fun K hK => ?_, z3, z4⟩
      · unfold w_X4_goSwitch w_X8_sortOf w_X8_contentOf
        rw [v1.srt hR3, v1.con]
        exact jbr e1 (jbf e2 (z1 K hK))
      · unfold w_X10_switches
        refine ev_kindAt (j := 1) (by omega) (by decide) (jbr e1 ?_)
        refine ev_valueAt (j := 1) (by omega) (by decide) (jbf e2 ⟨hpi, ?_⟩)
        rw [nI_clamp (show p < 2 ^ 31 by omega), h15]
        exact ev_passes (by omega) h14 (z2 K hK)
  · refine ⟨_, _, 1, fun K hK => ?_, fun K hK => ?_, ⟨nC, nP, m, nR, nCe, nQ, pr, RG_sS hG (by decide) (by decide), RR_lost hR, Or.inl (Go_s hgo (by decide) (by decide) (by decide) (by decide) (by decide))⟩, Or.inr rfl⟩
    · unfold w_X4_goSwitch w_X8_sortOf
      rw [v1.srt hR3]
      exact jbf e1 hK
    · unfold w_X10_switches
      exact ev_kindAt (j := 1) (by omega) (by decide) (jbf e1 hK)
theorem fire_end {cx : Cx} {nA nW nT nC nP m hd nR nCe nQ p a c k q e : Nat} {pr : Nat → Nat} {σ τ : St} (hF : Fire cx nA nW nT nC nP m hd nR nCe nQ p a c k q pr σ τ) (he : gA τ 1 a = nI e) (he10 : e < 10) :
    ∃ (σ' τ' : St) (r : Int32), (∀ K : St → Prop, K σ' → w_X4_goEnd σ (nI a) (nI c) (gL σ 4 (3 * p + 0)) K) ∧ (∀ K : Int32 → St → Prop, K r τ' → w_X10_ends τ (nI p) K) ∧ Done cx nA nW nT hd σ' τ' ∧ zb r := by
  obtain ⟨hG, hR, hgo, hp, h14, h15, ha, hc, h0, hk22, h2, hq1, hq3, hjq, hvr, h17, hq2, hr1, hr2⟩ := hF
  have hP := hR.2.1.1
  have hA := hG.1
  have hC6 := hR.1.2.1
  have hR3 := hR.2.2.2.2.2.1.1
  have v0 := hvr 0 (by omega)
  have hpi : vp_in (nI p) 3000 := vp_in_nI (by omega) (by decide)
  have hai : vp_in (nI a) 80 := vp_in_nI (by omega) (by decide)
  have hei : vp_in (nI e) 10 := vp_in_nI he10 (by decide)
  have h9 : vp_in (nI (3 * p)) 9000 := vp_in_nI (by omega) (by decide)
  have heC : gA σ 1 a = nI e := by rw [← (hG.2.2.2.2.2.2.2.2.2.1 a ha).2.1]; exact he
  by_cases c0 : c = 0
  · subst c0
    rcases hR.2.2.2.2.2.2.2.2.1 e he10 with ⟨g1, g2⟩ | hve
    · obtain ⟨h1, h2', h3, h4, h5, h6, h7, ⟨h8, h9'⟩, h10, h11⟩ := hR
      refine ⟨sL σ 2 e (gL σ 4 (3 * p + 0)), sA (sA (sA τ 34 e (gA τ 19 (3 * p + 0))) 35 e (gA τ 20 (3 * p + 0))) 36 e (gA τ 21 (3 * p + 0)), 1, fun K hK => ?_, fun K hK => ?_, ⟨nC, nP, m, nR, nCe, nQ, pr, ?_, ⟨?_, ?_, ?_, ?_, ?_, ?_, ?_, ⟨?_, ?_⟩, ?_, ?_⟩, Or.inl ?_⟩, Or.inr rfl⟩
      · unfold w_X4_goEnd
        rw [nI_clamp (show a < 2 ^ 31 by omega), heC, nI_clamp (show e < 2 ^ 31 by omega)]
        exact ⟨hai, jbr rfl ⟨hei, jbr ((lgc0 _ _).mpr g1) ⟨hei, hK⟩⟩⟩
      · unfold w_X10_ends
        rw [nI_clamp (show p < 2 ^ 31 by omega), h14, h15, nI_clamp (show a < 2 ^ 31 by omega), he, nI_clamp (show e < 2 ^ 31 by omega), i30, nI_clamp (show 3 * p < 2 ^ 31 by omega)]
        exact ⟨hpi, hai, hpi, jbr rfl ⟨hei, jbr (by rw [g2]; decide) ⟨h9, hei, h9, hei, h9, hei, hK⟩⟩⟩
      · unfold RG prm wl at hG ⊢
        simp only [gS_sS, gS_sA, gS_sL, gS_fA, gS_fL, gA_sS, gA_sA, gA_sL, gA_fA, gA_fL, gL_sS, gL_sA, gL_sL, gL_fA, gL_fL, reduceIte, Nat.reduceEqDiff, jupd, jupdL]
        exact hG
      · simpa only [RC, gS_sS, gS_sA, gS_sL, gS_fA, gS_fL, gA_sS, gA_sA, gA_sL, gA_fA, gA_fL, gL_sS, gL_sA, gL_sL, gL_fA, gL_fL, reduceIte, Nat.reduceEqDiff, jupd, jupdL] using h1
      · simpa only [RP, gS_sS, gS_sA, gS_sL, gS_fA, gS_fL, gA_sS, gA_sA, gA_sL, gA_fA, gA_fL, gL_sS, gL_sA, gL_sL, gL_fA, gL_fL, reduceIte, Nat.reduceEqDiff, jupd, jupdL] using h2'
      · simpa only [RV, gS_sS, gS_sA, gS_sL, gS_fA, gS_fL, gA_sS, gA_sA, gA_sL, gA_fA, gA_fL, gL_sS, gL_sA, gL_sL, gL_fA, gL_fL, reduceIte, Nat.reduceEqDiff, jupd, jupdL] using h3
      · simpa only [RY, gS_sS, gS_sA, gS_sL, gS_fA, gS_fL, gA_sS, gA_sA, gA_sL, gA_fA, gA_fL, gL_sS, gL_sA, gL_sL, gL_fA, gL_fL, reduceIte, Nat.reduceEqDiff, jupd, jupdL] using h4
      · simpa only [RLf, gS_sS, gS_sA, gS_sL, gS_fA, gS_fL, gA_sS, gA_sA, gA_sL, gA_fA, gA_fL, gL_sS, gL_sA, gL_sL, gL_fA, gL_fL, reduceIte, Nat.reduceEqDiff, jupd, jupdL] using h5
      · simpa only [RS, gS_sS, gS_sA, gS_sL, gS_fA, gS_fL, gA_sS, gA_sA, gA_sL, gA_fA, gA_fL, gL_sS, gL_sA, gL_sL, gL_fA, gL_fL, reduceIte, Nat.reduceEqDiff, jupd, jupdL] using h6
      · simpa only [RSm, gS_sS, gS_sA, gS_sL, gS_fA, gS_fL, gA_sS, gA_sA, gA_sL, gA_fA, gA_fL, gL_sS, gL_sA, gL_sL, gL_fA, gL_fL, reduceIte, Nat.reduceEqDiff, jupd, jupdL] using h7
      · simpa only [RDw, gS_sS, gS_sA, gS_sL, gS_fA, gS_fL, gA_sS, gA_sA, gA_sL, gA_fA, gA_fL, gL_sS, gL_sA, gL_sL, gL_fA, gL_fL, reduceIte, Nat.reduceEqDiff, jupd, jupdL] using h8
      · simpa only [RD, rl, gS_sS, gS_sA, gS_sL, gS_fA, gS_fL, gA_sS, gA_sA, gA_sL, gA_fA, gA_fL, gL_sS, gL_sA, gL_sL, gL_fA, gL_fL, reduceIte, Nat.reduceEqDiff, jupd, jupdL] using h9'
      · intro e' he'
        simp only [gS_sS, gS_sA, gS_sL, gS_fA, gS_fL, gA_sS, gA_sA, gA_sL, gA_fA, gA_fL, gL_sS, gL_sA, gL_sL, gL_fA, gL_fL, reduceIte, Nat.reduceEqDiff, jupd, jupdL]
        by_cases x : e' = e
        · simp only [if_pos x]
          exact Or.inr v0
        · simp only [if_neg x]
          exact h10 e' he'
      · simpa only [RK, gS_sS, gS_sA, gS_sL, gS_fA, gS_fL, gA_sS, gA_sA, gA_sL, gA_fA, gA_fL, gL_sS, gL_sA, gL_sL, gL_fA, gL_fL, reduceIte, Nat.reduceEqDiff, jupd, jupdL] using h11
      · simpa only [Go, gS_sS, gS_sA, gS_sL, gS_fA, gS_fL, gA_sS, gA_sA, gA_sL, gA_fA, gA_fL, gL_sS, gL_sA, gL_sL, gL_fA, gL_fL, reduceIte, Nat.reduceEqDiff, jupd, jupdL] using hgo
    · have hne := hve.ne0 hR3
      have hkp := hve.kpos
      refine ⟨sS (sS σ 4 1) 10 (nI a), sS (sS (sS τ 5 1) 11 (nI a)) 4 1, 0, fun K hK => ?_, fun K hK => ?_, ⟨nC, nP, m, nR, nCe, nQ, pr, RG_sS (RG_sS (RG_r hG (by decide)) (by decide) (by decide)) (by decide) (by decide), RR_stop hR 1 _ 1 _ 1, Or.inr ?_⟩, Or.inl rfl⟩
      · unfold w_X4_goEnd
        rw [nI_clamp (show a < 2 ^ 31 by omega), heC, nI_clamp (show e < 2 ^ 31 by omega)]
        exact ⟨hai, jbr rfl ⟨hei, jbf (fun z => hne ((lgc0 _ _).mp z)) hK⟩⟩
      · unfold w_X10_ends
        rw [nI_clamp (show p < 2 ^ 31 by omega), h14, h15, nI_clamp (show a < 2 ^ 31 by omega), he, nI_clamp (show e < 2 ^ 31 by omega), i30, nI_clamp (show 3 * p < 2 ^ 31 by omega)]
        exact ⟨hpi, hai, hpi, jbr rfl ⟨hei, jbf (Int32.not_le.mpr hkp.1) ⟨hpi, hK⟩⟩⟩
      · unfold Hlt
        simp only [gS_sS, gS_sA, gS_sL, gS_fA, gS_fL, gA_sS, gA_sA, gA_sL, gA_fA, gA_fL, gL_sS, gL_sA, gL_sL, gL_fA, gL_fL, reduceIte, Nat.reduceEqDiff, jupd, jupdL]
        exact ⟨trivial, trivial, by decide, trivial⟩
  · have hne : ¬ nI c = 0 := nI_ne0 (by omega) (by omega)
    refine ⟨_, _, 1, fun K hK => ?_, fun K hK => ?_, ⟨nC, nP, m, nR, nCe, nQ, pr, RG_sS hG (by decide) (by decide), RR_stray hR, Or.inl (Go_s hgo (by decide) (by decide) (by decide) (by decide) (by decide))⟩, Or.inr rfl⟩
    · unfold w_X4_goEnd
      exact ⟨hai, jbf hne hK⟩
    · unfold w_X10_ends
      rw [nI_clamp (show p < 2 ^ 31 by omega), h14, h15]
      exact ⟨hpi, hai, hpi, jbf hne hK⟩
