/-! ===== two runs side by side ===== -/
def NtC (σ σ' : St) : Prop := (∀ k, gS σ' k = gS σ k) ∧ (∀ k, gA σ' k = gA σ k) ∧ (∀ k, 1 < k → gL σ' k = gL σ k)
def NtM (τ τ' : St) : Prop := (∀ k, gS τ' k = gS τ k) ∧ (∀ k, k < 37 → gA τ' k = gA τ k)
theorem RG.nt {nA nW nT : Nat} {σ τ σ' τ' : St} (h : RG nA nW nT σ τ) (hC : NtC σ σ') (hM : NtM τ τ') : RG nA nW nT σ' τ' := by
  obtain ⟨cS, cA, cL⟩ := hC
  obtain ⟨mS, mA⟩ := hM
  unfold RG prm wl at h ⊢
  simp only [cS, cA, mS, mA 0 (by decide), mA 1 (by decide), mA 2 (by decide), mA 3 (by decide), mA 4 (by decide), mA 5 (by decide), mA 6 (by decide), mA 7 (by decide), mA 8 (by decide), mA 9 (by decide)]
  exact h
theorem RO.nt {nA : Nat} {σ τ σ' τ' : St} (h : RO nA σ τ) (hC : NtC σ σ') (hM : NtM τ τ') : RO nA σ' τ' := by
  obtain ⟨h03, hz, hO⟩ := h
  obtain ⟨cS, cA, cL⟩ := hC
  obtain ⟨mS, mA⟩ := hM
  refine ⟨by rw [cS 0, mS 3]; exact h03, by rw [cS 0]; exact hz, fun h0 => ?_⟩
  rw [cS 0] at h0
  obtain ⟨nC, nP, m, hd, nR, nCe, nQ, o1, o2, o3, o4, o5, o6, o7, o8, o9, o10, o11, o12, o13, o14, o15, o16, o17, o22⟩ := hO h0
  refine ⟨nC, nP, m, hd, nR, nCe, nQ, ?_, ?_, ?_, ?_, ?_, ?_, ?_, ?_, o9, o10, ?_, ?_, ?_, ?_, ?_, ?_, ?_, ?_⟩
  · rw [cS 4, mS 5]; exact o1
  · rw [cS 7, mS 8]; exact o2
  · rw [cS 10, mS 11]; exact o3
  · rw [cS 14]; exact o4
  · rw [mS 12]; exact o5
  · rw [mS 14]; exact o6
  · rw [cS 17]; exact o7
  · rw [cS 18]; exact o8
  · rw [mS 13]; exact o11
  · rw [mA 16 (by decide)]; exact o12
  · unfold RLf at o13 ⊢
    rw [cS 15, mA 16 (by decide), mA 17 (by decide)]; exact o13
  · unfold RS at o14 ⊢
    rw [cS 12, cS 13, mS 15, mS 16, cA 13, cA 14, cA 15, cL 3 (by decide), mA 25 (by decide), mA 26 (by decide), mA 27 (by decide), mA 28 (by decide), mA 29 (by decide), mA 30 (by decide), mA 31 (by decide)]
    exact o14
  · unfold RDw at o15 ⊢
    rw [mS 17, cS 11, mA 32 (by decide)]; exact o15
  · unfold RE at o16 ⊢
    rw [cL 2 (by decide), mA 34 (by decide), mA 35 (by decide), mA 36 (by decide)]; exact o16
  · unfold RK0 at o17 ⊢
    rw [cS 5, cS 6, cS 8, cS 9, mS 6, mS 7, mS 9, mS 10, cA 12, mA 23 (by decide)]
    exact o17
  · rw [mA 27 (by decide)]
    exact o22
/-- one run's notes, on both sides -/
def NR (nA : Nat) (A : Nat → Int64) (P : Nat → Int32) : Prop := (∀ i, i < 6 → A i = (P i).toInt64) ∧ (∀ i, 6 ≤ i → i < 10 → A i = 0) ∧ (∀ e, e < 10 → cvr (A (10 + e)) (P (6 + 3 * e + 0)) (P (6 + 3 * e + 1)) (P (6 + 3 * e + 2))) ∧ (∀ a, a < 80 → A (20 + a) = (P (36 + a)).toInt64) ∧ (∀ a, nA ≤ a → a < 80 → P (36 + a) = 0)
theorem nr_mk {nA nR nCe : Nat} {σ τ : St} {A : Nat → Int64} {P : Nat → Int32} (hS : RS nR nCe σ τ) (hE : RE nR σ τ) (hK : RK0 σ τ) (h5 : gS σ 4 = gS τ 5) (hz : ∀ a, nA ≤ a → a < 80 → gA τ 23 a = 0)
    (c0 : A 0 = (gS σ 4).toInt64) (c1 : A 1 = (gS σ 5).toInt64) (c2 : A 2 = (gS σ 15).toInt64) (c3 : A 3 = (gS σ 11).toInt64) (c4 : A 4 = (gS σ 8).toInt64) (c5 : A 5 = (gS σ 9).toInt64) (c6 : ∀ i, 6 ≤ i → i < 10 → A i = 0) (c7 : ∀ e, e < 10 → A (10 + e) = cvl σ (gL σ 2 e)) (c8 : ∀ a, a < 80 → A (20 + a) = (gA σ 12 a).toInt64)
    (m0 : P 0 = gS τ 5) (m1 : P 1 = gS τ 6) (m2 : P 2 = gS σ 15) (m3 : P 3 = gS σ 11) (m4 : P 4 = gS τ 9) (m5 : P 5 = gS τ 10) (m6 : ∀ e j, e < 10 → j < 3 → P (6 + 3 * e + j) = tl τ e j) (m7 : ∀ a, a < 80 → P (36 + a) = gA τ 23 a) : NR nA A P := by
  obtain ⟨k1, k2, k3, k4, k5⟩ := hK
  refine ⟨fun i hi => ?_, c6, fun e he => ?_, fun a ha => ?_, fun a h1 h2 => ?_⟩
  · rcases (show i = 0 ∨ i = 1 ∨ i = 2 ∨ i = 3 ∨ i = 4 ∨ i = 5 by omega) with rfl | rfl | rfl | rfl | rfl | rfl
    · rw [c0, m0, h5]
    · rw [c1, m1, k1]
    · rw [c2, m2]
    · rw [c3, m3]
    · rw [c4, m4, k3]
    · rw [c5, m5, k4]
  · rw [c7 e he, m6 e 0 he (by decide), m6 e 1 he (by decide), m6 e 2 he (by decide)]
    exact cvr_of hS (hE e he)
  · rw [c8 a ha, m7 a ha, k5 a ha]
  · rw [m7 a h2, hz a h1 h2]
def CMP (σ : St) (r : Int32) (i : Nat) : Prop := ∀ K : Int32 → St → Prop, K r σ → ∃ n : Nat, w_X9_firstDifference_41 K n σ 100 (nI i)
theorem cmp_step {σ : St} {r : Int32} {i : Nat} (hi : i < 100) (e : gL σ 0 i = gL σ 1 i) (h : CMP σ r (i + 1)) : CMP σ r i := by
  intro K hK
  obtain ⟨n, hn⟩ := h K hK
  refine ⟨n + 1, ?_⟩
  show b_X9_firstDifference_41 (w_X9_firstDifference_41 K n) K σ 100 (nI i)
  unfold b_X9_firstDifference_41
  rw [nI_clamp (show i < 2 ^ 31 by omega), nI_1]
  exact jbf (nI_ge (b := 100) (by omega) (by decide)) ⟨vp_in_nI (by omega) (by decide), vp_in_nI (by omega) (by decide), jbr ((lgc0 _ _).mpr e) hn⟩
theorem cmp_hit {σ : St} {i : Nat} (hi : i < 100) (e : ¬ gL σ 0 i = gL σ 1 i) : CMP σ (nI i) i := by
  intro K hK
  refine ⟨1, ?_⟩
  show b_X9_firstDifference_41 (w_X9_firstDifference_41 K 0) K σ 100 (nI i)
  unfold b_X9_firstDifference_41
  rw [nI_clamp (show i < 2 ^ 31 by omega)]
  exact jbf (nI_ge (b := 100) (by omega) (by decide)) ⟨vp_in_nI (by omega) (by decide), vp_in_nI (by omega) (by decide), jbf (fun z => e ((lgc0 _ _).mp z)) hK⟩
theorem cmp_end {σ : St} : ∀ (d i : Nat), i + d = 100 → (∀ k, i ≤ k → k < 100 → gL σ 0 k = gL σ 1 k) → CMP σ (-1) i := by
  intro d
  induction d with
  | zero =>
    intro i hi _ K hK
    refine ⟨1, ?_⟩
    show b_X9_firstDifference_41 (w_X9_firstDifference_41 K 0) K σ 100 (nI i)
    unfold b_X9_firstDifference_41
    exact jbr (nI_le (a := 100) (by omega) (by omega)) hK
  | succ d ih =>
    intro i hi h
    exact cmp_step (by omega) (h i (by omega) (by omega)) (ih (i + 1) (by omega) (fun k h1 h2 => h k (by omega) h2))
/-- both runs are DONE: every figure is asked -/
theorem fd_done {σ : St} {r : Int32} (h0 : gL σ 0 0 = 0) (h1 : gL σ 1 0 = 0) (h : CMP σ r 0) : ∀ K : Int32 → St → Prop, K r σ → w_X9_firstDifference σ K := by
  intro K hK
  unfold w_X9_firstDifference b_X9_firstDifference_27
  exact jbm ((lgc0 _ _).mpr h0) (jbm ((lgc0 _ _).mpr h1) (jbf (by decide) (h K hK)))
/-- not both are DONE: how they ended alone is asked -/
theorem fd_one {σ : St} {K : Int32 → St → Prop} (h : ¬ (gL σ 0 0 = 0 ∧ gL σ 1 0 = 0)) (hk : ∃ n : Nat, w_X9_firstDifference_41 K n σ 1 0) : w_X9_firstDifference σ K := by
  unfold w_X9_firstDifference b_X9_firstDifference_27
  exact ⟨fun _ => jbr rfl hk, fun z0 => ⟨fun _ => jbr rfl hk, fun z1 => absurd ⟨(lgc0 _ _).mp z0, (lgc0 _ _).mp z1⟩ h⟩⟩
theorem one_same {σ : St} {K : Int32 → St → Prop} (e : gL σ 0 0 = gL σ 1 0) (hK : K (-1) σ) : ∃ n : Nat, w_X9_firstDifference_41 K n σ 1 0 := by
  have v0 : vp_in (nI 0) 100 := vp_in_nI (by decide) (by decide)
  refine ⟨2, ?_⟩
  show b_X9_firstDifference_41 (w_X9_firstDifference_41 K 1) K σ 1 0
  unfold b_X9_firstDifference_41
  refine jbf (by decide) ⟨v0, v0, jbr ((lgc0 _ _).mpr e) ?_⟩
  show b_X9_firstDifference_41 (w_X9_firstDifference_41 K 0) K σ 1 (0 + 1)
  unfold b_X9_firstDifference_41
  exact jbr (by decide) hK
theorem one_diff {σ : St} {K : Int32 → St → Prop} (e : ¬ gL σ 0 0 = gL σ 1 0) (hK : K 0 σ) : ∃ n : Nat, w_X9_firstDifference_41 K n σ 1 0 := by
  have v0 : vp_in (nI 0) 100 := vp_in_nI (by decide) (by decide)
  refine ⟨1, ?_⟩
  show b_X9_firstDifference_41 (w_X9_firstDifference_41 K 0) K σ 1 0
  unfold b_X9_firstDifference_41
  exact jbf (by decide) ⟨v0, v0, jbf (fun z => e ((lgc0 _ _).mp z)) hK⟩
def M156 (τ : St) (r : Int32) (a : Nat) : Prop := ∀ K : Int32 → St → Prop, K r τ → ∃ n : Nat, w_X10_beside_156 K n τ (nI a)
def M112 (τ : St) (r : Int32) (j : Nat) : Prop := ∀ K : Int32 → St → Prop, K r τ → ∃ n : Nat, w_X10_beside_112 K n τ (nI j)
def M75 (τ : St) (r : Int32) (i : Nat) : Prop := ∀ K : Int32 → St → Prop, K r τ → ∃ n : Nat, w_X10_beside_75 K n τ (nI i)
theorem m112_step {τ : St} {r : Int32} {j : Nat} (hj : j < 36) (e : gA τ 37 j = gA τ 38 j) (h : M112 τ r (j + 1)) : M112 τ r j := by
  intro K hK
  obtain ⟨n, hn⟩ := h K hK
  refine ⟨n + 1, ?_⟩
  show b_X10_beside_112 (w_X10_beside_112 K n) K τ (nI j)
  unfold b_X10_beside_112
  rw [nI_clamp (show j < 2 ^ 31 by omega), nI_1]
  exact jbf (nI_ge (b := 36) (by omega) (by decide)) ⟨vp_in_nI (by omega) (by decide), vp_in_nI (by omega) (by decide), jbr e hn⟩
theorem third_of : ∀ j : Fin 30, 10 + ((nI (6 + j.val) - 6) / 3) = nI (10 + j.val / 3) := by decide
theorem m112_hit {τ : St} {e k : Nat} (he : e < 10) (hk : k < 3) (h : ¬ gA τ 37 (6 + 3 * e + k) = gA τ 38 (6 + 3 * e + k)) : M112 τ (nI (10 + e)) (6 + 3 * e + k) := by
  intro K hK
  refine ⟨1, ?_⟩
  show b_X10_beside_112 (w_X10_beside_112 K 0) K τ (nI (6 + 3 * e + k))
  unfold b_X10_beside_112
  have ht := third_of ⟨3 * e + k, by omega⟩
  rw [show (3 * e + k) / 3 = e by omega, show 6 + (3 * e + k) = 6 + 3 * e + k by omega] at ht
  rw [nI_clamp (show 6 + 3 * e + k < 2 ^ 31 by omega), ht]
  exact jbf (nI_ge (b := 36) (by omega) (by decide)) ⟨vp_in_nI (by omega) (by decide), vp_in_nI (by omega) (by decide), jbf h hK⟩
theorem m75_step {τ : St} {r : Int32} {j : Nat} (hj : j < 6) (e : gA τ 37 j = gA τ 38 j) (h : M75 τ r (j + 1)) : M75 τ r j := by
  intro K hK
  obtain ⟨n, hn⟩ := h K hK
  refine ⟨n + 1, ?_⟩
  show b_X10_beside_75 (w_X10_beside_75 K n) K τ (nI j)
  unfold b_X10_beside_75
  rw [nI_clamp (show j < 2 ^ 31 by omega), nI_1]
  exact jbf (nI_ge (b := 6) (by omega) (by decide)) ⟨vp_in_nI (by omega) (by decide), vp_in_nI (by omega) (by decide), jbr e hn⟩
theorem m75_hit {τ : St} {j : Nat} (hj : j < 6) (e : ¬ gA τ 37 j = gA τ 38 j) : M75 τ (nI j) j := by
  intro K hK
  refine ⟨1, ?_⟩
  show b_X10_beside_75 (w_X10_beside_75 K 0) K τ (nI j)
  unfold b_X10_beside_75
  rw [nI_clamp (show j < 2 ^ 31 by omega)]
  exact jbf (nI_ge (b := 6) (by omega) (by decide)) ⟨vp_in_nI (by omega) (by decide), vp_in_nI (by omega) (by decide), jbf e hK⟩
theorem cm156 {nA : Nat} {σ τ : St} (hA : nA ≤ 80) (h0 : gS τ 0 = nI nA) (hN : NR nA (gL σ 0) (gA τ 37)) (hN2 : NR nA (gL σ 1) (gA τ 38)) : ∀ (d a : Nat), a + d = nA → ∃ r : Int32, CMP σ r (20 + a) ∧ M156 τ r a := by
  obtain ⟨p1, p2, p3, p4, p5⟩ := hN
  obtain ⟨q1, q2, q3, q4, q5⟩ := hN2
  intro d
  induction d with
  | zero =>
    intro a ha
    refine ⟨-1, cmp_end (80 - a) (20 + a) (by omega) (fun k h1 h2 => ?_), fun K hK => ⟨1, ?_⟩⟩
    · obtain ⟨b, rfl⟩ : ∃ b, k = 20 + b := ⟨k - 20, by omega⟩
      rw [p4 b (by omega), q4 b (by omega), p5 b (by omega) (by omega), q5 b (by omega) (by omega)]
    · show b_X10_beside_156 (w_X10_beside_156 K 0) K τ (nI a)
      unfold b_X10_beside_156
      exact jbr (by rw [h0]; exact nI_le (by omega) (by omega)) hK
  | succ d ih =>
    intro a ha
    have e36 : (36 : Int32) + nI a = nI (36 + a) := by rw [show (36 : Int32) = nI 36 from rfl, nI_add]
    have e20 : (20 : Int32) + nI a = nI (20 + a) := by rw [show (20 : Int32) = nI 20 from rfl, nI_add]
    by_cases e : gA τ 37 (36 + a) = gA τ 38 (36 + a)
    · obtain ⟨r, r1, r2⟩ := ih (a + 1) (by omega)
      refine ⟨r, cmp_step (by omega) (by rw [p4 a (by omega), q4 a (by omega), e]) r1, fun K hK => ?_⟩
      obtain ⟨n, hn⟩ := r2 K hK
      refine ⟨n + 1, ?_⟩
      show b_X10_beside_156 (w_X10_beside_156 K n) K τ (nI a)
      unfold b_X10_beside_156
      rw [e36, nI_clamp (show 36 + a < 2 ^ 31 by omega), nI_1]
      exact jbf (by rw [h0]; exact nI_ge (by omega) (by omega)) ⟨vp_in_nI (by omega) (by decide), vp_in_nI (by omega) (by decide), jbr e hn⟩
    · refine ⟨nI (20 + a), cmp_hit (by omega) (by rw [p4 a (by omega), q4 a (by omega)]; exact fun z => e (i64_inj z)), fun K hK => ⟨1, ?_⟩⟩
      show b_X10_beside_156 (w_X10_beside_156 K 0) K τ (nI a)
      unfold b_X10_beside_156
      rw [e36, e20, nI_clamp (show 36 + a < 2 ^ 31 by omega)]
      exact jbf (by rw [h0]; exact nI_ge (by omega) (by omega)) ⟨vp_in_nI (by omega) (by decide), vp_in_nI (by omega) (by decide), jbf e hK⟩
theorem cm112 {nA : Nat} {σ τ : St} (hA : nA ≤ 80) (h0 : gS τ 0 = nI nA) (hN : NR nA (gL σ 0) (gA τ 37)) (hN2 : NR nA (gL σ 1) (gA τ 38)) : ∀ (d e : Nat), e + d = 10 → ∃ r : Int32, CMP σ r (10 + e) ∧ M112 τ r (6 + 3 * e) := by
  intro d
  induction d with
  | zero =>
    intro e he
    have : e = 10 := by omega
    subst this
    obtain ⟨r, r1, r2⟩ := cm156 hA h0 hN hN2 nA 0 (by omega)
    refine ⟨r, r1, fun K hK => ⟨1, ?_⟩⟩
    show b_X10_beside_112 (w_X10_beside_112 K 0) K τ (nI 36)
    unfold b_X10_beside_112
    exact jbr (by decide) (r2 K hK)
  | succ d ih =>
    intro e he
    have hiff := cvr_iff (hN.2.2.1 e (by omega)) (hN2.2.2.1 e (by omega))
    by_cases e0 : gA τ 37 (6 + 3 * e + 0) = gA τ 38 (6 + 3 * e + 0)
    · by_cases e1 : gA τ 37 (6 + 3 * e + 1) = gA τ 38 (6 + 3 * e + 1)
      · by_cases e2 : gA τ 37 (6 + 3 * e + 2) = gA τ 38 (6 + 3 * e + 2)
        · obtain ⟨r, r1, r2⟩ := ih (e + 1) (by omega)
          exact ⟨r, cmp_step (by omega) (hiff.mpr ⟨e0, e1, e2⟩) r1, m112_step (by omega) e0 (m112_step (by omega) e1 (m112_step (by omega) e2 r2))⟩
        · exact ⟨nI (10 + e), cmp_hit (by omega) (fun z => e2 (hiff.mp z).2.2), m112_step (by omega) e0 (m112_step (by omega) e1 (m112_hit (by omega) (by decide) e2))⟩
      · exact ⟨nI (10 + e), cmp_hit (by omega) (fun z => e1 (hiff.mp z).2.1), m112_step (by omega) e0 (m112_hit (by omega) (by decide) e1)⟩
    · exact ⟨nI (10 + e), cmp_hit (by omega) (fun z => e0 (hiff.mp z).1), m112_hit (by omega) (by decide) e0⟩
theorem cm75 {nA : Nat} {σ τ : St} (hA : nA ≤ 80) (h0 : gS τ 0 = nI nA) (hN : NR nA (gL σ 0) (gA τ 37)) (hN2 : NR nA (gL σ 1) (gA τ 38)) : ∀ (d i : Nat), i + d = 6 → ∃ r : Int32, CMP σ r i ∧ M75 τ r i := by
  intro d
  induction d with
  | zero =>
    intro i hi
    have : i = 6 := by omega
    subst this
    obtain ⟨r, r1, r2⟩ := cm112 hA h0 hN hN2 10 0 (by omega)
    have hz : ∀ k, 6 ≤ k → k < 10 → gL σ 0 k = gL σ 1 k := fun k h1 h2 => by rw [hN.2.1 k h1 h2, hN2.2.1 k h1 h2]
    refine ⟨r, cmp_step (by decide) (hz 6 (by decide) (by decide)) (cmp_step (by decide) (hz 7 (by decide) (by decide)) (cmp_step (by decide) (hz 8 (by decide) (by decide)) (cmp_step (by decide) (hz 9 (by decide) (by decide)) r1))), fun K hK => ⟨1, ?_⟩⟩
    show b_X10_beside_75 (w_X10_beside_75 K 0) K τ (nI 6)
    unfold b_X10_beside_75
    exact jbr (by decide) (r2 K hK)
  | succ d ih =>
    intro i hi
    by_cases e : gA τ 37 i = gA τ 38 i
    · obtain ⟨r, r1, r2⟩ := ih (i + 1) (by omega)
      exact ⟨r, cmp_step (by omega) (by rw [hN.1 i (by omega), hN2.1 i (by omega), e]) r1, m75_step (by omega) e r2⟩
    · exact ⟨nI i, cmp_hit (by omega) (by rw [hN.1 i (by omega), hN2.1 i (by omega)]; exact fun z => e (i64_inj z)), m75_hit (by omega) e⟩
