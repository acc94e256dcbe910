/-! ===== the questions ===== -/
theorem RG_s0 {nA nW nT : Nat} {σ τ : St} {v : Int32} (h : RG nA nW nT σ τ) : RG nA nW nT (sS σ 0 v) τ := by
  unfold RG prm wl at h ⊢
  simp only [gS_sS, gS_sA, gS_sL, gS_fA, gS_fL, gA_sS, gA_sA, gA_sL, gA_fA, gA_fL, gL_sS, gL_sA, gL_sL, gL_fA, gL_fL, reduceIte, Nat.reduceEqDiff, jupd, jupdL]
  exact h
theorem fuel_case (a : Int32) : (∀ (σ τ : St) (K K' : Int32 → St → Prop), (K 0 σ → w_X9_isFuel σ a K) ∧ (K' 0 τ → w_X10_in τ a 0 4000 K')) ∨ ∃ F, F ≤ 4000 ∧ a = nI F ∧ ∀ (σ τ : St) (K K' : Int32 → St → Prop), (K 1 σ → w_X9_isFuel σ a K) ∧ (K' 1 τ → w_X10_in τ a 0 4000 K') := by
  by_cases h1 : a < 0
  · exact Or.inl (fun σ τ K K' => ⟨fun h => jbr h1 h, fun h => ev_in_lo h1 h⟩)
  · by_cases h2 : 4000 < a
    · exact Or.inl (fun σ τ K K' => ⟨fun h => jbf h1 (jbr h2 h), fun h => ev_in_hi h1 h2 h⟩)
    · obtain ⟨F, hF, e⟩ := nI_of2 (M := 4000) (n := 4000) (by decide) h1 (Int32.not_lt.mp h2)
      exact Or.inr ⟨F, hF, e, fun σ τ K K' => ⟨fun h => jbf h1 (jbf h2 h), fun h => ev_in_ok h1 h2 h⟩⟩
theorem RZ.ran {nF : Nat} {ax : Nat → Int32} {σ σ' τ' : St} (h : RZ σ) (hr : Ran nF (fun i => if i < 100 then gL (sS σ 0 1) 0 i else gL (sS σ 0 1) 1 (i - 100)) ax σ' τ') : RZ σ' := by
  intro i h1 h2
  have e1 := congrFun hr.2.2.2.1 i
  have e2 := congrFun hr.2.2.2.1 (100 + i)
  simp only [gL_sS, if_pos (show i < 100 by omega), if_neg (show ¬ 100 + i < 100 by omega), show 100 + i - 100 = i by omega] at e1 e2
  rw [e1, e2]
  exact h i h1 h2
theorem RZ.gl {σ σ' : St} (h : RZ σ) (hl : ∀ k, gL σ' k = gL σ k) : RZ σ' := by
  intro i h1 h2
  rw [hl, hl]
  exact h i h1 h2
theorem st_run (σ τ : St) (a1 a2 : Int32) (h : Rel σ τ) : w_X9_run σ a1 a2 (fun r σ2 => w_X10_run τ a1 a2 (fun r2 τ2 => r = r2 ∧ Rel σ2 τ2)) := by
  have h' := h
  obtain ⟨hZ, nA, nW, nT, hG, hO⟩ := h
  unfold w_X9_run w_X10_run
  rcases fuel_case a2 with hf | ⟨F, hF, rfl, hf⟩
  · refine (hf σ τ _ (fun _ _ => True)).1 (jbm rfl ?_)
    exact (hf σ τ (fun _ _ => True) _).2 (jbm rfl ⟨rfl, h'⟩)
  · obtain ⟨σ', τ', v, z1, z2, z3, -⟩ := sim_run (s := a1) (F := F) (RG_s0 (v := 1) hG) (by simp only [gS_sS, gS_sA, gS_sL, gS_fA, gS_fL, gA_sS, gA_sA, gA_sL, gA_fA, gA_fL, gL_sS, gL_sA, gL_sL, gL_fA, gL_fL, reduceIte, Nat.reduceEqDiff, jupd, jupdL]) hF
    refine (hf σ τ _ (fun _ _ => True)).1 (jbn (by decide) (z1 _ ?_))
    exact (hf σ τ (fun _ _ => True) _).2 (jbn (by decide) (z2 _ ⟨rfl, hZ.ran z3.2.2, nA, nW, nT, z3.1, z3.2.1⟩))
theorem st_ticks (σ τ : St) (a1 : Int32) (h : Rel σ τ) : w_X9_ticks σ a1 (fun r σ2 => w_X10_ticks τ a1 (fun r2 τ2 => r = r2 ∧ Rel σ2 τ2)) := by
  have h' := h
  obtain ⟨hZ, nA, nW, nT, hG, hO⟩ := h
  unfold w_X9_ticks w_X10_ticks
  rcases fuel_case a1 with hf | ⟨F, hF, rfl, hf⟩
  · refine (hf σ τ _ (fun _ _ => True)).1 (jbm rfl ?_)
    exact (hf σ τ (fun _ _ => True) _).2 (jbm rfl ⟨rfl, h'⟩)
  · obtain ⟨σ', τ', v, z1, z2, z3⟩ := sim_ticks (F := F) (RG_s0 (v := 1) hG) (by simp only [gS_sS, gS_sA, gS_sL, gS_fA, gS_fL, gA_sS, gA_sA, gA_sL, gA_fA, gA_fL, gL_sS, gL_sA, gL_sL, gL_fA, gL_fL, reduceIte, Nat.reduceEqDiff, jupd, jupdL]) hF
    refine (hf σ τ _ (fun _ _ => True)).1 (jbn (by decide) (z1 _ ?_))
    exact (hf σ τ (fun _ _ => True) _).2 (jbn (by decide) (z2 _ ⟨rfl, hZ.ran z3.2.2, nA, nW, nT, z3.1, z3.2.1⟩))
/-- tokens left, readers waiting: the reference counts them -/
theorem lp_left {τ : St} {nP : Nat} {K : Int32 → St → Prop} (hP : nP ≤ 3000) (h13 : gS τ 13 = nI nP) (h16 : ∀ p, p < nP → isN (gA τ 16 p) 8) (hk : K (nI (sm (fun p => if gA τ 17 p = 0 then pop3 (uv (gA τ 16 p)) else 0) nP)) τ) : ∀ (d w f : Nat), w + d = nP → d < f → w_X10_left_4 K f τ (nI (sm (fun p => if gA τ 17 p = 0 then pop3 (uv (gA τ 16 p)) else 0) w)) (nI w) := by
  intro d
  induction d with
  | zero =>
    intro w f hw hf
    obtain ⟨f, rfl⟩ : ∃ z, f = z + 1 := ⟨f - 1, by omega⟩
    have : w = nP := by omega
    subst this
    show b_X10_left_4 (w_X10_left_4 K f) K τ _ (nI w)
    unfold b_X10_left_4
    exact jbr (by rw [h13]; exact nI_le (Nat.le_refl _) (by omega)) hk
  | succ d ih =>
    intro w f hw hf
    obtain ⟨f, rfl⟩ : ∃ z, f = z + 1 := ⟨f - 1, by omega⟩
    show b_X10_left_4 (w_X10_left_4 K f) K τ _ (nI w)
    unfold b_X10_left_4
    refine jbf (by rw [h13]; exact nI_ge (by omega) (by omega)) ?_
    have hnext := ih (w + 1) f (by omega) (by omega)
    have hwi : vp_in (nI w) 3000 := vp_in_nI (by omega) (by decide)
    obtain ⟨h, h8, eh⟩ := h16 w (by omega)
    have hs : sm (fun p => if gA τ 17 p = 0 then pop3 (uv (gA τ 16 p)) else 0) (w + 1) = sm (fun p => if gA τ 17 p = 0 then pop3 (uv (gA τ 16 p)) else 0) w + (if gA τ 17 w = 0 then pop3 (uv (gA τ 16 w)) else 0) := rfl
    rw [hs] at hnext
    by_cases e : gA τ 17 w = 0
    · rw [if_pos e, eh, uv_of (by omega)] at hnext
      have step : ∀ (n s j : Nat), j < 3 → w_X10_left_14 (w_X10_left_4 K f) K n τ (nI (s + h / 2 ^ j % 2)) (nI w) (nI (j + 1)) → w_X10_left_14 (w_X10_left_4 K f) K (n + 1) τ (nI s) (nI w) (nI j) := fun n s j hj hb => by
        show b_X10_left_14 (w_X10_left_4 K f) (w_X10_left_14 (w_X10_left_4 K f) K n) K τ (nI s) (nI w) (nI j)
        unfold b_X10_left_14
        rw [nI_clamp (show w < 2 ^ 31 by omega), eh, bits_get h h8 j hj, nI_add, nI_1]
        refine jbf (nI_ge (b := 3) (by omega) (by decide)) ⟨hwi, jbm e ⟨hwi, fun x hx => ?_⟩⟩
        rw [hx, nI_1 j]
        exact hb
      refine ⟨4, ?_⟩
      refine step 3 _ 0 (by decide) (step 2 _ 1 (by decide) (step 1 _ 2 (by decide) ?_))
      show b_X10_left_14 (w_X10_left_4 K f) (w_X10_left_14 (w_X10_left_4 K f) K 0) K τ _ (nI w) (nI 3)
      unfold b_X10_left_14
      rw [nI_1]
      refine jbr (by decide) ?_
      rw [show ∀ x : Nat, x + h / 2 ^ 0 % 2 + h / 2 ^ 1 % 2 + h / 2 ^ 2 % 2 = x + pop3 h from fun x => by unfold pop3; omega]
      exact hnext
    · rw [if_neg e, Nat.add_zero] at hnext
      refine ⟨1, ?_⟩
      show b_X10_left_14 (w_X10_left_4 K f) (w_X10_left_14 (w_X10_left_4 K f) K 0) K τ _ (nI w) 0
      unfold b_X10_left_14
      rw [nI_clamp (show w < 2 ^ 31 by omega), nI_1]
      exact jbf (by decide) ⟨hwi, jbn e hnext⟩
theorem lp_wait {τ : St} {nQ : Nat} {K : Int32 → St → Prop} (hQ : nQ ≤ 3000) (h17 : gS τ 17 = nI nQ) (h32 : ∀ n, n < nQ → gA τ 32 n = -1 ∨ isN (gA τ 32 n) 2000) (hk : K (nI (sm (fun n => if gA τ 32 n = -1 then 0 else 1) nQ)) τ) : ∀ (d w f : Nat), w + d = nQ → d < f → w_X10_waiting_4 K f τ (nI (sm (fun n => if gA τ 32 n = -1 then 0 else 1) w)) (nI w) := by
  intro d
  induction d with
  | zero =>
    intro w f hw hf
    obtain ⟨f, rfl⟩ : ∃ z, f = z + 1 := ⟨f - 1, by omega⟩
    have : w = nQ := by omega
    subst this
    show b_X10_waiting_4 (w_X10_waiting_4 K f) K τ _ (nI w)
    unfold b_X10_waiting_4
    exact jbr (by rw [h17]; exact nI_le (Nat.le_refl _) (by omega)) hk
  | succ d ih =>
    intro w f hw hf
    obtain ⟨f, rfl⟩ : ∃ z, f = z + 1 := ⟨f - 1, by omega⟩
    show b_X10_waiting_4 (w_X10_waiting_4 K f) K τ _ (nI w)
    unfold b_X10_waiting_4
    have hnext := ih (w + 1) f (by omega) (by omega)
    have hs : sm (fun n => if gA τ 32 n = -1 then 0 else 1) (w + 1) = sm (fun n => if gA τ 32 n = -1 then 0 else 1) w + (if gA τ 32 w = -1 then 0 else 1) := rfl
    rw [hs] at hnext
    rw [nI_clamp (show w < 2 ^ 31 by omega), nI_1, show (0 : Int32) = nI 0 from rfl, nI_add, nI_1]
    refine jbf (by rw [h17]; exact nI_ge (by omega) (by omega)) ⟨vp_in_nI (by omega) (by decide), ?_⟩
    rcases h32 w (by omega) with e | ⟨b, hb, e⟩
    · rw [if_pos e] at hnext
      exact jbr (by rw [e]; decide) hnext
    · rw [if_neg (by rw [e]; exact nI_m1 (by omega))] at hnext
      exact jbf (by rw [e]; exact nI_pos (by omega)) hnext
theorem ev_left {τ σ : St} {nP : Nat} {K : Int32 → St → Prop} (hP : nP ≤ 3000) (h13 : gS τ 13 = nI nP) (h16 : ∀ p, p < nP → isN (gA τ 16 p) 8) (hL : RLf nP σ τ) (hk : K (gS σ 15) τ) : w_X10_left τ K := by
  rw [hL] at hk
  exact ⟨nP + 1, lp_left hP h13 h16 hk nP 0 (nP + 1) (by omega) (by omega)⟩
theorem ev_wait {τ σ : St} {nQ : Nat} {K : Int32 → St → Prop} (hQ : RDw nQ σ τ) (hk : K (gS σ 11) τ) : w_X10_waiting τ K := by
  rw [hQ.2.2.1] at hk
  exact ⟨nQ + 1, lp_wait hQ.2.1 hQ.1 hQ.2.2.2 hk nQ 0 (nQ + 1) (by omega) (by omega)⟩
theorem st_about (σ τ : St) (a1 : Int32) (h : Rel σ τ) : w_X9_about σ a1 (fun r σ2 => w_X10_about τ a1 (fun r2 τ2 => r = r2 ∧ Rel σ2 τ2)) := by
  have h' := h
  obtain ⟨hZ, nA, nW, nT, hG, h03, hz, hO⟩ := h
  unfold w_X9_about
  rcases hz with h0 | h0
  · refine jbr h0 ?_
    unfold w_X10_about
    exact jbm (h03.symm.trans h0) ⟨rfl, h'⟩
  · obtain ⟨nC, nP, m, hd, nR, nCe, nQ, o1, o2, o3, o4, o5, o6, o7, o8, o9, o10, o11, o12, o13, o14, o15, o16, ⟨o17, o18, o19, o20, o21⟩, o22⟩ := hO h0
    refine jbf (by rw [h0]; decide) ?_
    have h3 : ¬ gS τ 3 = 0 := by rw [← h03, h0]; decide
    unfold w_X4_figure
    refine ⟨fun c => ?_, fun n0 => ⟨fun c => ?_, fun n1 => ⟨fun c => ?_, fun n2 => ⟨fun c => ?_, fun n3 => ⟨fun c => ?_, fun n4 => ⟨fun c => ?_, fun n5 => ⟨fun c => ?_, fun n6 => ⟨fun c => ?_, fun n7 => ⟨fun c => ?_, fun n8 => ⟨fun c => ?_, fun n9 => ⟨fun c => ?_, fun n10 => ?_⟩⟩⟩⟩⟩⟩⟩⟩⟩⟩⟩
    · unfold w_X10_about
      exact jbn h3 (jbr c ⟨o1, h'⟩)
    · unfold w_X10_about
      exact jbn h3 (jbf n0 (jbr c ⟨o17, h'⟩))
    · unfold w_X10_about
      exact jbn h3 (jbf n0 (jbf n1 (jbr c ⟨o18, h'⟩)))
    · unfold w_X10_about
      exact jbn h3 (jbf n0 (jbf n1 (jbf n2 (jbr c ⟨o2, h'⟩))))
    · unfold w_X10_about
      exact jbn h3 (jbf n0 (jbf n1 (jbf n2 (jbf n3 (jbr c (ev_left o10 o11 o12 o13 ⟨rfl, h'⟩))))))
    · unfold w_X10_about
      exact jbn h3 (jbf n0 (jbf n1 (jbf n2 (jbf n3 (jbf n4 (jbr c (ev_wait o15 ⟨rfl, h'⟩)))))))
    · unfold w_X10_about
      exact jbn h3 (jbf n0 (jbf n1 (jbf n2 (jbf n3 (jbf n4 (jbf n5 (jbr c ⟨o19, h'⟩)))))))
    · unfold w_X10_about
      exact jbn h3 (jbf n0 (jbf n1 (jbf n2 (jbf n3 (jbf n4 (jbf n5 (jbf n6 (jbr c ⟨o20, h'⟩))))))))
    · unfold w_X10_about
      exact jbn h3 (jbf n0 (jbf n1 (jbf n2 (jbf n3 (jbf n4 (jbf n5 (jbf n6 (jbf n7 (jbr c ⟨by rw [o4, o5], h'⟩)))))))))
    · unfold w_X10_about
      exact jbn h3 (jbf n0 (jbf n1 (jbf n2 (jbf n3 (jbf n4 (jbf n5 (jbf n6 (jbf n7 (jbf n8 (jbr c ⟨o3, h'⟩))))))))))
    · unfold w_X5_size w_X10_about
      exact jbn h3 (jbf n0 (jbf n1 (jbf n2 (jbf n3 (jbf n4 (jbf n5 (jbf n6 (jbf n7 (jbf n8 (jbf n9 (jbr c ⟨by rw [o7, o8, o6, pk_sub (by omega)]; congr 1; omega, h'⟩)))))))))))
    · unfold w_X10_about
      exact jbn h3 (jbf n0 (jbf n1 (jbf n2 (jbf n3 (jbf n4 (jbf n5 (jbf n6 (jbf n7 (jbf n8 (jbf n9 (jbf n10 ⟨rfl, h'⟩)))))))))))
/-- an act's number, on both sides -/
theorem act_case {nA nW nT : Nat} {σ τ : St} (hG : RG nA nW nT σ τ) (a1 : Int32) : (∀ K K' : Int32 → St → Prop, (K 0 σ → w_X2_hasAct σ a1 K) ∧ (K' 0 τ → w_X10_isAct τ a1 K')) ∧ (∀ a, a < nA → ¬ a1 = nI a) ∨ ∃ a, a < nA ∧ a1 = nI a ∧ ∀ K K' : Int32 → St → Prop, (K 1 σ → w_X2_hasAct σ a1 K) ∧ (K' 1 τ → w_X10_isAct τ a1 K') := by
  have hA := hG.1
  have h1 := hG.2.2.2.1
  have h0 := hG.2.2.2.2.1
  rcases pk_ix a1 (n := nA) (by omega) with x | x | ⟨a, ha, x⟩
  · refine Or.inl ⟨fun K K' => ⟨fun h => jbr x h, fun h => ev_in_lo x h⟩, fun a ha e => ?_⟩
    rw [e] at x
    exact nI_pos (by omega) x
  · by_cases y : a1 < 0
    · refine Or.inl ⟨fun K K' => ⟨fun h => jbr y h, fun h => ev_in_lo y h⟩, fun a ha e => ?_⟩
      rw [e] at y
      exact nI_pos (by omega) y
    · refine Or.inl ⟨fun K K' => ⟨fun h => ?_, fun h => ?_⟩, fun a ha e => ?_⟩
      · unfold w_X2_hasAct
        rw [h1]
        exact jbf y (jbr x h)
      · obtain ⟨j, hj, e⟩ := nI_of y
        unfold w_X10_isAct
        rw [e] at x y ⊢
        rw [h0]
        exact ev_in_hi y (in_out ((nI_leI (by omega) hj).mp x) hj) h
      · rw [e] at x
        exact nI_ge ha (by omega) x
  · refine Or.inr ⟨a, ha, x, fun K K' => ⟨fun h => ?_, fun h => ?_⟩⟩
    · unfold w_X2_hasAct
      rw [h1, x]
      exact jbf (nI_pos (by omega)) (jbf (nI_ge ha (by omega)) h)
    · unfold w_X10_isAct
      rw [h0, x]
      exact ev_in_ok (nI_pos (by omega)) (in_in ha (by omega)) h
theorem st_fired (σ τ : St) (a1 : Int32) (h : Rel σ τ) : w_X9_fired σ a1 (fun r σ2 => w_X10_fired τ a1 (fun r2 τ2 => r = r2 ∧ Rel σ2 τ2)) := by
  have h' := h
  obtain ⟨hZ, nA, nW, nT, hG, h03, hz, hO⟩ := h
  have hA := hG.1
  unfold w_X9_fired w_X10_fired
  rcases hz with h0 | h0
  · exact jbr h0 (jbr (h03.symm.trans h0) ⟨rfl, h'⟩)
  · obtain ⟨nC, nP, m, hd, nR, nCe, nQ, o1, o2, o3, o4, o5, o6, o7, o8, o9, o10, o11, o12, o13, o14, o15, o16, ⟨o17, o18, o19, o20, o21⟩, o22⟩ := hO h0
    refine jbf (by rw [h0]; decide) ?_
    have h3 : ¬ gS τ 3 = 0 := by rw [← h03, h0]; decide
    rcases act_case hG a1 with ⟨ha, -⟩ | ⟨a, ha, rfl, hc⟩
    · refine (ha _ (fun _ _ => True)).1 (jbr rfl ?_)
      exact jbf h3 ((ha (fun _ _ => True) _).2 (jbr rfl ⟨rfl, h'⟩))
    · have hai : vp_in (nI a) 80 := vp_in_nI (by omega) (by decide)
      refine (hc _ (fun _ _ => True)).1 (jbf (by decide) ⟨hai, ?_⟩)
      refine jbf h3 ((hc (fun _ _ => True) _).2 (jbf (by decide) ⟨hai, ?_⟩))
      rw [nI_clamp (show a < 2 ^ 31 by omega)]
      exact ⟨o21 a (by omega), h'⟩
/-- what is told of a value -/
theorem told_val {nR nCe : Nat} {σ τ : St} {x : Int64} {k v of : Int32} (hS : RS nR nCe σ τ) (hv : (x = 0 ∧ k = 0) ∨ vr nR x k v of) (a : Int32) (ha : a = 0 ∨ a = 1 ∨ a = 2) : ∃ r : Int32, (∀ K : Int32 → St → Prop, K r σ → w_X4_describe σ x a K) ∧ (∀ K : Int32 → St → Prop, K r τ → w_X10_told1 τ k v of a K) := by
  have hR3 := hS.1
  unfold w_X4_describe w_X8_sortOf w_X10_told1
  rcases hv with ⟨rfl, rfl⟩ | hv
  · have e : (((0 : Int64).toUInt64 >>> ((40 : Int32).toInt64.toUInt64 &&& Int64.toUInt64 63)).toInt64).toInt32 = 0 := jsort_0
    rcases ha with rfl | rfl | rfl
    · refine ⟨0, fun K hK => jbr rfl ?_, fun K hK => jbm rfl hK⟩
      rw [e]; exact hK
    · exact ⟨-1, fun K hK => jbf (by decide) (jbr rfl (jbm lg00 hK)), fun K hK => jbn (by decide) (jbm rfl (jbm rfl hK))⟩
    · refine ⟨-1, fun K hK => jbf (by decide) (jbf (by decide) (jbr rfl ?_)), fun K hK => jbn (by decide) (jbn (by decide) (jbn (by decide) hK))⟩
      rw [e]
      exact jbn (by decide) hK
  · have hne := lgne (hv.ne0 hR3)
    rcases ha with rfl | rfl | rfl
    · refine ⟨k, fun K hK => jbr rfl ?_, fun K hK => jbm rfl hK⟩
      rw [hv.srt hR3]; exact hK
    · unfold w_X8_contentOf
      by_cases e2 : k = 2
      · rcases id hv with ⟨z, -⟩ | ⟨-, r, hr, hrv, hrx⟩ | ⟨z, -⟩
        · rw [e2] at z; exact absurd z (by decide)
        · obtain ⟨-, s, z, g1, g2, g3, g4, g5, g6⟩ := hS.2.2.2.2.2.2.1 r hr
          refine ⟨nI z, fun K hK => jbf (by decide) (jbr rfl (jbn hne ?_)), fun K hK => jbn (by decide) (jbm rfl (jbn (by rw [e2]; decide) (jbm e2 ?_)))⟩
          · rw [hv.srt hR3, hv.con, hrv]
            exact jbm e2 (ev_sizeOf hS hr g3 hK)
          · rw [hrv, nI_clamp (show r < 2 ^ 31 by omega), g4]
            exact ⟨vp_in_nI (by omega) (by decide), hK⟩
        · rw [e2] at z; exact absurd z (by decide)
      · refine ⟨v, fun K hK => jbf (by decide) (jbr rfl (jbn hne ?_)), fun K hK => jbn (by decide) (jbm rfl (jbn hv.kpos.2 (jbn e2 hK)))⟩
        rw [hv.srt hR3, hv.con]
        exact jbn e2 hK
    · by_cases e3 : k = 3
      · rcases id hv with ⟨z, -⟩ | ⟨z, -⟩ | ⟨-, c, b, hc6, hc1, hb, hv2, hof, hx⟩
        · rw [e3] at z; exact absurd z (by decide)
        · rw [e3] at z; exact absurd z (by decide)
        · refine ⟨of, fun K hK => jbf (by decide) (jbf (by decide) (jbr rfl ?_)), fun K hK => jbn (by decide) (jbn (by decide) (jbm e3 hK))⟩
          rw [hv.srt hR3]
          refine jbm e3 ?_
          unfold w_X8_actOf
          rw [hx, jact_F (by omega) (by omega), ← hof]
          exact hK
      · refine ⟨-1, fun K hK => jbf (by decide) (jbf (by decide) (jbr rfl ?_)), fun K hK => jbn (by decide) (jbn (by decide) (jbn e3 hK))⟩
        rw [hv.srt hR3]
        exact jbn e3 hK
theorem describe_else {σ : St} {x : Int64} {a : Int32} {K : Int32 → St → Prop} (ha : ¬ (a = 0 ∨ a = 1 ∨ a = 2)) (hk : K (-1) σ) : w_X4_describe σ x a K := by
  unfold w_X4_describe w_X8_sortOf
  exact jbf (fun z => ha (Or.inl z)) (jbf (fun z => ha (Or.inr (Or.inl z))) (jbf (fun z => ha (Or.inr (Or.inr z))) hk))
/-- the third of the questions' numbers -/
theorem in02 (a : Int32) : (¬ (a = 0 ∨ a = 1 ∨ a = 2) ∧ ∀ (τ : St) (K : Int32 → St → Prop), K 0 τ → w_X10_in τ a 0 2 K) ∨ ((a = 0 ∨ a = 1 ∨ a = 2) ∧ ∀ (τ : St) (K : Int32 → St → Prop), K 1 τ → w_X10_in τ a 0 2 K) := by
  by_cases h1 : a < 0
  · refine Or.inl ⟨?_, fun τ K h => ev_in_lo h1 h⟩
    rintro (rfl | rfl | rfl) <;> exact absurd h1 (by decide)
  · by_cases h2 : 2 < a
    · refine Or.inl ⟨?_, fun τ K h => ev_in_hi h1 h2 h⟩
      rintro (rfl | rfl | rfl) <;> exact absurd h2 (by decide)
    · refine Or.inr ⟨?_, fun τ K h => ev_in_ok h1 h2 h⟩
      obtain ⟨n, hn, e⟩ := nI_of2 (M := 2) (n := 2) (by decide) h1 (Int32.not_lt.mp h2)
      rcases (show n = 0 ∨ n = 1 ∨ n = 2 by omega) with rfl | rfl | rfl
      · exact Or.inl e
      · exact Or.inr (Or.inl e)
      · exact Or.inr (Or.inr e)
theorem st_end (σ τ : St) (a1 a2 : Int32) (h : Rel σ τ) : w_X9_end σ a1 a2 (fun r σ2 => w_X10_end τ a1 a2 (fun r2 τ2 => r = r2 ∧ Rel σ2 τ2)) := by
  have h' := h
  obtain ⟨hZ, nA, nW, nT, hG, h03, hz, hO⟩ := h
  unfold w_X9_end w_X10_end
  rcases hz with h0 | h0
  · exact jbr h0 (jbr (h03.symm.trans h0) ⟨rfl, h'⟩)
  · obtain ⟨nC, nP, m, hd, nR, nCe, nQ, o1, o2, o3, o4, o5, o6, o7, o8, o9, o10, o11, o12, o13, o14, o15, o16, o17, o22⟩ := hO h0
    have h3 : ¬ gS τ 3 = 0 := by rw [← h03, h0]; decide
    refine jbf (by rw [h0]; decide) ?_
    by_cases x : a1 < 0
    · exact jbr x (jbf h3 (ev_in_lo x (jbr rfl ⟨rfl, h'⟩)))
    · by_cases y : a1 < 10
      · obtain ⟨e, he, rfl⟩ := nI_of x
        have he10 : e < 10 := (nI_ltI he (by decide)).mp (show nI e < nI 10 from y)
        have hei : vp_in (nI e) 10 := vp_in_nI he10 (by decide)
        have hno9 : ¬ 9 < nI e := nI_nlt (b := e) (a := 9) (by omega) (by decide)
        refine jbf x (jbr y ⟨hei, ?_⟩)
        rw [nI_clamp he]
        rcases in02 a2 with ⟨z, hin⟩ | ⟨z, hin⟩
        · refine describe_else z ?_
          exact jbf h3 (ev_in_ok x hno9 (jbf (by decide) (hin τ _ (jbr rfl ⟨rfl, h'⟩))))
        · have hv := o16 e he10
          obtain ⟨r, r1, r2⟩ := told_val o14 (by rcases hv with h | h; exact Or.inl h; exact Or.inr h) a2 z
          refine r1 _ ?_
          exact jbf h3 (ev_in_ok x hno9 (jbf (by decide) (hin τ _ (jbf (by decide) ⟨hei, hei, hei, r2 _ ⟨rfl, h'⟩⟩))))
      · have hy : 9 < a1 := by
          apply Int32.lt_iff_toInt_lt.mpr
          have := Int32.le_iff_toInt_le.mp (Int32.not_lt.mp y)
          have e1 : (9 : Int32).toInt = 9 := by decide
          have e2 : (10 : Int32).toInt = 10 := by decide
          omega
        exact jbf x (jbf y (jbf h3 (ev_in_hi x hy (jbr rfl ⟨rfl, h'⟩))))
