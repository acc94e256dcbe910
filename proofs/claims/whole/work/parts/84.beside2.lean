/-! ===== beside ===== -/
theorem st_beside (σ τ : St) (a1 a2 a3 : Int32) (h : Rel σ τ) : w_X9_beside σ a1 a2 a3 (fun r σ2 => w_X10_beside τ a1 a2 a3 (fun r2 τ2 => r = r2 ∧ Rel σ2 τ2)) := by
  have h' := h
  obtain ⟨hZ, nA, nW, nT, hG, hO⟩ := h
  have hA := hG.1
  unfold w_X9_beside w_X10_beside
  rcases fuel_case a3 with hf | ⟨F, hF, rfl, hf⟩
  · refine (hf σ τ _ (fun _ _ => True)).1 (jbm rfl ?_)
    exact (hf σ τ (fun _ _ => True) _).2 (jbm rfl ⟨rfl, h'⟩)
  · obtain ⟨σ1, τ1, v1, z1, z2, ⟨hG1, hO1, hR1⟩, zv⟩ := sim_run (s := a1) (F := F) (RG_s0 (v := 1) hG) (by simp only [gS_sS, gS_sA, gS_sL, gS_fA, gS_fL, gA_sS, gA_sA, gA_sL, gA_fA, gA_fL, gL_sS, gL_sA, gL_sL, gL_fA, gL_fL, reduceIte, Nat.reduceEqDiff, jupd, jupdL]) hF
    have hZ1 := hZ.ran hR1
    obtain ⟨nC, nP, m, hd, nR, nCe, nQ, o1, o2, o3, o4, o5, o6, o7, o8, o9, o10, o11, o12, o13, o14, o15, o16, o17, o22⟩ := hO1.2.2 hR1.1
    obtain ⟨σb, A1, aS, aA, aL, a0, a1', a2', a3', a4, a5, a6, a7, a8⟩ := notesA o14 o16
    obtain ⟨τb, B1, bS, bA, b0, b1, b2, b3, b4, b5, b6, b7⟩ := notes_was o10 o11 o12 o13 o14 o15 o16 hR1.2.1
    have hN : NR nA (gL σb 0) (gA τb 37) := nr_mk o14 o16 o17 o1 hR1.2.2.1 a0 a1' a2' a3' a4 a5 (fun i h1 h2 => by rw [a6 i h1 h2]; exact (hZ1 i h1 h2).1) a7 a8 b0 b1 b2 b3 b4 b5 b6 b7
    have hC1 : NtC σ1 σb := ⟨aS, aA, fun k hk => aL k (by omega)⟩
    have hM1 : NtM τ1 τb := ⟨bS, fun k hk => bA k (by omega)⟩
    obtain ⟨σ2, τ2, v2, y1, y2, ⟨hG2, hO2, hR2⟩, yv⟩ := sim_run (s := a2) (F := F) (hG1.nt hC1 hM1) (by rw [aS]; exact hR1.1) hF
    obtain ⟨nC', nP', m', hd', nR', nCe', nQ', r1, r2, r3, r4, r5, r6, r7, r8, r9, r10, r11, r12, r13, r14, r15, r16, r17, r22⟩ := hO2.2.2 hR2.1
    obtain ⟨σc, C1, cS, cA, cL, c0, c1, c2, c3, c4, c5, c6, c7, c8⟩ := notesB r14 r16
    obtain ⟨τc, D1, dS, dA, d0, d1, d2, d3, d4, d5, d6, d7⟩ := notes_is r10 r11 r12 r13 r14 r15 r16 hR2.2.1
    have k0 : ∀ i, i < 100 → gL σ2 0 i = gL σb 0 i := fun i hi => by
      have := congrFun hR2.2.2.2.1 i
      simp only [if_pos hi] at this
      exact this
    have k1 : ∀ i, i < 100 → gL σ2 1 i = gL σb 1 i := fun i hi => by
      have := congrFun hR2.2.2.2.1 (100 + i)
      simp only [if_neg (show ¬ 100 + i < 100 by omega), show 100 + i - 100 = i by omega] at this
      exact this
    have k6 : ∀ i, 6 ≤ i → i < 10 → gL σc 1 i = 0 := fun i h1 h2 => by rw [c6 i h1 h2, k1 i (by omega), aL 1 (by decide)]; exact (hZ1 i h1 h2).2
    have hN2 : NR nA (gL σc 1) (gA τc 38) := nr_mk r14 r16 r17 r1 hR2.2.2.1 c0 c1 c2 c3 c4 c5 k6 c7 c8 d0 d1 d2 d3 d4 d5 d6 d7
    have g0 : ∀ i, i < 100 → gL σc 0 i = gL σb 0 i := fun i hi => by rw [cL 0 (by decide), k0 i hi]
    have g37 : gA τc 37 = gA τb 37 := by rw [dA 37 (by decide), hR2.2.2.2.2]
    have hN1 : NR nA (gL σc 0) (gA τc 37) := by
      rw [g37]
      obtain ⟨n1, n2, n3, n4, n5⟩ := hN
      refine ⟨fun i hi => ?_, fun i h1 h2 => ?_, fun e he => ?_, fun a ha => ?_, n5⟩
      · rw [g0 i (by omega)]; exact n1 i hi
      · rw [g0 i (by omega)]; exact n2 i h1 h2
      · rw [g0 (10 + e) (by omega)]; exact n3 e he
      · rw [g0 (20 + a) (by omega)]; exact n4 a ha
    have hC2 : NtC σ2 σc := ⟨cS, cA, fun k hk => cL k (by omega)⟩
    have hM2 : NtM τ2 τc := ⟨dS, fun k hk => dA k (by omega)⟩
    have hRel : Rel σc τc := ⟨fun i h1 h2 => ⟨hN1.2.1 i h1 h2, hN2.2.1 i h1 h2⟩, nA, nW, nT, hG2.nt hC2 hM2, hO2.nt hC2 hM2⟩
    have hP0 : gA τc 37 0 = v1 := by rw [g37, b0, zv, o1]
    have hQ0 : gA τc 38 0 = v2 := by rw [d0, yv, r1]
    have hA0 : gL σc 0 0 = v1.toInt64 := by rw [hN1.1 0 (by decide), hP0]
    have hB0 : gL σc 1 0 = v2.toInt64 := by rw [hN2.1 0 (by decide), hQ0]
    have hmod : ∀ (r : Int32), ((gA τc 37 0 = gA τc 38 0 → (gA τc 38 0 = 0 → M75 τc r 1) ∧ (¬ gA τc 38 0 = 0 → r = -1)) ∧ (¬ gA τc 37 0 = gA τc 38 0 → r = 0)) → ∀ K : Int32 → St → Prop, K r τc → w_X10_in τ (nI F) 0 4000 (fun (r_16 : Int32) (u_15 : St) => (¬ r_16 = 0 → (w_X10_run u_15 a1 (nI F) (fun (r_18 : Int32) (u_17 : St) => w_X10_notes_was u_17 (fun u_19 : St => w_X10_run u_19 a2 (nI F) (fun (r_22 : Int32) (u_21 : St) => w_X10_notes_is u_21 (fun u_23 : St => ((gA u_23 37 ((0 : Int32)).toNatClampNeg) = (gA u_23 38 ((0 : Int32)).toNatClampNeg) → (((gA u_23 38 ((0 : Int32)).toNatClampNeg) = 0 → (∃ n : Nat, w_X10_beside_75 K n u_23 1)) ∧ (¬ (gA u_23 38 ((0 : Int32)).toNatClampNeg) = 0 → (K (-1) u_23)))) ∧ (¬ (gA u_23 37 ((0 : Int32)).toNatClampNeg) = (gA u_23 38 ((0 : Int32)).toNatClampNeg) → (K 0 u_23)))))))) ∧ (r_16 = 0 → (K (-2) u_15))) := by
      intro r hr K hK
      refine (hf σ τ (fun _ _ => True) _).2 (jbn (by decide) ?_)
      unfold w_X10_run
      refine (hf σ τ (fun _ _ => True) _).2 (jbn (by decide) (z2 _ (B1 _ ?_)))
      refine (hf σ τb (fun _ _ => True) _).2 (jbn (by decide) (y2 _ (D1 _ ?_)))
      refine ⟨fun e => ⟨fun z => ((hr.1 e).1 z) K hK, fun z => ?_⟩, fun e => ?_⟩
      · rw [← (hr.1 e).2 z]; exact hK
      · rw [← hr.2 e]; exact hK
    refine (hf σ τ _ (fun _ _ => True)).1 (jbn (by decide) (z1 _ (A1 _ (y1 _ (C1 _ ?_)))))
    by_cases e : v1 = v2
    · by_cases e0 : v1 = 0
      · obtain ⟨r, q1, q2⟩ := cm75 hA (by rw [dS]; exact hG2.2.2.2.2.1) hN1 hN2 5 1 (by omega)
        refine fd_done (r := r) (by rw [hA0, e0]; rfl) (by rw [hB0, ← e, e0]; rfl) (cmp_step (by decide) (by rw [hA0, hB0, e]) q1) _ ?_
        exact hmod r ⟨fun _ => ⟨fun _ => q2, fun z => absurd (by rw [hQ0, ← e]; exact e0) z⟩, fun z => absurd (by rw [hP0, hQ0]; exact e) z⟩ _ ⟨rfl, hRel⟩
      · refine fd_one (fun z => e0 (i64_inj (hA0.symm.trans (z.1.trans (by decide))))) (one_same (by rw [hA0, hB0, e]) ?_)
        exact hmod (-1) ⟨fun _ => ⟨fun z => absurd (by rw [e, ← hQ0]; exact z) e0, fun _ => rfl⟩, fun z => absurd (by rw [hP0, hQ0]; exact e) z⟩ _ ⟨rfl, hRel⟩
    · refine fd_one (fun z => e (i64_inj (by rw [← hA0, ← hB0, z.1, z.2]))) (one_diff (by rw [hA0, hB0]; exact fun z => e (i64_inj z)) ?_)
      exact hmod 0 ⟨fun z => absurd (by rw [← hP0, ← hQ0]; exact z) e, fun _ => rfl⟩ _ ⟨rfl, hRel⟩
