theorem fp1' : ∀ q, q < 4 → ∀ h, h < 8 → ∀ k, k < 3 → (h < 2 ^ q ∧ k < q ∧ h / 2 ^ k % 2 = 0) → h + 2 ^ k < 2 ^ q := by decide +kernel
theorem fp1 (q : Nat) (a : q < 4) (h : Nat) (b : h < 8) (k : Nat) (c : k < 3) (d : h < 2 ^ q) (e : k < q) (f : h / 2 ^ k % 2 = 0) : h + 2 ^ k < 2 ^ q := fp1' q a h b k c ⟨d, e, f⟩
theorem fp2' : ∀ h, h < 8 → ∀ k, k < 3 → ∀ j, j < 3 → (h / 2 ^ k % 2 = 0 ∧ (h + 2 ^ k) / 2 ^ j % 2 = 1 ∧ ¬ j = k) → h / 2 ^ j % 2 = 1 := by decide +kernel
theorem fp2 (h : Nat) (a : h < 8) (k : Nat) (b : k < 3) (j : Nat) (c : j < 3) (d : h / 2 ^ k % 2 = 0) (e : (h + 2 ^ k) / 2 ^ j % 2 = 1) (f : ¬ j = k) : h / 2 ^ j % 2 = 1 := fp2' h a k b j c ⟨d, e, f⟩
theorem fp3 : ∀ h, h < 8 → ∀ k, k < 3 → h / 2 ^ k % 2 = 0 → pop3 (h + 2 ^ k) = pop3 h + 1 := by decide +kernel
theorem fp4 : ∀ q, q < 4 → pop3 (2 ^ q - 1) = q := by decide +kernel
theorem fp5' : ∀ q, q < 4 → ∀ h, h < 8 → ∀ k, k < 3 → (k < q ∧ h / 2 ^ k % 2 = 0) → ¬ h = 2 ^ q - 1 := by decide +kernel
theorem fp5 (q : Nat) (a : q < 4) (h : Nat) (b : h < 8) (k : Nat) (c : k < 3) (d : k < q) (e : h / 2 ^ k % 2 = 0) : ¬ h = 2 ^ q - 1 := fp5' q a h b k c ⟨d, e⟩
theorem two8 {q : Nat} (h : q ≤ 3) : 2 ^ q ≤ 8 := Nat.pow_le_pow_right (n := 2) (by decide) h
/-- what is known of a pair -/
theorem RP_at {nA nC nP p a q h : Nat} {σ τ : St} (hR : RP nA nC nP σ τ) (hA : nA ≤ 80) (hp : p < nP) (ha : a < 80) (h14 : gA τ 14 p = nI a) (hq : gA τ 2 a = nI q) (hq3 : q ≤ 3) (hh : gA τ 16 p = nI h) (h8 : h < 8) : a < nA ∧ 1 ≤ q ∧ h < 2 ^ q ∧ (gA τ 17 p = 0 ↔ ¬ h = 2 ^ q - 1) := by
  obtain ⟨-, -, -, -, -, a', q', h', g1, g2, g3, g4, g5, g6, g7, g8⟩ := hR.2.2.2.1 p hp
  have e1 : a' = a := nI_inj (by omega) (by omega) (g2.symm.trans h14)
  subst e1
  have e2 : q' = q := nI_inj (by omega) (by omega) (g3.symm.trans hq)
  subst e2
  have := two8 g5
  have e3 : h' = h := nI_inj (by omega) (by omega) (g6.symm.trans hh)
  subst e3
  exact ⟨g1, g4, g7, g8⟩
theorem RV_put {nR nP p k h : Nat} {σ τ σ2 τ2 : St} {x : Int64} {kk v of : Int32} (h3 : RV nR nP σ τ) (hp : p < nP) (hh : gA τ 16 p = nI h) (h8 : h < 8) (hk : k < 3) (hb : h / 2 ^ k % 2 = 0) (hv : vr nR x kk v of)
    (e4 : ∀ j, gL σ2 4 j = if j = 3 * p + k then x else gL σ 4 j) (f16 : ∀ j, gA τ2 16 j = if j = p then nI (h + 2 ^ k) else gA τ 16 j) (f19 : ∀ j, gA τ2 19 j = if j = 3 * p + k then kk else gA τ 19 j) (f20 : ∀ j, gA τ2 20 j = if j = 3 * p + k then v else gA τ 20 j) (f21 : ∀ j, gA τ2 21 j = if j = 3 * p + k then of else gA τ 21 j) : RV nR nP σ2 τ2 := by
  intro p' h' hp' hh' h8' j hj hb'
  rw [f16] at hh'
  rw [e4, f19, f20, f21]
  by_cases e : p' = p
  · subst e
    rw [if_pos rfl] at hh'
    have hl := bits_lt h h8 k hk hb
    have e2 := nI_inj (by omega) (by omega) hh'
    subst e2
    by_cases ej : j = k
    · subst ej
      simp only [reduceIte]
      exact hv
    · have hne : ¬ 3 * p' + j = 3 * p' + k := by omega
      simp only [if_neg hne]
      exact h3 p' h hp hh h8 j hj (fp2 h h8 k hk j hj hb hb' ej)
  · rw [if_neg e] at hh'
    have hne : ¬ 3 * p' + j = 3 * p + k := by omega
    simp only [if_neg hne]
    exact h3 p' h' hp' hh' h8' j hj hb'
theorem RR_put {cx : Cx} {nA nC nP m hd nR nCe nQ p a q h k : Nat} {pr : Nat → Nat} {σ τ : St} {x : Int64} {kk v of : Int32} (hR : RR cx nA nC nP m hd nR nCe nQ pr σ τ) (hA : nA ≤ 80) (hp : p < nP) (ha : a < 80) (h14 : gA τ 14 p = nI a) (hq : gA τ 2 a = nI q) (hq3 : q ≤ 3) (hh : gA τ 16 p = nI h) (h8 : h < 8) (hk : k < q) (hb : h / 2 ^ k % 2 = 0) (hnf : ¬ h + 2 ^ k = 2 ^ q - 1) (hv : vr nR x kk v of) : RR cx nA nC nP m hd nR nCe nQ pr (putC σ p k x h) (putM τ p k kk v of h) := by
  obtain ⟨h1, h2, h3, h4, h5, h6, h7, ⟨h8', h9⟩, h10, h11⟩ := hR
  obtain ⟨ha', hq1, hlt, hiff⟩ := RP_at h2 hA hp ha h14 hq hq3 hh h8
  have hw0 : gA τ 17 p = 0 := hiff.mpr (fp5 q (by omega) h h8 k (by omega) hk hb)
  refine ⟨?_, ?_, ?_, ?_, ?_, ?_, ?_, ⟨?_, ?_⟩, ?_, ?_⟩
  · simpa only [RC, putC, putM, gS_sS, gS_sA, gS_sL, gS_fA, gS_fL, gA_sS, gA_sA, gA_sL, gA_fA, gA_fL, gL_sS, gL_sA, gL_sL, gL_fA, gL_fL, reduceIte, Nat.reduceEqDiff, jupd, jupdL] using h1
  · obtain ⟨z1, z2, z3, hall, z5, z6, z7⟩ := h2
    unfold RP putC putM
    simp only [gS_sS, gS_sA, gS_sL, gS_fA, gS_fL, gA_sS, gA_sA, gA_sL, gA_fA, gA_fL, gL_sS, gL_sA, gL_sL, gL_fA, gL_fL, reduceIte, Nat.reduceEqDiff, jupd, jupdL]
    refine ⟨z1, z2, z3, fun p' hp' => ?_, z5, z6, z7⟩
    by_cases e : p' = p
    · subst e
      obtain ⟨y1, y2, y3, y4, y5, -⟩ := hall p' hp'
      simp only [reduceIte]
      exact ⟨y1, y2, trivial, y4, y5, a, q, h + 2 ^ k, ha', h14, hq, hq1, hq3, rfl, fp1 q (by omega) h h8 k (by omega) hlt hk hb, ⟨fun _ => hnf, fun _ => hw0⟩⟩
    · simp only [if_neg e]
      exact hall p' hp'
  · exact RV_put h3 hp hh h8 (by omega) hb hv (fun j => by simp only [putC, gS_sS, gS_sA, gS_sL, gS_fA, gS_fL, gA_sS, gA_sA, gA_sL, gA_fA, gA_fL, gL_sS, gL_sA, gL_sL, gL_fA, gL_fL, reduceIte, Nat.reduceEqDiff, jupd, jupdL]) (fun j => by simp only [putM, gS_sS, gS_sA, gS_sL, gS_fA, gS_fL, gA_sS, gA_sA, gA_sL, gA_fA, gA_fL, gL_sS, gL_sA, gL_sL, gL_fA, gL_fL, reduceIte, Nat.reduceEqDiff, jupd, jupdL]) (fun j => by simp only [putM, gS_sS, gS_sA, gS_sL, gS_fA, gS_fL, gA_sS, gA_sA, gA_sL, gA_fA, gA_fL, gL_sS, gL_sA, gL_sL, gL_fA, gL_fL, reduceIte, Nat.reduceEqDiff, jupd, jupdL]) (fun j => by simp only [putM, gS_sS, gS_sA, gS_sL, gS_fA, gS_fL, gA_sS, gA_sA, gA_sL, gA_fA, gA_fL, gL_sS, gL_sA, gL_sL, gL_fA, gL_fL, reduceIte, Nat.reduceEqDiff, jupd, jupdL]) (fun j => by simp only [putM, gS_sS, gS_sA, gS_sL, gS_fA, gS_fL, gA_sS, gA_sA, gA_sL, gA_fA, gA_fL, gL_sS, gL_sA, gL_sL, gL_fA, gL_fL, reduceIte, Nat.reduceEqDiff, jupd, jupdL])
  · simpa only [RY, putC, putM, gS_sS, gS_sA, gS_sL, gS_fA, gS_fL, gA_sS, gA_sA, gA_sL, gA_fA, gA_fL, gL_sS, gL_sA, gL_sL, gL_fA, gL_fL, reduceIte, Nat.reduceEqDiff, jupd, jupdL] using h4
  · unfold RLf at h5 ⊢
    have hs := sm_upd (f := fun j => if gA τ 17 j = 0 then pop3 (uv (gA τ 16 j)) else 0) (g := fun j => if gA (putM τ p k kk v of h) 17 j = 0 then pop3 (uv (gA (putM τ p k kk v of h) 16 j)) else 0) hp (fun i _ hne => by simp only [putM, gS_sS, gS_sA, gS_sL, gS_fA, gS_fL, gA_sS, gA_sA, gA_sL, gA_fA, gA_fL, gL_sS, gL_sA, gL_sL, gL_fA, gL_fL, reduceIte, Nat.reduceEqDiff, jupd, jupdL, if_neg hne])
    have hl := bits_lt h h8 k (by omega) hb
    have e1 : (if gA τ 17 p = 0 then pop3 (uv (gA τ 16 p)) else 0) = pop3 h := by rw [if_pos hw0, hh, uv_of (by omega)]
    have e2 : (if gA (putM τ p k kk v of h) 17 p = 0 then pop3 (uv (gA (putM τ p k kk v of h) 16 p)) else 0) = pop3 h + 1 := by
      simp only [putM, gS_sS, gS_sA, gS_sL, gS_fA, gS_fL, gA_sS, gA_sA, gA_sL, gA_fA, gA_fL, gL_sS, gL_sA, gL_sL, gL_fA, gL_fL, reduceIte, Nat.reduceEqDiff, jupd, jupdL, hw0]
      rw [uv_of (by omega), fp3 h h8 k (by omega) hb]
    rw [e1, e2] at hs
    rw [show sm (fun j => if gA (putM τ p k kk v of h) 17 j = 0 then pop3 (uv (gA (putM τ p k kk v of h) 16 j)) else 0) nP = sm (fun j => if gA τ 17 j = 0 then pop3 (uv (gA τ 16 j)) else 0) nP + 1 by omega, ← nI_1, ← h5]
    simp only [putC, gS_sS, gS_sA, gS_sL, gS_fA, gS_fL, gA_sS, gA_sA, gA_sL, gA_fA, gA_fL, gL_sS, gL_sA, gL_sL, gL_fA, gL_fL, reduceIte, Nat.reduceEqDiff, jupd, jupdL]
  · simpa only [RS, putC, putM, gS_sS, gS_sA, gS_sL, gS_fA, gS_fL, gA_sS, gA_sA, gA_sL, gA_fA, gA_fL, gL_sS, gL_sA, gL_sL, gL_fA, gL_fL, reduceIte, Nat.reduceEqDiff, jupd, jupdL] using h6
  · simpa only [RSm, putM, gS_sS, gS_sA, gS_sL, gS_fA, gS_fL, gA_sS, gA_sA, gA_sL, gA_fA, gA_fL, gL_sS, gL_sA, gL_sL, gL_fA, gL_fL, reduceIte, Nat.reduceEqDiff, jupd, jupdL] using h7
  · simpa only [RDw, putC, putM, gS_sS, gS_sA, gS_sL, gS_fA, gS_fL, gA_sS, gA_sA, gA_sL, gA_fA, gA_fL, gL_sS, gL_sA, gL_sL, gL_fA, gL_fL, reduceIte, Nat.reduceEqDiff, jupd, jupdL] using h8'
  · simpa only [RD, rl, putC, putM, gS_sS, gS_sA, gS_sL, gS_fA, gS_fL, gA_sS, gA_sA, gA_sL, gA_fA, gA_fL, gL_sS, gL_sA, gL_sL, gL_fA, gL_fL, reduceIte, Nat.reduceEqDiff, jupd, jupdL] using h9
  · simpa only [RE, putC, putM, gS_sS, gS_sA, gS_sL, gS_fA, gS_fL, gA_sS, gA_sA, gA_sL, gA_fA, gA_fL, gL_sS, gL_sA, gL_sL, gL_fA, gL_fL, reduceIte, Nat.reduceEqDiff, jupd, jupdL] using h10
  · simpa only [RK, putC, putM, gS_sS, gS_sA, gS_sL, gS_fA, gS_fL, gA_sS, gA_sA, gA_sL, gA_fA, gA_fL, gL_sS, gL_sA, gL_sL, gL_fA, gL_fL, reduceIte, Nat.reduceEqDiff, jupd, jupdL] using h11
theorem RR_rdy {cx : Cx} {nA nC nP m hd nR nCe nQ p a q h k : Nat} {pr : Nat → Nat} {σ τ : St} {x : Int64} {kk v of : Int32} (hR : RR cx nA nC nP m hd nR nCe nQ pr σ τ) (hA : nA ≤ 80) (hp : p < nP) (ha : a < 80) (h14 : gA τ 14 p = nI a) (hq : gA τ 2 a = nI q) (hq3 : q ≤ 3) (hh : gA τ 16 p = nI h) (h8 : h < 8) (hk : k < q) (hb : h / 2 ^ k % 2 = 0) (hf : h + 2 ^ k = 2 ^ q - 1) (hv : vr nR x kk v of) : RR cx nA nC nP (m + 1) hd nR nCe nQ pr (rdyC (putC σ p k x h) p q (hd + m)) (rdyM (putM τ p k kk v of h) p m) := by
  obtain ⟨h1, h2, h3, h4, h5, h6, h7, ⟨h8', h9⟩, h10, h11⟩ := hR
  obtain ⟨ha', hq1, hlt, hiff⟩ := RP_at h2 hA hp ha h14 hq hq3 hh h8
  have hw0 : gA τ 17 p = 0 := hiff.mpr (fp5 q (by omega) h h8 k (by omega) hk hb)
  refine ⟨?_, ?_, ?_, ?_, ?_, ?_, ?_, ⟨?_, ?_⟩, ?_, ?_⟩
  · simpa only [RC, rdyC, rdyM, putC, putM, gS_sS, gS_sA, gS_sL, gS_fA, gS_fL, gA_sS, gA_sA, gA_sL, gA_fA, gA_fL, gL_sS, gL_sA, gL_sL, gL_fA, gL_fL, reduceIte, Nat.reduceEqDiff, jupd, jupdL] using h1
  · obtain ⟨z1, z2, z3, hall, z5, z6, z7⟩ := h2
    unfold RP rdyC rdyM putC putM
    simp only [gS_sS, gS_sA, gS_sL, gS_fA, gS_fL, gA_sS, gA_sA, gA_sL, gA_fA, gA_fL, gL_sS, gL_sA, gL_sL, gL_fA, gL_fL, reduceIte, Nat.reduceEqDiff, jupd, jupdL]
    refine ⟨z1, z2, z3, fun p' hp' => ?_, z5, z6, z7⟩
    by_cases e : p' = p
    · subst e
      obtain ⟨y1, y2, y3, y4, y5, -⟩ := hall p' hp'
      simp only [reduceIte]
      exact ⟨y1, y2, trivial, y4, ⟨1, by decide, rfl⟩, a, q, h + 2 ^ k, ha', h14, hq, hq1, hq3, rfl, fp1 q (by omega) h h8 k (by omega) hlt hk hb, ⟨fun z => absurd z (by decide), fun z => absurd hf z⟩⟩
    · simp only [if_neg e]
      exact hall p' hp'
  · exact RV_put h3 hp hh h8 (by omega) hb hv (fun j => by simp only [rdyC, putC, gS_sS, gS_sA, gS_sL, gS_fA, gS_fL, gA_sS, gA_sA, gA_sL, gA_fA, gA_fL, gL_sS, gL_sA, gL_sL, gL_fA, gL_fL, reduceIte, Nat.reduceEqDiff, jupd, jupdL]) (fun j => by simp only [rdyM, putM, gS_sS, gS_sA, gS_sL, gS_fA, gS_fL, gA_sS, gA_sA, gA_sL, gA_fA, gA_fL, gL_sS, gL_sA, gL_sL, gL_fA, gL_fL, reduceIte, Nat.reduceEqDiff, jupd, jupdL]) (fun j => by simp only [rdyM, putM, gS_sS, gS_sA, gS_sL, gS_fA, gS_fL, gA_sS, gA_sA, gA_sL, gA_fA, gA_fL, gL_sS, gL_sA, gL_sL, gL_fA, gL_fL, reduceIte, Nat.reduceEqDiff, jupd, jupdL]) (fun j => by simp only [rdyM, putM, gS_sS, gS_sA, gS_sL, gS_fA, gS_fL, gA_sS, gA_sA, gA_sL, gA_fA, gA_fL, gL_sS, gL_sA, gL_sL, gL_fA, gL_fL, reduceIte, Nat.reduceEqDiff, jupd, jupdL]) (fun j => by simp only [rdyM, putM, gS_sS, gS_sA, gS_sL, gS_fA, gS_fL, gA_sS, gA_sA, gA_sL, gA_fA, gA_fL, gL_sS, gL_sA, gL_sL, gL_fA, gL_fL, reduceIte, Nat.reduceEqDiff, jupd, jupdL])
  · obtain ⟨g1, g2, g3, g4, g5, g6⟩ := h4
    have hs := sm_upd (f := fun j => if gA τ 17 j = 0 then 0 else 1) (g := fun j => if (if j = p then (1 : Int32) else gA τ 17 j) = 0 then 0 else 1) hp (fun i _ hne => by simp only [if_neg hne])
    simp only [hw0, reduceIte] at hs
    rw [if_neg (show ¬ (1 : Int32) = 0 by decide)] at hs
    have hold : ∀ i, i < m → ¬ gA τ 24 i = nI p := fun i hi e => by
      obtain ⟨r, z1, z2, -, z4⟩ := g5 i hi
      have e2 := nI_inj (by have := h2.1; omega) (by have := h2.1; omega) (z2.symm.trans e)
      subst e2
      rw [hw0] at z4
      exact absurd z4 (by decide)
    unfold RY rdyC rdyM putC putM
    simp only [gS_sS, gS_sA, gS_sL, gS_fA, gS_fL, gA_sS, gA_sA, gA_sL, gA_fA, gA_fL, gL_sS, gL_sA, gL_sL, gL_fA, gL_fL, reduceIte, Nat.reduceEqDiff, jupd, jupdL]
    refine ⟨trivial, g2, by rw [Nat.add_assoc], by omega, fun i hi => ?_, fun i j hi hj e => ?_⟩
    · by_cases e : i = m
      · subst e
        exact ⟨p, hp, by simp only [reduceIte], by simp only [reduceIte], by simp only [reduceIte]⟩
      · obtain ⟨r, z1, z2, z3, z4⟩ := g5 i (by omega)
        have hr : ¬ r = p := fun e2 => hold i (by omega) (by rw [z2, e2])
        exact ⟨r, z1, by rw [if_neg e]; exact z2, by rw [if_neg (by omega)]; exact z3, by rw [if_neg hr]; exact z4⟩
    · by_cases e1 : i = m
      · by_cases e2 : j = m
        · omega
        · rw [if_pos e1, if_neg e2] at e
          exact absurd e.symm (hold j (by omega))
      · by_cases e2 : j = m
        · rw [if_neg e1, if_pos e2] at e
          exact absurd e (hold i (by omega))
        · rw [if_neg e1, if_neg e2] at e
          exact g6 i j (by omega) (by omega) e
  · unfold RLf at h5 ⊢
    have hs := sm_upd (f := fun j => if gA τ 17 j = 0 then pop3 (uv (gA τ 16 j)) else 0) (g := fun j => if gA (rdyM (putM τ p k kk v of h) p m) 17 j = 0 then pop3 (uv (gA (rdyM (putM τ p k kk v of h) p m) 16 j)) else 0) hp (fun i _ hne => by simp only [rdyM, putM, gS_sS, gS_sA, gS_sL, gS_fA, gS_fL, gA_sS, gA_sA, gA_sL, gA_fA, gA_fL, gL_sS, gL_sA, gL_sL, gL_fA, gL_fL, reduceIte, Nat.reduceEqDiff, jupd, jupdL, if_neg hne])
    have e1 : (if gA τ 17 p = 0 then pop3 (uv (gA τ 16 p)) else 0) = pop3 h := by rw [if_pos hw0, hh, uv_of (by omega)]
    have e2 : (if gA (rdyM (putM τ p k kk v of h) p m) 17 p = 0 then pop3 (uv (gA (rdyM (putM τ p k kk v of h) p m) 16 p)) else 0) = 0 := by
      simp only [rdyM, putM, gS_sS, gS_sA, gS_sL, gS_fA, gS_fL, gA_sS, gA_sA, gA_sL, gA_fA, gA_fL, gL_sS, gL_sA, gL_sL, gL_fA, gL_fL, reduceIte, Nat.reduceEqDiff, jupd, jupdL]
      rw [if_neg (show ¬ (1 : Int32) = 0 by decide)]
    rw [e1, e2] at hs
    have hp3 : pop3 h + 1 = q := by rw [← fp3 h h8 k (by omega) hb, hf, fp4 q (by omega)]
    have hg : gS (rdyC (putC σ p k x h) p q (hd + m)) 15 = gS σ 15 + 1 - nI q := by simp only [rdyC, putC, gS_sS, gS_sA, gS_sL, gS_fA, gS_fL, gA_sS, gA_sA, gA_sL, gA_fA, gA_fL, gL_sS, gL_sA, gL_sL, gL_fA, gL_fL, reduceIte, Nat.reduceEqDiff, jupd, jupdL]
    rw [hg, h5, nI_1, pk_sub (by omega)]
    congr 1
    omega
  · simpa only [RS, rdyC, rdyM, putC, putM, gS_sS, gS_sA, gS_sL, gS_fA, gS_fL, gA_sS, gA_sA, gA_sL, gA_fA, gA_fL, gL_sS, gL_sA, gL_sL, gL_fA, gL_fL, reduceIte, Nat.reduceEqDiff, jupd, jupdL] using h6
  · intro r hr
    obtain ⟨p', z1, z2, z3, z4⟩ := h7 r hr
    have hne : ¬ p' = p := fun e => by rw [e, hw0] at z2; exact absurd z2 (by decide)
    refine ⟨p', z1, ?_⟩
    simp only [rdyM, putM, gS_sS, gS_sA, gS_sL, gS_fA, gS_fL, gA_sS, gA_sA, gA_sL, gA_fA, gA_fL, gL_sS, gL_sA, gL_sL, gL_fA, gL_fL, reduceIte, Nat.reduceEqDiff, jupd, jupdL, if_neg hne]
    exact ⟨z2, z3, z4⟩
  · simpa only [RDw, rdyC, rdyM, putC, putM, gS_sS, gS_sA, gS_sL, gS_fA, gS_fL, gA_sS, gA_sA, gA_sL, gA_fA, gA_fL, gL_sS, gL_sA, gL_sL, gL_fA, gL_fL, reduceIte, Nat.reduceEqDiff, jupd, jupdL] using h8'
  · obtain ⟨g1, g2, g3, g4⟩ := h9
    have hs := sm_upd (f := fun j => if gA τ 17 j = 2 then 1 else 0) (g := fun j => if (if j = p then (1 : Int32) else gA τ 17 j) = 2 then 1 else 0) hp (fun i _ hne => by simp only [if_neg hne])
    simp only [hw0, reduceIte] at hs
    rw [if_neg (show ¬ (1 : Int32) = 2 by decide), if_neg (show ¬ (0 : Int32) = 2 by decide)] at hs
    unfold RD rdyC rdyM putC putM
    simp only [gS_sS, gS_sA, gS_sL, gS_fA, gS_fL, gA_sS, gA_sA, gA_sL, gA_fA, gA_fL, gL_sS, gL_sA, gL_sL, gL_fA, gL_fL, reduceIte, Nat.reduceEqDiff, jupd, jupdL]
    refine ⟨by omega, fun n hn => ?_, g3, ?_⟩
    · obtain ⟨z1, p', z2, z3, z4⟩ := g2 n hn
      have hne : ¬ p' = p := fun e => by rw [e, hw0] at z4; exact absurd z4 (by decide)
      exact ⟨z1, p', z2, z3, by rw [if_neg hne]; exact z4⟩
    · simpa only [rl, gS_sS, gS_sA, gS_sL, gS_fA, gS_fL, gA_sS, gA_sA, gA_sL, gA_fA, gA_fL, gL_sS, gL_sA, gL_sL, gL_fA, gL_fL, reduceIte, Nat.reduceEqDiff, jupd, jupdL] using g4
  · simpa only [RE, rdyC, rdyM, putC, putM, gS_sS, gS_sA, gS_sL, gS_fA, gS_fL, gA_sS, gA_sA, gA_sL, gA_fA, gA_fL, gL_sS, gL_sA, gL_sL, gL_fA, gL_fL, reduceIte, Nat.reduceEqDiff, jupd, jupdL] using h10
  · obtain ⟨g1, g2, g3, g4, g5, g6, g7, g8, g9, g10, g11, g12, g13, g14, g15⟩ := h11
    unfold RK
    simp only [rdyC, rdyM, putC, putM, gS_sS, gS_sA, gS_sL, gS_fA, gS_fL, gA_sS, gA_sA, gA_sL, gA_fA, gA_fL, gL_sS, gL_sA, gL_sL, gL_fA, gL_fL, reduceIte, Nat.reduceEqDiff, jupd, jupdL]
    refine ⟨g1, g2, g3, g4, g5, g6, g7, g8, g9, g10, g11, g12, Int32.le_trans g13 ?_, g14, g15⟩
    rw [h4.1]
    have := sm_le (f := fun p => if gA τ 17 p = 0 then 0 else 1) (b := 1) (n := nP) (fun i _ => by split <;> omega)
    have h42 := h4.2.2.2.1
    have h21 := h2.1
    exact nI_le (by omega) (by omega)
