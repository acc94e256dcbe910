/-! ===== act: the graph with one more ===== -/
theorem RG_act {nA nW nT k pp : Nat} {a2 : Int32} {σ τ σ' : St} (hG : RG nA nW nT σ τ) (hA : nA < 80) (hok : okAct (nI k) a2 (nI pp)) (hk : k < 22)
    (fS : ∀ j, j ≠ 1 → gS σ' j = gS σ j) (f1 : gS σ' 1 = nI (nA + 1)) (fA : ∀ j, j ≠ 0 → j ≠ 1 → j ≠ 2 → j ≠ 3 → gA σ' j = gA σ j) (f0 : ∀ b, gA σ' 0 b = if b = nA then nI k else gA σ 0 b) (f1' : ∀ b, gA σ' 1 b = if b = nA then a2 else gA σ 1 b) (f2 : ∀ b, gA σ' 2 b = if b = nA then nI pp else gA σ 2 b) (f3 : ∀ q, q < 100 → ((k = 15 ∧ a2 = nI q ∧ gA σ 3 q = -1 → gA σ' 3 q = nI nA) ∧ (¬ (k = 15 ∧ a2 = nI q ∧ gA σ 3 q = -1) → gA σ' 3 q = gA σ 3 q))) :
    RG (nA + 1) nW nT σ' (sS (sA (sA (sA τ 0 nA (nI k)) 1 nA a2) 2 nA (nI pp)) 0 (nI (nA + 1))) := by
  obtain ⟨g1, g2, g3, g4, g5, g6, g7, g8, g9, g10, g11, g12, g13, g14⟩ := hG
  refine ⟨by omega, g2, g3, f1, ?_, ?_, ?_, ?_, ?_, fun b hb => ?_, fun w hw => ?_, fun a s ha hs => ?_, fun q hq => ?_, fun t ht => ?_⟩
  · simp only [gS_sS, gS_sA, gS_sL, gS_fA, gS_fL, gA_sS, gA_sA, gA_sL, gA_fA, gA_fL, gL_sS, gL_sA, gL_sL, gL_fA, gL_fL, reduceIte, Nat.reduceEqDiff, jupd, jupdL]
  · rw [fS 2 (by decide)]; exact g6
  · simp only [gS_sS, gS_sA, gS_sL, gS_fA, gS_fL, gA_sS, gA_sA, gA_sL, gA_fA, gA_fL, gL_sS, gL_sA, gL_sL, gL_fA, gL_fL, reduceIte, Nat.reduceEqDiff, jupd, jupdL]; exact g7
  · rw [fS 3 (by decide)]; exact g8
  · simp only [gS_sS, gS_sA, gS_sL, gS_fA, gS_fL, gA_sS, gA_sA, gA_sL, gA_fA, gA_fL, gL_sS, gL_sA, gL_sL, gL_fA, gL_fL, reduceIte, Nat.reduceEqDiff, jupd, jupdL]; exact g9
  · rw [f0, f1', f2]
    simp only [gS_sS, gS_sA, gS_sL, gS_fA, gS_fL, gA_sS, gA_sA, gA_sL, gA_fA, gA_fL, gL_sS, gL_sA, gL_sL, gL_fA, gL_fL, reduceIte, Nat.reduceEqDiff, jupd, jupdL]
    by_cases e : b = nA
    · simp only [if_pos e]
      exact ⟨trivial, trivial, trivial, hok⟩
    · simp only [if_neg e]
      exact g10 b (by omega)
  · rw [fA 4 (by decide) (by decide) (by decide) (by decide), fA 5 (by decide) (by decide) (by decide) (by decide)]
    simp only [gS_sS, gS_sA, gS_sL, gS_fA, gS_fL, gA_sS, gA_sA, gA_sL, gA_fA, gA_fL, gL_sS, gL_sA, gL_sL, gL_fA, gL_fL, reduceIte, Nat.reduceEqDiff, jupd, jupdL]
    obtain ⟨x1, x2, ⟨c, x3, x3'⟩, x4, b, p, q, x5, x6, x7, x8, x9, x10⟩ := g11 w hw
    exact ⟨x1, x2, ⟨c, by omega, x3'⟩, x4, b, p, q, by omega, x6, x7, by rw [if_neg (show ¬ b = nA by omega)]; exact x8, x9, x10⟩
  · rw [fA 6 (by decide) (by decide) (by decide) (by decide), fA 7 (by decide) (by decide) (by decide) (by decide), fA 8 (by decide) (by decide) (by decide) (by decide)]
    unfold wl
    simp only [gS_sS, gS_sA, gS_sL, gS_fA, gS_fL, gA_sS, gA_sA, gA_sL, gA_fA, gA_fL, gL_sS, gL_sA, gL_sL, gL_fA, gL_fL, reduceIte, Nat.reduceEqDiff, jupd, jupdL]
    exact g12 a s ha hs
  · obtain ⟨y1, y2⟩ := f3 q hq
    have hold : ∀ b, b < nA → (((if b = nA then nI k else gA τ 0 b) = 15 ∧ (if b = nA then a2 else gA τ 1 b) = nI q) ↔ (gA τ 0 b = 15 ∧ gA τ 1 b = nI q)) := fun b hb => by rw [if_neg (show ¬ b = nA by omega), if_neg (show ¬ b = nA by omega)]
    unfold prm
    simp only [gS_sS, gS_sA, gS_sL, gS_fA, gS_fL, gA_sS, gA_sA, gA_sL, gA_fA, gA_fL, gL_sS, gL_sA, gL_sL, gL_fA, gL_fL, reduceIte, Nat.reduceEqDiff, jupd, jupdL]
    rcases g13 q hq with ⟨z1, z2⟩ | ⟨b, z1, z2, z3, z4, z5⟩
    · by_cases c : k = 15 ∧ a2 = nI q
      · refine Or.inr ⟨nA, by omega, y1 ⟨c.1, c.2, z1⟩, by rw [if_pos rfl, c.1]; rfl, by rw [if_pos rfl]; exact c.2, fun b' hb' => ?_⟩
        rw [hold b' hb']
        exact z2 b' hb'
      · refine Or.inl ⟨by rw [y2 (fun w => c ⟨w.1, w.2.1⟩)]; exact z1, fun b hb => ?_⟩
        by_cases e : b = nA
        · rw [if_pos e, if_pos e]
          exact fun w => c ⟨nI_inj (b := 15) (by omega) (by decide) w.1, w.2⟩
        · rw [hold b (by omega)]
          exact z2 b (by omega)
    · refine Or.inr ⟨b, by omega, ?_, ?_, ?_, fun b' hb' => ?_⟩
      · rw [y2 (fun w => nI_m1 (show b < 2 ^ 31 by omega) (z2.symm.trans w.2.2))]; exact z2
      · rw [if_neg (show ¬ b = nA by omega)]; exact z3
      · rw [if_neg (show ¬ b = nA by omega)]; exact z4
      · rw [hold b' (by omega)]
        exact z5 b' hb'
  · rw [fA 9 (by decide) (by decide) (by decide) (by decide), fA 10 (by decide) (by decide) (by decide) (by decide), fA 11 (by decide) (by decide) (by decide) (by decide)]
    simp only [gS_sS, gS_sA, gS_sL, gS_fA, gS_fL, gA_sS, gA_sA, gA_sL, gA_fA, gA_fL, gL_sS, gL_sA, gL_sL, gL_fA, gL_fL, reduceIte, Nat.reduceEqDiff, jupd, jupdL]
    obtain ⟨x1, x2, x3, a, p, q, x5, x6, x7, x8, x9, x10⟩ := g14 t ht
    exact ⟨x1, x2, x3, a, p, q, by omega, x6, x7, by rw [if_neg (show ¬ a = nA by omega)]; exact x8, x9, x10⟩
theorem st_act (σ τ : St) (a1 a2 a3 : Int32) (h : Rel σ τ) : w_X9_act σ a1 a2 a3 (fun r σ2 => w_X10_act τ a1 a2 a3 (fun r2 τ2 => r = r2 ∧ Rel σ2 τ2)) := by
  have h' := h
  obtain ⟨hZ, nA, nW, nT, hG, hO⟩ := h
  have hA := hG.1
  have h1 := hG.2.2.2.1
  have h0 := hG.2.2.2.2.1
  unfold w_X9_act
  by_cases full : nA = 80
  · refine addAct_full (by rw [h1, full]; decide) ?_
    unfold w_X10_act
    have h80 : gS τ 0 = 80 := by rw [h0, full]; rfl
    by_cases x : a1 < 0
    · exact ev_in_lo x (jbr rfl ⟨rfl, h'⟩)
    · by_cases y : 21 < a1
      · exact ev_in_hi x y (jbr rfl ⟨rfl, h'⟩)
      · exact ev_in_ok x y (jbf (by decide) (jbm h80 ⟨rfl, h'⟩))
  · by_cases x : a1 < 0
    · unfold w_X2_addAct w_X3_exists b_X2_addAct_28 w_X10_act
      exact jbr x (jbr rfl (jbr rfl (ev_in_lo x (jbr rfl ⟨rfl, h'⟩))))
    · by_cases y : 21 < a1
      · unfold w_X2_addAct w_X3_exists b_X2_addAct_28 w_X10_act
        exact jbf x (jbr y (jbr rfl (jbr rfl (ev_in_hi x y (jbr rfl ⟨rfl, h'⟩)))))
      · obtain ⟨k, hk, rfl⟩ := nI_of2 (M := 21) (n := 21) (by decide) x (Int32.not_lt.mp y)
        rcases act_eval (show k < 22 by omega) a2 a3 σ τ nA (by omega) h0 with hb | ⟨pp, p1, p3, pj, p14, pn, p15, hg⟩
        · exact (hb _ (fun _ _ => True)).1 ((hb (fun _ _ => True) _).2 ⟨rfl, h'⟩)
        · refine (hg _ (fun _ _ => True)).1 ?_
          have hai : vp_in (nI nA) 80 := vp_in_nI (by omega) (by decide)
          have hok : okAct (nI k) a2 (nI pp) := ⟨k, pp, by omega, rfl, rfl, p1, p3, pj, pn, p15⟩
          have hfin : ∀ σ' : St, RG (nA + 1) nW nT σ' (sS (sA (sA (sA τ 0 nA (nI k)) 1 nA a2) 2 nA (nI pp)) 0 (nI (nA + 1))) → GfC σ σ' → w_X10_act τ (nI k) a2 a3 (fun r2 τ2 => nI nA = r2 ∧ Rel σ' τ2) := fun σ' hg1 hgf => by
            refine (hg (fun _ _ => True) _).2 ?_
            unfold b_X10_act_93
            rw [h0, nI_clamp (show nA < 2 ^ 31 by omega)]
            refine ⟨hai, hai, ev_pM (show k < 22 by omega) pj p14 ⟨hai, ?_⟩⟩
            simp only [gS_sA]
            rw [h0, nI_1, nI_pred]
            refine ⟨rfl, hZ.gl hgf.2.2, nA + 1, nW, nT, hg1, hO.gf (by omega) hgf ⟨fun j hj => ?_, fun j hj => ?_⟩⟩
            · simp only [gS_sS, gS_sA, if_neg (show ¬ j = 0 by omega)]
            · simp only [gA_sS, gA_sA, if_neg (show ¬ j = 0 by omega), if_neg (show ¬ j = 1 by omega), if_neg (show ¬ j = 2 by omega)]
          unfold b_X2_addAct_28
          rw [h1, nI_clamp (show nA < 2 ^ 31 by omega), nI_1]
          refine jbf (by decide) (jbr (nI_lt (b := 80) (by omega) (by decide)) ⟨hai, hai, ev_pC (show k < 22 by omega) pj p14 ⟨hai, ?_⟩⟩)
          have hplain : (∀ q, q < 100 → ¬ (k = 15 ∧ a2 = nI q ∧ gA σ 3 q = -1)) → w_X10_act τ (nI k) a2 a3 (fun r2 τ2 => nI nA = r2 ∧ Rel (sA (sA (sA (sS σ 1 (nI (nA + 1))) 0 nA (nI k)) 1 nA a2) 2 nA (nI pp)) τ2) := fun hno => by
            refine hfin _ (RG_act hG (by omega) hok (by omega) (fun j hj => ?_) ?_ (fun j j1 j2 j3 j4 => ?_) (fun b => ?_) (fun b => ?_) (fun b => ?_) (fun q hq => ⟨fun z => absurd z (hno q hq), fun _ => ?_⟩)) ⟨fun j hj => ?_, fun j hj => ?_, fun j => ?_⟩
            · simp only [gS_sS, gS_sA, if_neg hj]
            · simp only [gS_sS, gS_sA, gS_sL, gS_fA, gS_fL, gA_sS, gA_sA, gA_sL, gA_fA, gA_fL, gL_sS, gL_sA, gL_sL, gL_fA, gL_fL, reduceIte, Nat.reduceEqDiff, jupd, jupdL]
            · simp only [gA_sS, gA_sA, if_neg j1, if_neg j2, if_neg j3]
            · simp only [gS_sS, gS_sA, gS_sL, gS_fA, gS_fL, gA_sS, gA_sA, gA_sL, gA_fA, gA_fL, gL_sS, gL_sA, gL_sL, gL_fA, gL_fL, reduceIte, Nat.reduceEqDiff, jupd, jupdL]
            · simp only [gS_sS, gS_sA, gS_sL, gS_fA, gS_fL, gA_sS, gA_sA, gA_sL, gA_fA, gA_fL, gL_sS, gL_sA, gL_sL, gL_fA, gL_fL, reduceIte, Nat.reduceEqDiff, jupd, jupdL]
            · simp only [gS_sS, gS_sA, gS_sL, gS_fA, gS_fL, gA_sS, gA_sA, gA_sL, gA_fA, gA_fL, gL_sS, gL_sA, gL_sL, gL_fA, gL_fL, reduceIte, Nat.reduceEqDiff, jupd, jupdL]
            · simp only [gS_sS, gS_sA, gS_sL, gS_fA, gS_fL, gA_sS, gA_sA, gA_sL, gA_fA, gA_fL, gL_sS, gL_sA, gL_sL, gL_fA, gL_fL, reduceIte, Nat.reduceEqDiff, jupd, jupdL]
            · simp only [gS_sS, gS_sA, if_neg (show ¬ j = 1 by omega)]
            · simp only [gA_sS, gA_sA, if_neg (show ¬ j = 0 by omega), if_neg (show ¬ j = 1 by omega), if_neg (show ¬ j = 2 by omega)]
            · simp only [gL_sS, gL_sA]
          by_cases e15 : k = 15
          · obtain ⟨n, hn, rfl⟩ := p15 e15
            have hni : vp_in (nI n) 100 := vp_in_nI hn (by decide)
            refine jbm (by rw [e15]; rfl) ⟨hni, ?_⟩
            simp only [gA_sA, gA_sS, Nat.reduceEqDiff, reduceIte]
            rw [nI_clamp (show n < 2 ^ 31 by omega)]
            by_cases e3 : gA σ 3 n = -1
            · refine jbm e3 ⟨hni, hfin _ (RG_act hG (by omega) hok (by omega) (fun j hj => ?_) ?_ (fun j j1 j2 j3 j4 => ?_) (fun b => ?_) (fun b => ?_) (fun b => ?_) (fun q hq => ⟨fun z => ?_, fun z => ?_⟩)) ⟨fun j hj => ?_, fun j hj => ?_, fun j => ?_⟩⟩
              · simp only [gS_sS, gS_sA, if_neg hj]
              · simp only [gS_sS, gS_sA, gS_sL, gS_fA, gS_fL, gA_sS, gA_sA, gA_sL, gA_fA, gA_fL, gL_sS, gL_sA, gL_sL, gL_fA, gL_fL, reduceIte, Nat.reduceEqDiff, jupd, jupdL]
              · simp only [gA_sS, gA_sA, if_neg j1, if_neg j2, if_neg j3, if_neg j4]
              · simp only [gS_sS, gS_sA, gS_sL, gS_fA, gS_fL, gA_sS, gA_sA, gA_sL, gA_fA, gA_fL, gL_sS, gL_sA, gL_sL, gL_fA, gL_fL, reduceIte, Nat.reduceEqDiff, jupd, jupdL]
              · simp only [gS_sS, gS_sA, gS_sL, gS_fA, gS_fL, gA_sS, gA_sA, gA_sL, gA_fA, gA_fL, gL_sS, gL_sA, gL_sL, gL_fA, gL_fL, reduceIte, Nat.reduceEqDiff, jupd, jupdL]
              · simp only [gS_sS, gS_sA, gS_sL, gS_fA, gS_fL, gA_sS, gA_sA, gA_sL, gA_fA, gA_fL, gL_sS, gL_sA, gL_sL, gL_fA, gL_fL, reduceIte, Nat.reduceEqDiff, jupd, jupdL]
              · have : n = q := nI_inj (by omega) (by omega) z.2.1
                subst this
                simp only [gS_sS, gS_sA, gS_sL, gS_fA, gS_fL, gA_sS, gA_sA, gA_sL, gA_fA, gA_fL, gL_sS, gL_sA, gL_sL, gL_fA, gL_fL, reduceIte, Nat.reduceEqDiff, jupd, jupdL]
              · have : ¬ q = n := fun e => z ⟨e15, by rw [e], by rw [e]; exact e3⟩
                simp only [gS_sS, gS_sA, gS_sL, gS_fA, gS_fL, gA_sS, gA_sA, gA_sL, gA_fA, gA_fL, gL_sS, gL_sA, gL_sL, gL_fA, gL_fL, reduceIte, Nat.reduceEqDiff, jupd, jupdL, if_neg this]
              · simp only [gS_sS, gS_sA, if_neg (show ¬ j = 1 by omega)]
              · simp only [gA_sS, gA_sA, if_neg (show ¬ j = 0 by omega), if_neg (show ¬ j = 1 by omega), if_neg (show ¬ j = 2 by omega), if_neg (show ¬ j = 3 by omega)]
              · simp only [gL_sS, gL_sA]
            · refine jbn e3 (hplain (fun q hq z => ?_))
              have : n = q := nI_inj (by omega) (by omega) z.2.1
              subst this
              exact e3 z.2.2
          · exact jbn (nkne (show k < 22 by omega) (j := 15) (by decide) e15) (hplain (fun q hq z => e15 z.1))
