/-! ===== way, act ===== -/
theorem side_case {k : Nat} (hk : k < 22) (a2 : Int32) : (∀ (σ τ : St) (K K' : Int32 → St → Prop), (K 0 σ → w_X3_hasSide σ (nI k) a2 K) ∧ (K' 0 τ → (¬ nI k = 10 → w_X10_in τ a2 0 0 K') ∧ (nI k = 10 → w_X10_in τ a2 0 1 K'))) ∨ ∃ s, s < 2 ∧ a2 = nI s ∧ ∀ (σ τ : St) (K K' : Int32 → St → Prop), (K 1 σ → w_X3_hasSide σ (nI k) a2 K) ∧ (K' 1 τ → (¬ nI k = 10 → w_X10_in τ a2 0 0 K') ∧ (nI k = 10 → w_X10_in τ a2 0 1 K')) := by
  by_cases x : a2 = 0
  · subst x
    exact Or.inr ⟨0, by decide, rfl, fun σ τ K K' => ⟨fun h => jbr rfl h, fun h => ⟨fun _ => ev_in_ok (by decide) (by decide) h, fun _ => ev_in_ok (by decide) (by decide) h⟩⟩⟩
  · by_cases y : a2 = 1
    · subst y
      by_cases z : nI k = 10
      · exact Or.inr ⟨1, by decide, rfl, fun σ τ K K' => ⟨fun h => jbf (by decide) (jbm rfl (jbm z h)), fun h => jbm z (ev_in_ok (by decide) (by decide) h)⟩⟩
      · exact Or.inl (fun σ τ K K' => ⟨fun h => jbf (by decide) (jbm rfl (jbn z h)), fun h => jbn z (ev_in_hi (by decide) (by decide) h)⟩)
    · refine Or.inl (fun σ τ K K' => ⟨fun h => jbf x (jbn y h), fun h => ?_⟩)
      by_cases w : a2 < 0
      · exact ⟨fun _ => ev_in_lo w h, fun _ => ev_in_lo w h⟩
      · obtain ⟨n, hn, e⟩ := nI_of w
        have hn2 : 2 ≤ n := by
          rcases (show n = 0 ∨ n = 1 ∨ 2 ≤ n by omega) with h | h | h
          · subst h; exact absurd e x
          · subst h; exact absurd e y
          · exact h
        rw [e] at w ⊢
        exact ⟨fun _ => ev_in_hi w (nI_lt (a := 0) (by omega) hn) h, fun _ => ev_in_hi w (nI_lt (a := 1) (by omega) hn) h⟩
theorem wl_way {τ : St} {nW a s a' s' : Nat} {b p : Int32} (ha : a < 80) (hs : s < 2) (ha' : a' < 80) (hs' : s' < 2) : wl (sS (sA (sA (sA (sA τ 3 nW (nI a)) 4 nW (nI s)) 5 nW b) 6 nW p) 1 (nI (nW + 1))) a' s' (nW + 1) = if a' = a ∧ s' = s then wl τ a' s' nW ++ [nW] else wl τ a' s' nW := by
  have e : ∀ n, n < nW → ¬ n = nW := fun n hn => by omega
  unfold wl
  simp only [gS_sS, gS_sA, gS_sL, gS_fA, gS_fL, gA_sS, gA_sA, gA_sL, gA_fA, gA_fL, gL_sS, gL_sA, gL_sL, gL_fA, gL_fL, reduceIte, Nat.reduceEqDiff, jupd, jupdL]
  have e1 : selU (fun w => decide ((if w = nW then nI a else gA τ 3 w) = nI a') && decide ((if w = nW then nI s else gA τ 4 w) = nI s')) nW = selU (fun w => decide (gA τ 3 w = nI a') && decide (gA τ 4 w = nI s')) nW := selU_congr (fun n hn => by simp only [if_neg (e n hn)])
  show (if (decide ((if nW = nW then nI a else gA τ 3 nW) = nI a') && decide ((if nW = nW then nI s else gA τ 4 nW) = nI s')) = true then _ ++ [nW] else _) = _
  rw [e1]
  by_cases x : a' = a ∧ s' = s
  · rw [if_pos x, if_pos (by simp [x.1, x.2])]
  · rw [if_neg x, if_neg (by
      simp only [reduceIte, Bool.and_eq_true, decide_eq_true_eq]
      exact fun z => x ⟨(nI_inj (by omega) (by omega) z.1).symm, (nI_inj (by omega) (by omega) z.2).symm⟩)]
theorem RG_way {nA nW nT a s b p q : Nat} {σ τ σ' : St} (hG : RG nA nW nT σ τ) (hW : nW < 300) (ha : a < nA) (hs : s < 2) (hb : b < nA) (hq : gA τ 2 b = nI q) (hp : p < q) (hq3 : q ≤ 3)
    (fS : ∀ k, k ≠ 2 → gS σ' k = gS σ k) (f2 : gS σ' 2 = nI (nW + 1)) (fA : ∀ k, k ≠ 4 → k ≠ 5 → k ≠ 6 → k ≠ 7 → k ≠ 8 → gA σ' k = gA σ k) (f4 : ∀ w, gA σ' 4 w = if w = nW then nI b else gA σ 4 w) (f5 : ∀ w, gA σ' 5 w = if w = nW then nI p else gA σ 5 w) (f8 : ∀ i, gA σ' 8 i = if i = 2 * a + s then nI nW else gA σ 8 i) (f7 : ∀ i, ¬ i = 2 * a + s → gA σ' 7 i = gA σ 7 i) (hco : ∀ a' s', a' < 80 → s' < 2 → ¬ (a' = a ∧ s' = s) → Chn (gA σ' 6) (gA σ 7 (2 * a' + s')) (wl τ a' s' nW)) (hch : Chn (gA σ' 6) (gA σ' 7 (2 * a + s)) (wl τ a s nW ++ [nW])) :
    RG nA (nW + 1) nT σ' (sS (sA (sA (sA (sA τ 3 nW (nI a)) 4 nW (nI s)) 5 nW (nI b)) 6 nW (nI p)) 1 (nI (nW + 1))) := by
  obtain ⟨g1, g2, g3, g4, g5, g6, g7, g8, g9, g10, g11, g12, g13, g14⟩ := hG
  refine ⟨g1, by omega, g3, ?_, ?_, f2, ?_, ?_, ?_, fun a' ha' => ?_, fun w hw => ?_, fun a' s' ha' hs' => ?_, fun q' hq' => ?_, fun t ht => ?_⟩
  · rw [fS 1 (by decide)]; exact g4
  · simp only [gS_sS, gS_sA, gS_sL, gS_fA, gS_fL, gA_sS, gA_sA, gA_sL, gA_fA, gA_fL, gL_sS, gL_sA, gL_sL, gL_fA, gL_fL, reduceIte, Nat.reduceEqDiff, jupd, jupdL]; exact g5
  · simp only [gS_sS, gS_sA, gS_sL, gS_fA, gS_fL, gA_sS, gA_sA, gA_sL, gA_fA, gA_fL, gL_sS, gL_sA, gL_sL, gL_fA, gL_fL, reduceIte, Nat.reduceEqDiff, jupd, jupdL]
  · rw [fS 3 (by decide)]; exact g8
  · simp only [gS_sS, gS_sA, gS_sL, gS_fA, gS_fL, gA_sS, gA_sA, gA_sL, gA_fA, gA_fL, gL_sS, gL_sA, gL_sL, gL_fA, gL_fL, reduceIte, Nat.reduceEqDiff, jupd, jupdL]; exact g9
  · rw [fA 0 (by decide) (by decide) (by decide) (by decide) (by decide), fA 1 (by decide) (by decide) (by decide) (by decide) (by decide), fA 2 (by decide) (by decide) (by decide) (by decide) (by decide)]
    simp only [gS_sS, gS_sA, gS_sL, gS_fA, gS_fL, gA_sS, gA_sA, gA_sL, gA_fA, gA_fL, gL_sS, gL_sA, gL_sL, gL_fA, gL_fL, reduceIte, Nat.reduceEqDiff, jupd, jupdL]
    exact g10 a' ha'
  · rw [f4, f5]
    simp only [gS_sS, gS_sA, gS_sL, gS_fA, gS_fL, gA_sS, gA_sA, gA_sL, gA_fA, gA_fL, gL_sS, gL_sA, gL_sL, gL_fA, gL_fL, reduceIte, Nat.reduceEqDiff, jupd, jupdL]
    by_cases e : w = nW
    · simp only [if_pos e]
      exact ⟨trivial, trivial, ⟨a, ha, rfl⟩, ⟨s, hs, rfl⟩, b, p, q, hb, rfl, rfl, hq, hp, hq3⟩
    · simp only [if_neg e]
      exact g11 w (by omega)
  · rw [wl_way (show a < 80 by omega) hs ha' hs', f8]
    by_cases x : a' = a ∧ s' = s
    · obtain ⟨rfl, rfl⟩ := x
      rw [if_pos ⟨rfl, rfl⟩, if_pos rfl]
      exact ⟨hch, Or.inr ⟨_, nW, rfl, rfl⟩⟩
    · rw [if_neg x, if_neg (show ¬ 2 * a' + s' = 2 * a + s by omega), f7 _ (show ¬ 2 * a' + s' = 2 * a + s by omega)]
      exact ⟨hco a' s' ha' hs' x, (g12 a' s' ha' hs').2⟩
  · rw [fA 3 (by decide) (by decide) (by decide) (by decide) (by decide)]
    unfold prm
    simp only [gS_sS, gS_sA, gS_sL, gS_fA, gS_fL, gA_sS, gA_sA, gA_sL, gA_fA, gA_fL, gL_sS, gL_sA, gL_sL, gL_fA, gL_fL, reduceIte, Nat.reduceEqDiff, jupd, jupdL]
    exact g13 q' hq'
  · rw [fA 9 (by decide) (by decide) (by decide) (by decide) (by decide), fA 10 (by decide) (by decide) (by decide) (by decide) (by decide), fA 11 (by decide) (by decide) (by decide) (by decide) (by decide)]
    simp only [gS_sS, gS_sA, gS_sL, gS_fA, gS_fL, gA_sS, gA_sA, gA_sL, gA_fA, gA_fL, gL_sS, gL_sA, gL_sL, gL_fA, gL_fL, reduceIte, Nat.reduceEqDiff, jupd, jupdL]
    exact g14 t ht
theorem st_way (σ τ : St) (a1 a2 a3 a4 : Int32) (h : Rel σ τ) : w_X9_way σ a1 a2 a3 a4 (fun r σ2 => w_X10_way τ a1 a2 a3 a4 (fun r2 τ2 => r = r2 ∧ Rel σ2 τ2)) := by
  have h' := h
  obtain ⟨hZ, nA, nW, nT, hG, hO⟩ := h
  have hA := hG.1
  have hW := hG.2.1
  unfold w_X9_way w_X2_addWay
  rcases act_case hG a1 with ⟨ha, hne⟩ | ⟨a, ha, rfl, hc⟩
  · refine (ha _ (fun _ _ => True)).1 (jbr rfl ?_)
    unfold w_X10_way
    exact (ha (fun _ _ => True) _).2 (jbr rfl ⟨rfl, h'⟩)
  · have hai : vp_in (nI a) 80 := vp_in_nI (by omega) (by decide)
    obtain ⟨k0, -, -, k, -, hk, hk0, -⟩ := hG.2.2.2.2.2.2.2.2.2.1 a ha
    refine (hc _ (fun _ _ => True)).1 (jbf (by decide) ⟨hai, ?_⟩)
    rw [nI_clamp (show a < 2 ^ 31 by omega), ← k0, hk0]
    rcases act_case hG a3 with ⟨hb, hneb⟩ | ⟨b, hb, rfl, hcb⟩
    · have hM : ∀ K : Int32 → St → Prop, K (-1) τ → w_X10_way τ (nI a) a2 a3 a4 K := fun K hk => by
        unfold w_X10_way
        exact (hc (fun _ _ => True) _).2 (jbf (by decide) ((hb (fun _ _ => True) _).2 (jbr rfl hk)))
      have hP : ∀ K : Int32 → St → Prop, K 0 σ → w_X2_hasPort σ a3 a4 K := fun K hk => by
        unfold w_X2_hasPort
        exact (hb _ (fun _ _ => True)).1 (jbr rfl hk)
      rcases side_case hk a2 with hs | ⟨s, hs, rfl, hsc⟩
      · exact (hs σ τ _ (fun _ _ => True)).1 (jbr rfl (hM (fun r2 τ2 => (-1 : Int32) = r2 ∧ Rel σ τ2) ⟨rfl, h'⟩))
      · exact (hsc σ τ _ (fun _ _ => True)).1 (jbf (by decide) (hP _ (jbm rfl (hM (fun r2 τ2 => (-1 : Int32) = r2 ∧ Rel σ τ2) ⟨rfl, h'⟩))))
    · have hbi : vp_in (nI b) 80 := vp_in_nI (by omega) (by decide)
      obtain ⟨-, -, -, kk, q, -, -, hq, -, hq3, -⟩ := hG.2.2.2.2.2.2.2.2.2.1 b hb
      have hM : ∀ K : Int32 → St → Prop, ((¬ nI k = 10 → b_X10_way_34 K τ (nI a) a2 (nI b) a4 a2 0 0) ∧ (nI k = 10 → b_X10_way_34 K τ (nI a) a2 (nI b) a4 a2 0 1)) → w_X10_way τ (nI a) a2 (nI b) a4 K := fun K hk => by
        unfold w_X10_way
        refine (hc (fun _ _ => True) _).2 (jbf (by decide) ((hcb (fun _ _ => True) _).2 (jbf (by decide) ⟨hai, ?_⟩)))
        rw [nI_clamp (show a < 2 ^ 31 by omega), hk0]
        exact hk
      unfold b_X10_way_34 at hM
      rcases side_case hk a2 with hs | ⟨s, hs, rfl, hsc⟩
      · refine (hs σ τ _ (fun _ _ => True)).1 (jbr rfl (hM (fun r2 τ2 => (-1 : Int32) = r2 ∧ Rel σ τ2) ?_))
        exact (hs σ τ (fun _ _ => True) _).2 (jbr rfl ⟨rfl, h'⟩)
      · refine (hsc σ τ _ (fun _ _ => True)).1 (jbf (by decide) ?_)
        have hM2 : ∀ K : Int32 → St → Prop, w_X10_in τ a4 0 (nI q - 1) (fun (r_4 : Int32) (u_3 : St) => (r_4 = 0 → (K (-1) u_3)) ∧ (¬ r_4 = 0 → ((¬ (gS u_3 1) = 300 → (vp_in (gS u_3 1) 300 ∧ (vp_in (gS u_3 1) 300 ∧ (vp_in (gS u_3 1) 300 ∧ (vp_in (gS u_3 1) 300 ∧ (K (((gS u_3 1) + 1) - 1) (sS (sA (sA (sA (sA u_3 3 ((gS u_3 1)).toNatClampNeg (nI a)) 4 ((gS u_3 1)).toNatClampNeg (nI s)) 5 ((gS u_3 1)).toNatClampNeg (nI b)) 6 ((gS u_3 1)).toNatClampNeg a4) 1 ((gS u_3 1) + 1)))))))) ∧ ((gS u_3 1) = 300 → (K (-1) u_3))))) → w_X10_way τ (nI a) (nI s) (nI b) a4 K := fun K hb2 => by
          refine hM K ((hsc σ τ (fun _ _ => True) _).2 (jbf (by decide) ⟨hbi, ?_⟩))
          rw [nI_clamp (show b < 2 ^ 31 by omega), hq]
          exact hb2
        rcases port_case hG hb hq hq3 a4 with hp | ⟨p, hp, rfl, hpc⟩
        · refine (hp _ (fun _ _ => True)).1 (jbm rfl ?_)
          exact hM2 (fun r2 τ2 => (-1 : Int32) = r2 ∧ Rel σ τ2) ((hp (fun _ _ => True) _).2 (jbr rfl ⟨rfl, h'⟩))
        · refine (hpc _ (fun _ _ => True)).1 (jbn (by decide) ?_)
          have h2 := hG.2.2.2.2.2.1
          have h1 := hG.2.2.2.2.2.2.1
          by_cases full : nW = 300
          · refine jbf (by rw [h2, full]; decide) ?_
            exact hM2 (fun r2 τ2 => (-1 : Int32) = r2 ∧ Rel σ τ2) ((hpc (fun _ _ => True) _).2 (jbf (by decide) (jbm (by rw [h1, full]; rfl) ⟨rfl, h'⟩)))
          · have hwi : vp_in (nI nW) 300 := vp_in_nI (by omega) (by decide)
            have e2 : (2 : Int32) * nI a + nI s = nI (2 * a + s) := by rw [show (2 : Int32) = nI 2 from rfl, pk_mul, nI_add]
            have hii : vp_in (nI (2 * a + s)) 160 := vp_in_nI (by omega) (by decide)
            rw [h2, nI_clamp (show nW < 2 ^ 31 by omega), nI_1, e2, nI_clamp (show 2 * a + s < 2 ^ 31 by omega)]
            refine jbr (nI_lt (b := 300) (by omega) (by decide)) ⟨hwi, hwi, hwi, hii, ?_⟩
            have hfin : ∀ σ' : St, RG nA (nW + 1) nT σ' (sS (sA (sA (sA (sA τ 3 nW (nI a)) 4 nW (nI s)) 5 nW (nI b)) 6 nW (nI p)) 1 (nI (nW + 1))) → GfC σ σ' → w_X10_way τ (nI a) (nI s) (nI b) (nI p) (fun r2 τ2 => nI nW = r2 ∧ Rel σ' τ2) := fun σ' hg hgf => by
              refine hM2 (fun r2 τ2 => nI nW = r2 ∧ Rel σ' τ2) ((hpc (fun _ _ => True) _).2 (jbf (by decide) (jbn (by rw [h1]; exact fun z => full (nI_inj (b := 300) (by omega) (by decide) z)) ?_)))
              rw [h1, nI_clamp (show nW < 2 ^ 31 by omega), nI_1, nI_pred]
              refine ⟨hwi, hwi, hwi, hwi, rfl, hZ.gl hgf.2.2, nA, nW + 1, nT, hg, hO.gf (Nat.le_refl _) hgf ⟨fun k hk => ?_, fun k hk => ?_⟩⟩
              · simp only [gS_sS, gS_sA, if_neg (show ¬ k = 1 by omega)]
              · simp only [gA_sS, gA_sA, if_neg (show ¬ k = 3 by omega), if_neg (show ¬ k = 4 by omega), if_neg (show ¬ k = 5 by omega), if_neg (show ¬ k = 6 by omega)]
            have hmem : ∀ a' s' w, w ∈ wl τ a' s' nW → w < nW ∧ gA τ 3 w = nI a' ∧ gA τ 4 w = nI s' := fun a' s' w hw => by
              obtain ⟨m1, m2⟩ := mem_selU.mp hw
              simp only [Bool.and_eq_true, decide_eq_true_eq] at m2
              exact ⟨m1, m2.1, m2.2⟩
            obtain ⟨hch, hlast⟩ := hG.2.2.2.2.2.2.2.2.2.2.2.1 a s (by omega) hs
            rcases hlast with ⟨l0, l1⟩ | ⟨l', w, l0, l1⟩
            · rw [l1]
              refine jbm rfl ⟨hii, hii, hfin _ (RG_way hG (by omega) ha hs hb hq hp hq3 (fun k hk => ?_) ?_ (fun k k1 k2 k3 k4 k5 => ?_) (fun w => ?_) (fun w => ?_) (fun i => ?_) (fun i hi => ?_) (fun a' s' ha' hs' hne => ?_) ?_) ⟨fun k hk => ?_, fun k hk => ?_, fun k => ?_⟩⟩
              · simp only [gS_sS, gS_sA, if_neg hk]
              · simp only [gS_sS, gS_sA, gS_sL, gS_fA, gS_fL, gA_sS, gA_sA, gA_sL, gA_fA, gA_fL, gL_sS, gL_sA, gL_sL, gL_fA, gL_fL, reduceIte, Nat.reduceEqDiff, jupd, jupdL]
              · simp only [gA_sS, gA_sA, if_neg k1, if_neg k2, if_neg k3, if_neg k4, if_neg k5]
              · simp only [gS_sS, gS_sA, gS_sL, gS_fA, gS_fL, gA_sS, gA_sA, gA_sL, gA_fA, gA_fL, gL_sS, gL_sA, gL_sL, gL_fA, gL_fL, reduceIte, Nat.reduceEqDiff, jupd, jupdL]
              · simp only [gS_sS, gS_sA, gS_sL, gS_fA, gS_fL, gA_sS, gA_sA, gA_sL, gA_fA, gA_fL, gL_sS, gL_sA, gL_sL, gL_fA, gL_fL, reduceIte, Nat.reduceEqDiff, jupd, jupdL]
              · simp only [gS_sS, gS_sA, gS_sL, gS_fA, gS_fL, gA_sS, gA_sA, gA_sL, gA_fA, gA_fL, gL_sS, gL_sA, gL_sL, gL_fA, gL_fL, reduceIte, Nat.reduceEqDiff, jupd, jupdL]
              · simp only [gS_sS, gS_sA, gS_sL, gS_fA, gS_fL, gA_sS, gA_sA, gA_sL, gA_fA, gA_fL, gL_sS, gL_sA, gL_sL, gL_fA, gL_fL, reduceIte, Nat.reduceEqDiff, jupd, jupdL, if_neg hi]
              · simp only [gS_sS, gS_sA, gS_sL, gS_fA, gS_fL, gA_sS, gA_sA, gA_sL, gA_fA, gA_fL, gL_sS, gL_sA, gL_sL, gL_fA, gL_fL, reduceIte, Nat.reduceEqDiff, jupd, jupdL]
                refine (hG.2.2.2.2.2.2.2.2.2.2.2.1 a' s' ha' hs').1.congr (fun x hx => ?_)
                have := (hmem a' s' x hx).1
                simp only [jupd, if_neg (show ¬ x = nW by omega)]
              · rw [l0]
                simp only [gS_sS, gS_sA, gS_sL, gS_fA, gS_fL, gA_sS, gA_sA, gA_sL, gA_fA, gA_fL, gL_sS, gL_sA, gL_sL, gL_fA, gL_fL, reduceIte, Nat.reduceEqDiff, jupd, jupdL]
                refine ⟨rfl, ?_⟩
                show _ = _
                simp only [jupd, reduceIte]
              · simp only [gS_sS, gS_sA, if_neg (show ¬ k = 2 by omega)]
              · simp only [gA_sS, gA_sA, if_neg (show ¬ k = 4 by omega), if_neg (show ¬ k = 5 by omega), if_neg (show ¬ k = 6 by omega), if_neg (show ¬ k = 7 by omega), if_neg (show ¬ k = 8 by omega)]
              · simp only [gL_sS, gL_sA]
            · have hwm : w ∈ wl τ a s nW := by rw [l0]; simp
              obtain ⟨hw1, hw2, hw3⟩ := hmem a s w hwm
              rw [l1, nI_clamp (show w < 2 ^ 31 by omega)]
              refine jbn (nI_m1 (by omega)) ⟨vp_in_nI (by omega) (by decide), hii, hfin _ (RG_way hG (by omega) ha hs hb hq hp hq3 (fun k hk => ?_) ?_ (fun k k1 k2 k3 k4 k5 => ?_) (fun w => ?_) (fun w => ?_) (fun i => ?_) (fun i hi => ?_) (fun a' s' ha' hs' hne => ?_) ?_) ⟨fun k hk => ?_, fun k hk => ?_, fun k => ?_⟩⟩
              · simp only [gS_sS, gS_sA, if_neg hk]
              · simp only [gS_sS, gS_sA, gS_sL, gS_fA, gS_fL, gA_sS, gA_sA, gA_sL, gA_fA, gA_fL, gL_sS, gL_sA, gL_sL, gL_fA, gL_fL, reduceIte, Nat.reduceEqDiff, jupd, jupdL]
              · simp only [gA_sS, gA_sA, if_neg k1, if_neg k2, if_neg k3, if_neg k5]
              · simp only [gS_sS, gS_sA, gS_sL, gS_fA, gS_fL, gA_sS, gA_sA, gA_sL, gA_fA, gA_fL, gL_sS, gL_sA, gL_sL, gL_fA, gL_fL, reduceIte, Nat.reduceEqDiff, jupd, jupdL]
              · simp only [gS_sS, gS_sA, gS_sL, gS_fA, gS_fL, gA_sS, gA_sA, gA_sL, gA_fA, gA_fL, gL_sS, gL_sA, gL_sL, gL_fA, gL_fL, reduceIte, Nat.reduceEqDiff, jupd, jupdL]
              · simp only [gS_sS, gS_sA, gS_sL, gS_fA, gS_fL, gA_sS, gA_sA, gA_sL, gA_fA, gA_fL, gL_sS, gL_sA, gL_sL, gL_fA, gL_fL, reduceIte, Nat.reduceEqDiff, jupd, jupdL]
              · simp only [gS_sS, gS_sA, gS_sL, gS_fA, gS_fL, gA_sS, gA_sA, gA_sL, gA_fA, gA_fL, gL_sS, gL_sA, gL_sL, gL_fA, gL_fL, reduceIte, Nat.reduceEqDiff, jupd, jupdL]
              · simp only [gS_sS, gS_sA, gS_sL, gS_fA, gS_fL, gA_sS, gA_sA, gA_sL, gA_fA, gA_fL, gL_sS, gL_sA, gL_sL, gL_fA, gL_fL, reduceIte, Nat.reduceEqDiff, jupd, jupdL]
                refine (hG.2.2.2.2.2.2.2.2.2.2.2.1 a' s' ha' hs').1.congr (fun x hx => ?_)
                obtain ⟨x1, x2, x3⟩ := hmem a' s' x hx
                have hxw : ¬ x = w := fun e => by
                  subst e
                  exact hne ⟨nI_inj (by omega) (by omega) (x2.symm.trans hw2), nI_inj (by omega) (by omega) (x3.symm.trans hw3)⟩
                simp only [jupd, if_neg hxw, if_neg (show ¬ x = nW by omega)]
              · have hnd : (wl τ a s nW).Nodup := selU_nodup _ _
                have hnp : ¬ nW ∈ wl τ a s nW := fun z => by have := (hmem a s nW z).1; omega
                rw [l0] at hch hnd hnp ⊢
                simp only [gS_sS, gS_sA, gS_sL, gS_fA, gS_fL, gA_sS, gA_sA, gA_sL, gA_fA, gA_fL, gL_sS, gL_sA, gL_sL, gL_fA, gL_fL, reduceIte, Nat.reduceEqDiff, jupd, jupdL]
                refine (Chn_snoc hch hnd hnp).congr (fun x hx => ?_)
                simp only [jupd]
              · simp only [gS_sS, gS_sA, if_neg (show ¬ k = 2 by omega)]
              · simp only [gA_sS, gA_sA, if_neg (show ¬ k = 4 by omega), if_neg (show ¬ k = 5 by omega), if_neg (show ¬ k = 6 by omega), if_neg (show ¬ k = 8 by omega)]
              · simp only [gL_sS, gL_sA]
