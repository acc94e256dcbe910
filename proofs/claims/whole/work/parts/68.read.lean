/-! ===== READ ===== -/
theorem selU_nodup (P : Nat → Bool) : ∀ n : Nat, (selU P n).Nodup
  | 0 => List.nodup_nil
  | n + 1 => by
    unfold selU
    split
    · refine List.nodup_append.mpr ⟨selU_nodup P n, by simp, fun a ha b hb => ?_⟩
      have h1 := (mem_selU.mp ha).1
      have h2 : b = n := by simpa using hb
      omega
    · exact selU_nodup P n
theorem Chn_snoc {nx : Nat → Int32} {w p : Nat} : ∀ {l : List Nat} {h : Int32}, Chn nx h (l ++ [w]) → (l ++ [w]).Nodup → ¬ p ∈ l ++ [w] → Chn (fun j => if j = w then nI p else if j = p then -1 else nx j) h (l ++ [w] ++ [p])
  | [], h, hc, _, hp => by
    obtain ⟨h1, h2⟩ := hc
    have hne : ¬ p = w := fun e => hp (by simp [e])
    refine ⟨h1, ?_, ?_⟩
    · show (if w = w then nI p else _) = nI p
      rw [if_pos rfl]
    · show (if p = w then nI p else if p = p then (-1 : Int32) else nx p) = -1
      rw [if_neg hne, if_pos rfl]
  | x :: l, h, hc, hd, hp => by
    obtain ⟨h1, h2⟩ := hc
    have hd' : (x :: (l ++ [w])).Nodup := hd
    rw [List.nodup_cons] at hd'
    have hxw : ¬ x = w := fun e => hd'.1 (by simp [e])
    have hxp : ¬ x = p := fun e => hp (by simp [e])
    refine ⟨h1, ?_⟩
    show Chn _ (if x = w then nI p else if x = p then (-1 : Int32) else nx x) (l ++ [w] ++ [p])
    rw [if_neg hxw, if_neg hxp]
    exact Chn_snoc h2 hd'.2 (fun z => hp (List.mem_cons_of_mem _ z))
theorem mem_rl {τ : St} {nP nCe nQ i q : Nat} {σ : St} (hD : RD nP nCe nQ σ τ) (hP : nP ≤ 3000) (h : q ∈ rl τ nQ i) : ∃ n, n < nQ ∧ gA τ 32 n = nI i ∧ gA τ 33 n = nI q ∧ q < nP := by
  unfold rl at h
  obtain ⟨n, hn, e⟩ := List.mem_map.mp h
  obtain ⟨h1, h2⟩ := mem_selU.mp hn
  obtain ⟨-, p, z1, z2, -⟩ := hD.2.1 n h1
  rw [z2, uv_of (by omega)] at e
  subst e
  exact ⟨n, h1, of_decide_eq_true h2, z2, z1⟩
theorem rl_nodup {τ : St} {nP nCe nQ i : Nat} {σ : St} (hD : RD nP nCe nQ σ τ) : (rl τ nQ i).Nodup := by
  unfold rl
  exact nodup_map (selU_nodup _ _) (fun x hx y hy e => hD.2.2.1 x y (mem_selU.mp hx).1 (mem_selU.mp hy).1 (uv_inj e))
def rdM (τ : St) (i p nQ : Nat) : St := sS (sA (sA τ 32 nQ (nI i)) 33 nQ (nI p)) 17 (nI (nQ + 1))
theorem rl_rdM {τ : St} {i p nQ i' : Nat} (hi : i < 2000) (hi' : i' < 2000) (hp : p < 3000) : rl (rdM τ i p nQ) (nQ + 1) i' = if i' = i then rl τ nQ i' ++ [p] else rl τ nQ i' := by
  have e : ∀ n, n < nQ → ¬ n = nQ := fun n hn => by omega
  unfold rl rdM
  simp only [gS_sS, gS_sA, gS_sL, gS_fA, gS_fL, gA_sS, gA_sA, gA_sL, gA_fA, gA_fL, gL_sS, gL_sA, gL_sL, gL_fA, gL_fL, reduceIte, Nat.reduceEqDiff, jupd, jupdL]
  have e1 : selU (fun n => decide ((if n = nQ then nI i else gA τ 32 n) = nI i')) nQ = selU (fun n => decide (gA τ 32 n = nI i')) nQ := selU_congr (fun n hn => by simp only [if_neg (e n hn)])
  have e2 : (selU (fun n => decide (gA τ 32 n = nI i')) nQ).map (fun n => uv (if n = nQ then nI p else gA τ 33 n)) = (selU (fun n => decide (gA τ 32 n = nI i')) nQ).map (fun n => uv (gA τ 33 n)) := List.map_congr_left (fun n hn => by simp only [if_neg (e n (mem_selU.mp hn).1)])
  have e3 : selU (fun n => decide ((if n = nQ then nI i else gA τ 32 n) = nI i')) (nQ + 1) = if i' = i then selU (fun n => decide (gA τ 32 n = nI i')) nQ ++ [nQ] else selU (fun n => decide (gA τ 32 n = nI i')) nQ := by
    show (if (decide ((if nQ = nQ then nI i else gA τ 32 nQ) = nI i')) = true then _ ++ [nQ] else _) = _
    rw [e1]
    by_cases x : i' = i
    · rw [if_pos x, if_pos (by simp [x])]
    · rw [if_neg x, if_neg (by
        simp only [reduceIte, decide_eq_true_eq]
        exact fun z => x (nI_inj (by omega) (by omega) z).symm)]
  rw [e3]
  by_cases x : i' = i
  · rw [if_pos x, if_pos x, List.map_append, e2]
    simp only [List.map_cons, List.map_nil, reduceIte]
    rw [uv_of (by omega)]
  · rw [if_neg x, if_neg x, e2]
theorem fire_read {cx : Cx} {nA nW nT nC nP m hd nR nCe nQ p a c k q : Nat} {pr : Nat → Nat} {σ τ : St} (hF : Fire cx nA nW nT nC nP m hd nR nCe nQ p a c k q pr σ τ) (hk : k = 18) :
    ∃ (σ' τ' : St) (r : Int32), (∀ K : St → Prop, K σ' → w_X4_goRead σ (nI p) (nI a) (nI c) K) ∧ (∀ K : Int32 → St → Prop, K r τ' → w_X10_goesOff τ (nI p) K) ∧ Done cx nA nW nT hd σ' τ' ∧ zb r := by
  have hcase := cell_case hF (Or.inl hk)
  obtain ⟨hG, hR, hgo, hp, h14, h15, ha, hc, h0, hk22, h2, hq1, hq3, hjq, hvr, h17, hq2, hr1, hr2⟩ := hF
  have hP := hR.2.1.1
  have hA := hG.1
  have hS := hR.2.2.2.2.2.1
  have hR3 := hS.1
  have hp3 : p < 3000 := by omega
  have ha8 : a < 80 := by omega
  have hpi : vp_in (nI p) 3000 := vp_in_nI hp3 (by decide)
  subst hk
  rcases hcase with ⟨y, kk, v, of, f1, f2, f3, f4⟩ | ⟨r, ii, s, z, y1, y2, y3, y4, y5, y6, y7, y8, f3, f4⟩
  · obtain ⟨σ', τ', r, z1, z2, z3, z4⟩ := gv hG hR hgo ha8 (show 0 < 2 by decide) hc f1
    refine ⟨σ', τ', r, fun K hK => ?_, fun K hK => f4 K (z2 K hK), z3, z4⟩
    unfold w_X4_goRead
    exact f3 _ (fun pl => jbn f2 (z1 K hK))
  · have hCe := hS.2.1
    have hii : vp_in (nI (s + ii)) 2000 := vp_in_nI (by omega) (by decide)
    have hri : vp_in (nI r) 300 := vp_in_nI (by omega) (by decide)
    have hbody : ∀ K : Int32 → St → Prop, ((gA τ 29 (s + ii) ≤ 0 → (vp_in (gS τ 17) 3000 ∧ vp_in (gS τ 17) 3000 ∧ K 1 (sS (sA (sA τ 32 (gS τ 17).toNatClampNeg (nI (s + ii))) 33 (gS τ 17).toNatClampNeg (nI p)) 17 (gS τ 17 + 1)))) ∧ (¬ gA τ 29 (s + ii) ≤ 0 → w_X10_gives τ (nI a) 0 (nI c) (gA τ 29 (s + ii)) (gA τ 30 (s + ii)) (gA τ 31 (s + ii)) K)) → w_X10_goesOff τ (nI p) K := fun K h => by
      refine f4 K ?_
      unfold b_X10_cells_50
      refine ev_valueAt (j := 0) hp3 (by decide) (jbn (by decide) ?_)
      refine ev_valueAt (j := 1) hp3 (by decide) ?_
      rw [y7, y8, nI_clamp (show r < 2 ^ 31 by omega), y6]
      refine ⟨hri, ev_in_ok (nI_pos (by omega)) (in_in y2 (by omega)) ?_⟩
      rw [y5, nI_add, nI_clamp (show s + ii < 2 ^ 31 by omega)]
      exact jbn (by decide) ⟨hri, jbm rfl ⟨hii, h.1, fun x => ⟨hii, hii, hii, h.2 x⟩⟩⟩
    have hcl : ∀ K : St → Prop, ((¬ lg_cmp (gL σ 3 (s + ii)) 0 = 0 → w_X4_give σ (nI a) 0 (nI c) (gL σ 3 (s + ii)) K) ∧ (lg_cmp (gL σ 3 (s + ii)) 0 = 0 → w_X6_addReader σ (nI (s + ii)) (nI p) K)) → w_X4_goRead σ (nI p) (nI a) (nI c) K := fun K h => by
      unfold w_X4_goRead
      refine f3 _ (jbm lg00 (jbn (nI_m1 (by omega)) ⟨hii, ?_⟩))
      rw [nI_clamp (show s + ii < 2 ^ 31 by omega)]
      exact h
    rcases hS.2.2.2.2.2.2.2.2.2 (s + ii) (by omega) with ⟨g1, g2⟩ | hve
    · obtain ⟨hDw, hD⟩ := hR.2.2.2.2.2.2.2.1
      have hQ3 : nQ < 3000 := by
        have := sm_le (f := fun p => if gA τ 17 p = 2 then 1 else 0) (b := 1) (n := nP) (fun i _ => by split <;> omega)
        omega
      have h17q : gS τ 17 = nI nQ := hDw.1
      have hrp : ∀ i, ¬ p ∈ rl τ nQ i := fun i h => by
        obtain ⟨n, n1, -, n3, -⟩ := mem_rl hD hP h
        exact hr1 n n1 n3
      have hfin : ∀ σ' : St, FsC σ σ' → gS σ' 11 = gS σ 11 + 1 → gS σ' 12 = gS σ 12 → gS σ' 13 = gS σ 13 → gA σ' 13 = gA σ 13 → gA σ' 14 = gA σ 14 → gA σ' 15 = gA σ 15 → gL σ' 3 = gL σ 3 → (∀ i', ¬ i' = s + ii → gA σ' 16 i' = gA σ 16 i' ∧ gA σ' 17 i' = gA σ 17 i') → gA σ' 17 (s + ii) = nI p → (∀ i', i' < nCe → ¬ i' = s + ii → Chn (gA σ' 18) (gA σ 16 i') (rl τ nQ i')) → Chn (gA σ' 18) (gA σ' 16 (s + ii)) (rl τ nQ (s + ii) ++ [p]) → (∀ K : St → Prop, K σ' → w_X6_addReader σ (nI (s + ii)) (nI p) K) → ∃ (σ' τ' : St) (r : Int32), (∀ K : St → Prop, K σ' → w_X4_goRead σ (nI p) (nI a) (nI c) K) ∧ (∀ K : Int32 → St → Prop, K r τ' → w_X10_goesOff τ (nI p) K) ∧ Done cx nA nW nT hd σ' τ' ∧ zb r := by
        intro σ' fC s11 s12 s13 a13 a14 a15 l3 aoth a17 choth chi hadd
        have fM : FsM τ (rdM τ (s + ii) p nQ) := by
          refine ⟨fun k k1 k2 k3 => ?_, fun k hk => ?_⟩
          · unfold rdM; simp only [gS_sS, gS_sA, if_neg k3]
          · unfold rdM; simp only [gA_sS, gA_sA, if_neg (show ¬ k = 32 by omega), if_neg (show ¬ k = 33 by omega)]
        have eQ : ∀ n, n < nQ → ¬ n = nQ := fun n hn => by omega
        refine ⟨σ', rdM τ (s + ii) p nQ, 1, fun K hK => hcl K (jbm ((lgc0 _ _).mpr g1) (hadd K hK)), fun K hK => hbody K (jbr (by rw [g2]; decide) ?_), ⟨nC, nP, m, nR, nCe, nQ + 1, pr, hG.fs fC fM, RR_store hR fC fM (Nat.le_refl _) ?_ ?_ ?_ ?_, Or.inl (hgo.fs fC fM)⟩, Or.inr rfl⟩
        · rw [h17q, nI_clamp (show nQ < 2 ^ 31 by omega), nI_1]
          exact ⟨vp_in_nI hQ3 (by decide), vp_in_nI hQ3 (by decide), hK⟩
        · unfold RS at hS ⊢
          rw [s12, s13, a13, a14, a15, l3]
          unfold rdM
          simp only [gS_sS, gS_sA, gS_sL, gS_fA, gS_fL, gA_sS, gA_sA, gA_sL, gA_fA, gA_fL, gL_sS, gL_sA, gL_sL, gL_fA, gL_fL, reduceIte, Nat.reduceEqDiff, jupd, jupdL]
          exact hS
        · have := hR.2.2.2.2.2.2.1
          unfold RSm at this ⊢
          unfold rdM
          simp only [gS_sS, gS_sA, gS_sL, gS_fA, gS_fL, gA_sS, gA_sA, gA_sL, gA_fA, gA_fL, gL_sS, gL_sA, gL_sL, gL_fA, gL_fL, reduceIte, Nat.reduceEqDiff, jupd, jupdL]
          exact this
        · obtain ⟨w1, w2, w3, w4⟩ := hDw
          unfold RDw rdM
          simp only [gS_sS, gS_sA, gS_sL, gS_fA, gS_fL, gA_sS, gA_sA, gA_sL, gA_fA, gA_fL, gL_sS, gL_sA, gL_sL, gL_fA, gL_fL, reduceIte, Nat.reduceEqDiff, jupd, jupdL]
          refine ⟨trivial, by omega, ?_, fun n hn => ?_⟩
          · rw [s11, w3, sm_succ (f := fun n => if gA τ 32 n = -1 then 0 else 1) (fun n hn => by simp only [if_neg (eQ n hn)])]
            simp only [reduceIte]
            rw [if_neg (nI_m1 (show s + ii < 2 ^ 31 by omega)), nI_1]
          · by_cases x : n = nQ
            · simp only [if_pos x]
              exact Or.inr ⟨s + ii, by omega, rfl⟩
            · simp only [if_neg x]
              exact w4 n (by omega)
        · obtain ⟨w1, w2, w3, w4⟩ := hD
          refine ⟨?_, fun n hn => ?_, fun n n' hn hn' e => ?_, fun i' hi' => ?_⟩
          · rw [fM.2 17 (by decide)]; exact hq2
          · unfold rdM
            simp only [gS_sS, gS_sA, gS_sL, gS_fA, gS_fL, gA_sS, gA_sA, gA_sL, gA_fA, gA_fL, gL_sS, gL_sA, gL_sL, gL_fA, gL_fL, reduceIte, Nat.reduceEqDiff, jupd, jupdL]
            by_cases x : n = nQ
            · simp only [if_pos x]
              exact ⟨Or.inr ⟨s + ii, by omega, rfl⟩, p, hp, rfl, h17⟩
            · simp only [if_neg x]
              exact w2 n (by omega)
          · unfold rdM at e
            simp only [gS_sS, gS_sA, gS_sL, gS_fA, gS_fL, gA_sS, gA_sA, gA_sL, gA_fA, gA_fL, gL_sS, gL_sA, gL_sL, gL_fA, gL_fL, reduceIte, Nat.reduceEqDiff, jupd, jupdL] at e
            by_cases x : n = nQ
            · by_cases y : n' = nQ
              · omega
              · rw [if_pos x, if_neg y] at e
                exact absurd e.symm (hr1 n' (by omega))
            · by_cases y : n' = nQ
              · rw [if_neg x, if_pos y] at e
                exact absurd e (hr1 n (by omega))
              · rw [if_neg x, if_neg y] at e
                exact w3 n n' (by omega) (by omega) e
          · rw [rl_rdM (by omega) (by omega) hp3]
            by_cases x : i' = s + ii
            · subst x
              rw [if_pos rfl]
              exact ⟨chi, fun _ => Or.inr ⟨_, p, rfl, a17⟩⟩
            · rw [if_neg x, (aoth i' x).1, (aoth i' x).2, l3]
              exact ⟨choth i' hi' x, (w4 i' hi').2⟩
      obtain ⟨hch, hlast⟩ := hD.2.2.2 (s + ii) (by omega)
      rcases hlast g1 with ⟨l0, l1⟩ | ⟨l', w, l0, l1⟩
      · refine hfin (sS (sA (sA (sA σ 18 p (-1)) 16 (s + ii) (nI p)) 17 (s + ii) (nI p)) 11 (gS σ 11 + 1)) ⟨fun k k1 k2 k3 => ?_, fun k hk => ?_, fun k hk => ?_⟩ ?_ ?_ ?_ ?_ ?_ ?_ ?_ (fun i' hi' => ?_) ?_ (fun i' hi' hne => ?_) ?_ (fun K hK => ?_)
        · simp only [gS_sS, gS_sA, if_neg k1]
        · simp only [gA_sS, gA_sA, if_neg (show ¬ k = 18 by omega), if_neg (show ¬ k = 17 by omega), if_neg (show ¬ k = 16 by omega)]
        · simp only [gL_sS, gL_sA]
        · simp only [gS_sS, gS_sA, gS_sL, gS_fA, gS_fL, gA_sS, gA_sA, gA_sL, gA_fA, gA_fL, gL_sS, gL_sA, gL_sL, gL_fA, gL_fL, reduceIte, Nat.reduceEqDiff, jupd, jupdL]
        · simp only [gS_sS, gS_sA, gS_sL, gS_fA, gS_fL, gA_sS, gA_sA, gA_sL, gA_fA, gA_fL, gL_sS, gL_sA, gL_sL, gL_fA, gL_fL, reduceIte, Nat.reduceEqDiff, jupd, jupdL]
        · simp only [gS_sS, gS_sA, gS_sL, gS_fA, gS_fL, gA_sS, gA_sA, gA_sL, gA_fA, gA_fL, gL_sS, gL_sA, gL_sL, gL_fA, gL_fL, reduceIte, Nat.reduceEqDiff, jupd, jupdL]
        · simp only [gS_sS, gS_sA, gS_sL, gS_fA, gS_fL, gA_sS, gA_sA, gA_sL, gA_fA, gA_fL, gL_sS, gL_sA, gL_sL, gL_fA, gL_fL, reduceIte, Nat.reduceEqDiff, jupd, jupdL]
        · simp only [gS_sS, gS_sA, gS_sL, gS_fA, gS_fL, gA_sS, gA_sA, gA_sL, gA_fA, gA_fL, gL_sS, gL_sA, gL_sL, gL_fA, gL_fL, reduceIte, Nat.reduceEqDiff, jupd, jupdL]
        · simp only [gS_sS, gS_sA, gS_sL, gS_fA, gS_fL, gA_sS, gA_sA, gA_sL, gA_fA, gA_fL, gL_sS, gL_sA, gL_sL, gL_fA, gL_fL, reduceIte, Nat.reduceEqDiff, jupd, jupdL]
        · simp only [gS_sS, gS_sA, gS_sL, gS_fA, gS_fL, gA_sS, gA_sA, gA_sL, gA_fA, gA_fL, gL_sS, gL_sA, gL_sL, gL_fA, gL_fL, reduceIte, Nat.reduceEqDiff, jupd, jupdL]
        · simp only [gS_sS, gS_sA, gS_sL, gS_fA, gS_fL, gA_sS, gA_sA, gA_sL, gA_fA, gA_fL, gL_sS, gL_sA, gL_sL, gL_fA, gL_fL, reduceIte, Nat.reduceEqDiff, jupd, jupdL, if_neg hi']; exact ⟨trivial, trivial⟩
        · simp only [gS_sS, gS_sA, gS_sL, gS_fA, gS_fL, gA_sS, gA_sA, gA_sL, gA_fA, gA_fL, gL_sS, gL_sA, gL_sL, gL_fA, gL_fL, reduceIte, Nat.reduceEqDiff, jupd, jupdL]
        · simp only [gS_sS, gS_sA, gS_sL, gS_fA, gS_fL, gA_sS, gA_sA, gA_sL, gA_fA, gA_fL, gL_sS, gL_sA, gL_sL, gL_fA, gL_fL, reduceIte, Nat.reduceEqDiff, jupd, jupdL]
          refine (hD.2.2.2 i' hi').1.congr (fun q hq => ?_)
          have : ¬ q = p := fun e => hrp i' (e ▸ hq)
          simp only [jupd, if_neg this]
        · rw [l0]
          simp only [gS_sS, gS_sA, gS_sL, gS_fA, gS_fL, gA_sS, gA_sA, gA_sL, gA_fA, gA_fL, gL_sS, gL_sA, gL_sL, gL_fA, gL_fL, reduceIte, Nat.reduceEqDiff, jupd, jupdL]
          refine ⟨rfl, ?_⟩
          show _ = _
          simp only [jupd, reduceIte]
        · unfold w_X6_addReader b_X6_addReader_36
          rw [nI_clamp (show s + ii < 2 ^ 31 by omega), nI_clamp (show p < 2 ^ 31 by omega), l1]
          refine ⟨hpi, hii, jbm rfl ⟨hii, hii, ?_⟩⟩
          simp only [gS_sA]
          exact hK
      · have hwm : w ∈ rl τ nQ (s + ii) := by rw [l0]; simp
        obtain ⟨nw, nw1, nw2, nw3, nw4⟩ := mem_rl hD hP hwm
        have hpw : ¬ p = w := fun e => hrp _ (e ▸ hwm)
        refine hfin (sS (sA (sA (sA σ 18 p (-1)) 18 w (nI p)) 17 (s + ii) (nI p)) 11 (gS σ 11 + 1)) ⟨fun k k1 k2 k3 => ?_, fun k hk => ?_, fun k hk => ?_⟩ ?_ ?_ ?_ ?_ ?_ ?_ ?_ (fun i' hi' => ?_) ?_ (fun i' hi' hne => ?_) ?_ (fun K hK => ?_)
        · simp only [gS_sS, gS_sA, if_neg k1]
        · simp only [gA_sS, gA_sA, if_neg (show ¬ k = 18 by omega), if_neg (show ¬ k = 17 by omega)]
        · simp only [gL_sS, gL_sA]
        · simp only [gS_sS, gS_sA, gS_sL, gS_fA, gS_fL, gA_sS, gA_sA, gA_sL, gA_fA, gA_fL, gL_sS, gL_sA, gL_sL, gL_fA, gL_fL, reduceIte, Nat.reduceEqDiff, jupd, jupdL]
        · simp only [gS_sS, gS_sA, gS_sL, gS_fA, gS_fL, gA_sS, gA_sA, gA_sL, gA_fA, gA_fL, gL_sS, gL_sA, gL_sL, gL_fA, gL_fL, reduceIte, Nat.reduceEqDiff, jupd, jupdL]
        · simp only [gS_sS, gS_sA, gS_sL, gS_fA, gS_fL, gA_sS, gA_sA, gA_sL, gA_fA, gA_fL, gL_sS, gL_sA, gL_sL, gL_fA, gL_fL, reduceIte, Nat.reduceEqDiff, jupd, jupdL]
        · simp only [gS_sS, gS_sA, gS_sL, gS_fA, gS_fL, gA_sS, gA_sA, gA_sL, gA_fA, gA_fL, gL_sS, gL_sA, gL_sL, gL_fA, gL_fL, reduceIte, Nat.reduceEqDiff, jupd, jupdL]
        · simp only [gS_sS, gS_sA, gS_sL, gS_fA, gS_fL, gA_sS, gA_sA, gA_sL, gA_fA, gA_fL, gL_sS, gL_sA, gL_sL, gL_fA, gL_fL, reduceIte, Nat.reduceEqDiff, jupd, jupdL]
        · simp only [gS_sS, gS_sA, gS_sL, gS_fA, gS_fL, gA_sS, gA_sA, gA_sL, gA_fA, gA_fL, gL_sS, gL_sA, gL_sL, gL_fA, gL_fL, reduceIte, Nat.reduceEqDiff, jupd, jupdL]
        · simp only [gS_sS, gS_sA, gS_sL, gS_fA, gS_fL, gA_sS, gA_sA, gA_sL, gA_fA, gA_fL, gL_sS, gL_sA, gL_sL, gL_fA, gL_fL, reduceIte, Nat.reduceEqDiff, jupd, jupdL]
        · simp only [gS_sS, gS_sA, gS_sL, gS_fA, gS_fL, gA_sS, gA_sA, gA_sL, gA_fA, gA_fL, gL_sS, gL_sA, gL_sL, gL_fA, gL_fL, reduceIte, Nat.reduceEqDiff, jupd, jupdL, if_neg hi']; exact ⟨trivial, trivial⟩
        · simp only [gS_sS, gS_sA, gS_sL, gS_fA, gS_fL, gA_sS, gA_sA, gA_sL, gA_fA, gA_fL, gL_sS, gL_sA, gL_sL, gL_fA, gL_fL, reduceIte, Nat.reduceEqDiff, jupd, jupdL]
        · simp only [gS_sS, gS_sA, gS_sL, gS_fA, gS_fL, gA_sS, gA_sA, gA_sL, gA_fA, gA_fL, gL_sS, gL_sA, gL_sL, gL_fA, gL_fL, reduceIte, Nat.reduceEqDiff, jupd, jupdL]
          refine (hD.2.2.2 i' hi').1.congr (fun q hq => ?_)
          have h1 : ¬ q = p := fun e => hrp i' (e ▸ hq)
          have h2 : ¬ q = w := fun e => by
            obtain ⟨n, n1, n2, n3, n4⟩ := mem_rl hD hP hq
            rw [e] at n3
            have := hD.2.2.1 n nw n1 nw1 (n3.trans nw3.symm)
            subst this
            exact hne (nI_inj (by omega) (by omega) (n2.symm.trans nw2))
          simp only [jupd, if_neg h1, if_neg h2]
        · have hnd := rl_nodup (i := s + ii) hD
          have hnp := hrp (s + ii)
          rw [l0] at hch hnd hnp ⊢
          simp only [gS_sS, gS_sA, gS_sL, gS_fA, gS_fL, gA_sS, gA_sA, gA_sL, gA_fA, gA_fL, gL_sS, gL_sA, gL_sL, gL_fA, gL_fL, reduceIte, Nat.reduceEqDiff, jupd, jupdL]
          refine (Chn_snoc hch hnd hnp).congr (fun q hq => ?_)
          simp only [jupd]
        · unfold w_X6_addReader b_X6_addReader_36
          rw [nI_clamp (show s + ii < 2 ^ 31 by omega), nI_clamp (show p < 2 ^ 31 by omega), l1, nI_clamp (show w < 2 ^ 31 by omega)]
          refine ⟨hpi, hii, jbn (nI_m1 (by omega)) ⟨vp_in_nI (by omega) (by decide), hii, ?_⟩⟩
          simp only [gS_sA]
          exact hK
    · obtain ⟨σ', τ', r, z1, z2, z3, z4⟩ := gv hG hR hgo ha8 (show 0 < 2 by decide) hc hve
      exact ⟨σ', τ', r, fun K hK => hcl K (jbn (lgne (hve.ne0 hR3)) (z1 K hK)), fun K hK => hbody K (jbf (Int32.not_le.mpr hve.kpos.1) (z2 K hK)), z3, z4⟩
