/-! ===== what is given along the ways ===== -/
def selR (P : Nat → Bool) : Nat → Nat → List Nat
  | 0, _ => []
  | d + 1, w => if P w then w :: selR P d (w + 1) else selR P d (w + 1)
theorem selU_R (P : Nat → Bool) : ∀ (d w : Nat), selU P (w + d) = selU P w ++ selR P d w
  | 0, w => by simp [selR]
  | d + 1, w => by
    rw [show w + (d + 1) = (w + 1) + d by omega, selU_R P d (w + 1)]
    show (if P w then selU P w ++ [w] else selU P w) ++ _ = selU P w ++ (if P w then w :: selR P d (w + 1) else selR P d (w + 1))
    by_cases h : P w = true
    · rw [if_pos h, if_pos h, List.append_assoc]; rfl
    · rw [if_neg h, if_neg h]
theorem selU_R0 (P : Nat → Bool) (n : Nat) : selU P n = selR P n 0 := by
  have := selU_R P n 0
  rw [Nat.zero_add] at this
  rw [this]
  rfl
theorem selR_len (P : Nat → Bool) : ∀ (d w : Nat), (selR P d w).length ≤ d
  | 0, _ => Nat.le_refl 0
  | d + 1, w => by
    show (if P w then w :: selR P d (w + 1) else selR P d (w + 1)).length ≤ d + 1
    have := selR_len P d (w + 1)
    split
    · simp; exact this
    · omega
theorem lp_give {cx : Cx} {nA nW nT hd nR nCe nQ nC a s c : Nat} {pr : Nat → Nat} {x : Int64} {kk v of : Int32} {f3 f4 : Nat → Int32} (hc : c < nC) (hv : vr nR x kk v of) (hW3 : nW ≤ 300) :
    ∀ (d w i nP m : Nat) (h : Int32) (σ τ : St), w + d = nW → RG nA nW nT σ τ → RR cx nA nC nP m hd nR nCe nQ pr σ τ → Go σ τ → gA τ 3 = f3 → gA τ 4 = f4 → Chn (gA σ 6) h (selR (fun w => decide (f3 w = nI a) && decide (f4 w = nI s)) d w) → i + d ≤ 300 →
    ∃ (σ' τ' : St) (r : Int32) (nP' m' : Nat), (∀ K : St → Prop, K σ' → ∀ n, d < n → w_X4_give_25 K n σ (nI c) x h (nI i)) ∧ (∀ K : Int32 → St → Prop, K r τ' → ∀ n, d < n → w_X10_gives_3 K n τ (nI a) (nI s) (nI c) kk v of (nI w)) ∧ RR cx nA nC nP' m' hd nR nCe nQ pr σ' τ' ∧ nP ≤ nP' ∧ FrC σ σ' ∧ FrM nP τ τ' ∧ ((r = 1 ∧ Go σ' τ') ∨ (r = 0 ∧ Hlt σ' τ')) := by
  intro d
  induction d with
  | zero =>
    intro w i nP m h σ τ hw hG hR hgo _ _ hch hi
    have hch : h = -1 := hch
    refine ⟨σ, τ, 1, nP, m, fun K hK n hn => ?_, fun K hK n hn => ?_, hR, Nat.le_refl _, FrC.rf σ, FrM.rf nP τ, Or.inl ⟨rfl, hgo⟩⟩
    · obtain ⟨n, rfl⟩ : ∃ z, n = z + 1 := ⟨n - 1, by omega⟩
      show b_X4_give_25 (w_X4_give_25 K n) K σ (nI c) x h (nI i)
      unfold b_X4_give_25
      exact ⟨fun _ => hK, fun _ => jbr hch hK⟩
    · obtain ⟨n, rfl⟩ : ∃ z, n = z + 1 := ⟨n - 1, by omega⟩
      show b_X10_gives_3 (w_X10_gives_3 K n) K τ (nI a) (nI s) (nI c) kk v of (nI w)
      unfold b_X10_gives_3
      rw [hG.2.2.2.2.2.2.1]
      exact jbr (nI_le (by omega) (by omega)) hK
  | succ d ih =>
    intro w i nP m h σ τ hw hG hR hgo h3 h4 hch hi
    have hwlt : w < nW := by omega
    have hwi : vp_in (nI w) 300 := vp_in_nI (by omega) (by decide)
    have hsw : gS τ 1 = nI nW := hG.2.2.2.2.2.2.1
    have hnle : ¬ gS τ 1 ≤ nI w := by rw [hsw]; exact nI_ge hwlt (by omega)
    have hcd : Chn (gA σ 6) h (if (decide (f3 w = nI a) && decide (f4 w = nI s)) then w :: selR (fun w => decide (f3 w = nI a) && decide (f4 w = nI s)) d (w + 1) else selR (fun w => decide (f3 w = nI a) && decide (f4 w = nI s)) d (w + 1)) := hch
    by_cases hp : f3 w = nI a ∧ f4 w = nI s
    · rw [if_pos (by rw [hp.1, hp.2]; simp)] at hcd
      clear hch
      obtain ⟨rfl, hch⟩ := hcd
      obtain ⟨y1, y2, -, -, b, k, q, g1, g2, g3, g4, g5, g6⟩ := hG.2.2.2.2.2.2.2.2.2.2.1 w hwlt
      obtain ⟨σ1, τ1, r1, nP1, m1, k1, k2, k3, k4, k5, k6, k7⟩ := sim_arrive (x := x) (kk := kk) (v := v) (of := of) hG hR hgo g1 g4 g5 g6 hc hv
      have hG1 : RG nA nW nT σ1 τ1 := hG.fr k5 k6
      rcases k7 with ⟨rfl, hgo1⟩ | ⟨rfl, hlt⟩
      · obtain ⟨σ', τ', r, nP', m', z1, z2, z3, z4, z5, z6, z7⟩ := ih (w + 1) (i + 1) nP1 m1 (gA σ1 6 w) σ1 τ1 (by omega) hG1 k3 hgo1 (by rw [k6.2.1 3 (by decide)]; exact h3) (by rw [k6.2.1 4 (by decide)]; exact h4) (by rw [k5.2.1 6 (by decide)]; exact hch) (by omega)
        refine ⟨σ', τ', r, nP', m', fun K hK n hn => ?_, fun K hK n hn => ?_, z3, by omega, k5.tr z5, k6.tr z6 k4, z7⟩
        · obtain ⟨n, rfl⟩ : ∃ z, n = z + 1 := ⟨n - 1, by omega⟩
          show b_X4_give_25 (w_X4_give_25 K n) K σ (nI c) x (nI w) (nI i)
          unfold b_X4_give_25
          refine jbf (nI_ge (a := i) (b := 300) (by omega) (by decide)) (jbf (nI_m1 (by omega)) (jbm hgo.1 ⟨hwi, hwi, ?_⟩))
          rw [nI_clamp (show w < 2 ^ 31 by omega), ← y1, ← y2, g2, g3]
          refine k1 _ ⟨hwi, ?_⟩
          rw [nI_1]
          exact z1 K hK n (by omega)
        · obtain ⟨n, rfl⟩ : ∃ z, n = z + 1 := ⟨n - 1, by omega⟩
          show b_X10_gives_3 (w_X10_gives_3 K n) K τ (nI a) (nI s) (nI c) kk v of (nI w)
          unfold b_X10_gives_3
          refine jbf hnle ⟨hwi, ?_⟩
          rw [nI_clamp (show w < 2 ^ 31 by omega), h3, h4]
          refine jbm hp.1 ⟨hwi, jbm hp.2 ⟨hwi, hwi, ?_⟩⟩
          rw [g2, g3]
          refine k2 _ (jbn (by decide) ?_)
          rw [nI_1]
          exact z2 K hK n (by omega)
      · refine ⟨σ1, τ1, 0, nP1, m1, fun K hK n hn => ?_, fun K hK n hn => ?_, k3, k4, k5, k6, Or.inr ⟨rfl, hlt⟩⟩
        · obtain ⟨n, rfl⟩ : ∃ z, n = z + 1 := ⟨n - 1, by omega⟩
          show b_X4_give_25 (w_X4_give_25 K n) K σ (nI c) x (nI w) (nI i)
          unfold b_X4_give_25
          refine jbf (nI_ge (a := i) (b := 300) (by omega) (by decide)) (jbf (nI_m1 (by omega)) (jbm hgo.1 ⟨hwi, hwi, ?_⟩))
          rw [nI_clamp (show w < 2 ^ 31 by omega), ← y1, ← y2, g2, g3]
          refine k1 _ ⟨hwi, ?_⟩
          obtain ⟨n, rfl⟩ : ∃ z, n = z + 1 := ⟨n - 1, by omega⟩
          show b_X4_give_25 (w_X4_give_25 K n) K σ1 (nI c) x (gA σ1 6 w) (nI i + 1)
          unfold b_X4_give_25
          exact ⟨fun _ => hK, fun _ => ⟨fun _ => hK, fun _ => jbn hlt.2.2.1 hK⟩⟩
        · obtain ⟨n, rfl⟩ : ∃ z, n = z + 1 := ⟨n - 1, by omega⟩
          show b_X10_gives_3 (w_X10_gives_3 K n) K τ (nI a) (nI s) (nI c) kk v of (nI w)
          unfold b_X10_gives_3
          refine jbf hnle ⟨hwi, ?_⟩
          rw [nI_clamp (show w < 2 ^ 31 by omega), h3, h4]
          refine jbm hp.1 ⟨hwi, jbm hp.2 ⟨hwi, hwi, ?_⟩⟩
          rw [g2, g3]
          exact k2 _ (jbm rfl hK)
    · rw [if_neg (by simp only [Bool.and_eq_true, decide_eq_true_eq]; exact hp)] at hcd
      clear hch
      have hch := hcd
      obtain ⟨σ', τ', r, nP', m', z1, z2, z3, z4, z5, z6, z7⟩ := ih (w + 1) i nP m h σ τ (by omega) hG hR hgo h3 h4 hch (by omega)
      refine ⟨σ', τ', r, nP', m', fun K hK n hn => z1 K hK n (by omega), fun K hK n hn => ?_, z3, z4, z5, z6, z7⟩
      obtain ⟨n, rfl⟩ : ∃ z, n = z + 1 := ⟨n - 1, by omega⟩
      show b_X10_gives_3 (w_X10_gives_3 K n) K τ (nI a) (nI s) (nI c) kk v of (nI w)
      unfold b_X10_gives_3
      refine jbf hnle ⟨hwi, ?_⟩
      rw [nI_clamp (show w < 2 ^ 31 by omega), h3, h4, nI_1]
      by_cases e : f3 w = nI a
      · exact jbm e ⟨hwi, jbn (fun z => hp ⟨e, z⟩) (z2 K hK n (by omega))⟩
      · exact jbn e (z2 K hK n (by omega))
theorem sim_give {cx : Cx} {nA nW nT nC nP m hd nR nCe nQ a s c : Nat} {pr : Nat → Nat} {σ τ : St} {x : Int64} {kk v of : Int32} (hG : RG nA nW nT σ τ) (hR : RR cx nA nC nP m hd nR nCe nQ pr σ τ) (hgo : Go σ τ) (ha : a < 80) (hs : s < 2) (hc : c < nC) (hv : vr nR x kk v of) :
    ∃ (σ' τ' : St) (r : Int32) (nP' m' : Nat), (∀ K : St → Prop, K σ' → w_X4_give σ (nI a) (nI s) (nI c) x K) ∧ (∀ K : Int32 → St → Prop, K r τ' → w_X10_gives τ (nI a) (nI s) (nI c) kk v of K) ∧ RR cx nA nC nP' m' hd nR nCe nQ pr σ' τ' ∧ nP ≤ nP' ∧ FrC σ σ' ∧ FrM nP τ τ' ∧ ((r = 1 ∧ Go σ' τ') ∨ (r = 0 ∧ Hlt σ' τ')) := by
  have hch := (hG.2.2.2.2.2.2.2.2.2.2.2.1 a s ha hs).1
  unfold wl at hch
  rw [selU_R0] at hch
  obtain ⟨σ', τ', r, nP', m', z1, z2, z3⟩ := lp_give (a := a) (s := s) hc hv hG.2.1 nW 0 0 nP m _ σ τ (Nat.zero_add nW) hG hR hgo rfl rfl hch (by have := hG.2.1; omega)
  refine ⟨σ', τ', r, nP', m', fun K hK => ?_, fun K hK => ⟨nW + 1, z2 K hK (nW + 1) (by omega)⟩, z3⟩
  unfold w_X4_give w_X2_firstWayOf
  have e : (2 : Int32) * nI a + nI s = nI (2 * a + s) := by rw [show (2 : Int32) = nI 2 from rfl, pk_mul, nI_add]
  rw [e]
  have hC6 := hR.1.2.1
  refine jbn (nI_m1 (by omega)) ⟨vp_in_nI (by omega) (by decide), nW + 1, ?_⟩
  rw [nI_clamp (by omega)]
  exact z1 K hK (nW + 1) (by omega)
