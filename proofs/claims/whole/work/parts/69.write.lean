/-! ===== WRITE ===== -/
theorem selR_congr {P Q : Nat → Bool} : ∀ (d w : Nat), (∀ n, w ≤ n → P n = Q n) → selR P d w = selR Q d w
  | 0, _, _ => rfl
  | d + 1, w, h => by
    show (if P w then w :: selR P d (w + 1) else selR P d (w + 1)) = (if Q w then w :: selR Q d (w + 1) else selR Q d (w + 1))
    rw [h w (Nat.le_refl _), selR_congr d (w + 1) (fun n hn => h n (by omega))]
theorem selU_nil {P : Nat → Bool} {n : Nat} (h : ∀ x, x < n → ¬ P x = true) : selU P n = [] := by
  cases hl : selU P n with
  | nil => rfl
  | cons z l =>
    exfalso
    have hz : z ∈ selU P n := by rw [hl]; exact List.mem_cons_self
    obtain ⟨w1, w2⟩ := mem_selU.mp hz
    exact h z w1 w2
theorem rl_nil {τ : St} {nQ i : Nat} (h : ∀ n, n < nQ → ¬ gA τ 32 n = nI i) : rl τ nQ i = [] := by
  unfold rl
  rw [selU_nil (fun x hx z => h x hx (of_decide_eq_true z))]
  rfl
theorem rl_pop {τ : St} {w d nQ i : Nat} (hi : i < 2000) (hw : w + (d + 1) = nQ) (hno : ∀ n, n < w → ¬ gA τ 32 n = nI i) (hit : gA τ 32 w = nI i) : rl τ nQ i = uv (gA τ 33 w) :: rl (sA τ 32 w (-1)) nQ i := by
  unfold rl
  simp only [gS_sS, gS_sA, gS_sL, gS_fA, gS_fL, gA_sS, gA_sA, gA_sL, gA_fA, gA_fL, gL_sS, gL_sA, gL_sL, gL_fA, gL_fL, reduceIte, Nat.reduceEqDiff, jupd, jupdL]
  rw [← hw, selU_R, selU_R, selU_nil (fun x hx z => hno x hx (of_decide_eq_true z)), selU_nil (P := fun n => decide ((if n = w then (-1 : Int32) else gA τ 32 n) = nI i)) (fun x hx z => by
    have z := of_decide_eq_true z
    rw [if_neg (show ¬ x = w by omega)] at z
    exact hno x hx z)]
  show (([] : List Nat) ++ (if decide (gA τ 32 w = nI i) = true then w :: selR _ d (w + 1) else selR _ d (w + 1))).map _ = _ :: (([] : List Nat) ++ (if decide ((if w = w then (-1 : Int32) else gA τ 32 w) = nI i) = true then w :: selR _ d (w + 1) else selR _ d (w + 1))).map _
  rw [if_pos (decide_eq_true hit), if_neg (by
    simp only [reduceIte, decide_eq_true_eq]
    exact fun z => nI_m1 (show i < 2 ^ 31 by omega) z.symm)]
  rw [List.nil_append, List.nil_append, List.map_cons, selR_congr (P := fun n => decide ((if n = w then (-1 : Int32) else gA τ 32 n) = nI i)) (Q := fun n => decide (gA τ 32 n = nI i)) d (w + 1) (fun n hn => by simp only [if_neg (show ¬ n = w by omega)])]
theorem rl_oth {τ : St} {w nQ i i' : Nat} (hi : i < 2000) (hi' : i' < 2000) (hit : gA τ 32 w = nI i) (hne : ¬ i' = i) : rl (sA τ 32 w (-1)) nQ i' = rl τ nQ i' := by
  unfold rl
  simp only [gS_sS, gS_sA, gS_sL, gS_fA, gS_fL, gA_sS, gA_sA, gA_sL, gA_fA, gA_fL, gL_sS, gL_sA, gL_sL, gL_fA, gL_fL, reduceIte, Nat.reduceEqDiff, jupd, jupdL]
  rw [selU_congr (P := fun n => decide ((if n = w then (-1 : Int32) else gA τ 32 n) = nI i')) (Q := fun n => decide (gA τ 32 n = nI i')) (fun n hn => by
    by_cases e : n = w
    · simp only [if_pos e]
      rw [e, hit]
      have h1 : ¬ (-1 : Int32) = nI i' := fun z => nI_m1 (show i' < 2 ^ 31 by omega) z.symm
      have h2 : ¬ nI i = nI i' := fun z => hne (nI_inj (by omega) (by omega) z).symm
      simp only [h1, h2]
    · simp only [if_neg e])]
def popC (σ : St) (i p : Nat) : St := sS (sA σ 16 i (gA σ 18 p)) 11 (gS σ 11 - 1)
theorem FsC_pop (σ : St) (i p : Nat) : FsC σ (popC σ i p) := ⟨fun k k1 k2 k3 => by simp only [popC, gS_sS, gS_sA, if_neg k1], fun k hk => by simp only [popC, gA_sS, gA_sA, if_neg (show ¬ k = 16 by omega)], fun k hk => by simp only [popC, gL_sS, gL_sA]⟩
theorem FsM_pop (τ : St) (w : Nat) (v : Int32) : FsM τ (sA τ 32 w v) := ⟨fun k k1 k2 k3 => by simp only [gS_sA], fun k hk => by simp only [gA_sA, if_neg (show ¬ k = 32 by omega)]⟩
theorem RR_pop {cx : Cx} {nA nC nP m hd nR nCe nQ i w d p : Nat} {pr : Nat → Nat} {σ τ : St} (hR : RR cx nA nC nP m hd nR nCe nQ pr σ τ) (hi : i < nCe) (hw : w + (d + 1) = nQ) (hno : ∀ n, n < w → ¬ gA τ 32 n = nI i) (hit : gA τ 32 w = nI i) (h33 : gA τ 33 w = nI p) (hp : p < 3000) (h3 : ¬ gL σ 3 i = 0) : RR cx nA nC nP m hd nR nCe nQ pr (popC σ i p) (sA τ 32 w (-1)) ∧ gA σ 16 i = nI p := by
  have hS := hR.2.2.2.2.2.1
  have hCe := hS.2.1
  obtain ⟨⟨w1, w2, w3, w4⟩, g1, g2, g3, g4⟩ := hR.2.2.2.2.2.2.2.1
  have hpop := rl_pop (τ := τ) (show i < 2000 by omega) hw hno hit
  rw [h33, uv_of (by omega)] at hpop
  have hch := (g4 i hi).1
  rw [hpop] at hch
  refine ⟨RR_store hR (FsC_pop σ i p) (FsM_pop τ w (-1)) (Nat.le_refl _) ?_ ?_ ?_ ?_, hch.1⟩
  · unfold RS popC at *
    simp only [gS_sS, gS_sA, gS_sL, gS_fA, gS_fL, gA_sS, gA_sA, gA_sL, gA_fA, gA_fL, gL_sS, gL_sA, gL_sL, gL_fA, gL_fL, reduceIte, Nat.reduceEqDiff, jupd, jupdL]
    exact hS
  · have := hR.2.2.2.2.2.2.1
    unfold RSm at this ⊢
    simp only [gS_sS, gS_sA, gS_sL, gS_fA, gS_fL, gA_sS, gA_sA, gA_sL, gA_fA, gA_fL, gL_sS, gL_sA, gL_sL, gL_fA, gL_fL, reduceIte, Nat.reduceEqDiff, jupd, jupdL]
    exact this
  · unfold RDw popC
    simp only [gS_sS, gS_sA, gS_sL, gS_fA, gS_fL, gA_sS, gA_sA, gA_sL, gA_fA, gA_fL, gL_sS, gL_sA, gL_sL, gL_fA, gL_fL, reduceIte, Nat.reduceEqDiff, jupd, jupdL]
    refine ⟨w1, w2, ?_, fun n hn => ?_⟩
    · have := sm_upd (f := fun n => if gA τ 32 n = -1 then 0 else 1) (g := fun n => if (if n = w then (-1 : Int32) else gA τ 32 n) = -1 then 0 else 1) (p := w) (n := nQ) (by omega) (fun n _ hne => by simp only [if_neg hne])
      simp only [reduceIte] at this
      rw [hit, if_neg (nI_m1 (show i < 2 ^ 31 by omega))] at this
      have h2 : sm (fun n => if gA τ 32 n = -1 then 0 else 1) nQ = sm (fun n => if (if n = w then (-1 : Int32) else gA τ 32 n) = -1 then 0 else 1) nQ + 1 := this.symm
      rw [w3, h2, nI_pred]
    · by_cases e : n = w
      · simp only [if_pos e]
        exact Or.inl trivial
      · simp only [if_neg e]
        exact w4 n hn
  · refine ⟨?_, fun n hn => ?_, ?_, fun i' hi' => ?_⟩
    · simp only [gS_sS, gS_sA, gS_sL, gS_fA, gS_fL, gA_sS, gA_sA, gA_sL, gA_fA, gA_fL, gL_sS, gL_sA, gL_sL, gL_fA, gL_fL, reduceIte, Nat.reduceEqDiff, jupd, jupdL]; exact g1
    · simp only [gS_sS, gS_sA, gS_sL, gS_fA, gS_fL, gA_sS, gA_sA, gA_sL, gA_fA, gA_fL, gL_sS, gL_sA, gL_sL, gL_fA, gL_fL, reduceIte, Nat.reduceEqDiff, jupd, jupdL]
      obtain ⟨y1, y2⟩ := g2 n hn
      refine ⟨?_, y2⟩
      by_cases e : n = w
      · simp only [if_pos e]
        exact Or.inl trivial
      · simp only [if_neg e]
        exact y1
    · simp only [gS_sS, gS_sA, gS_sL, gS_fA, gS_fL, gA_sS, gA_sA, gA_sL, gA_fA, gA_fL, gL_sS, gL_sA, gL_sL, gL_fA, gL_fL, reduceIte, Nat.reduceEqDiff, jupd, jupdL]; exact g3
    · by_cases e : i' = i
      · subst e
        simp only [popC, gS_sS, gS_sA, gS_sL, gS_fA, gS_fL, gA_sS, gA_sA, gA_sL, gA_fA, gA_fL, gL_sS, gL_sA, gL_sL, gL_fA, gL_fL, reduceIte, Nat.reduceEqDiff, jupd, jupdL]
        exact ⟨hch.2, fun z => absurd z h3⟩
      · rw [rl_oth (show i < 2000 by omega) (show i' < 2000 by omega) hit e]
        simp only [popC, gS_sS, gS_sA, gS_sL, gS_fA, gS_fL, gA_sS, gA_sA, gA_sL, gA_fA, gA_fL, gL_sS, gL_sA, gL_sL, gL_fA, gL_fL, reduceIte, Nat.reduceEqDiff, jupd, jupdL, if_neg e]
        exact g4 i' hi'
theorem give_halt {a s c : Nat} {x : Int64} {σ : St} {K : St → Prop} (ha : a < 80) (hs : s < 2) (hc : c < 600) (h : ¬ gS σ 4 = -1) (hK : K σ) : w_X4_give σ (nI a) (nI s) (nI c) x K := by
  unfold w_X4_give w_X2_firstWayOf
  rw [show (2 : Int32) * nI a + nI s = nI (2 * a + s) by rw [show (2 : Int32) = nI 2 from rfl, pk_mul, nI_add]]
  refine jbn (nI_m1 (by omega)) ⟨vp_in_nI (by omega) (by decide), 1, ?_⟩
  show b_X4_give_25 (w_X4_give_25 K 0) K σ (nI c) x _ 0
  unfold b_X4_give_25
  exact ⟨fun _ => hK, fun _ => ⟨fun _ => hK, fun _ => jbn h hK⟩⟩
theorem lp_write {cx : Cx} {nA nW nT nC hd nR nCe nQ a c i : Nat} {pr : Nat → Nat} {x : Int64} {kk v of : Int32} (ha : a < 80) (hc : c < nC) (hi : i < nCe) (hv : vr nR x kk v of) :
    ∀ (d w t nP m : Nat) (σ τ : St), w + d = nQ → t + d ≤ 3000 → RG nA nW nT σ τ → RR cx nA nC nP m hd nR nCe nQ pr σ τ → Go σ τ → gL σ 3 i = x → gA τ 29 i = kk → gA τ 30 i = v → gA τ 31 i = of → (∀ n, n < w → ¬ gA τ 32 n = nI i) →
    ∃ (σ' τ' : St) (r : Int32), (∀ K : St → Prop, K σ' → ∀ n, d < n → w_X6_takeReader σ (nI i) (fun r u => w_X4_goWrite_98 K n u (nI a) (nI c) (nI i) x r (nI t))) ∧ (∀ K : Int32 → St → Prop, K r τ' → ∀ n, d < n → w_X10_cells_266 K n τ (nI a) (nI c) (nI i) (nI w)) ∧ Done cx nA nW nT hd σ' τ' ∧ zb r := by
  intro d
  induction d with
  | zero =>
    intro w t nP m σ τ hw ht hG hR hgo hx h29 h30 h31 hno
    have hCe := hR.2.2.2.2.2.1.2.1
    have hii : vp_in (nI i) 2000 := vp_in_nI (by omega) (by decide)
    have hQ := hR.2.2.2.2.2.2.2.1.1
    have hwq : w = nQ := by omega
    subst hwq
    have hch := (hR.2.2.2.2.2.2.2.1.2.2.2.2 i hi).1
    rw [rl_nil hno] at hch
    obtain ⟨σ', τ', r, z1, z2, z3, z4⟩ := gv hG hR hgo ha (show 0 < 2 by decide) hc hv
    refine ⟨σ', τ', r, fun K hK n hn => ?_, fun K hK n hn => ?_, z3, z4⟩
    · unfold w_X6_takeReader
      rw [nI_clamp (show i < 2 ^ 31 by omega)]
      refine ⟨hii, jbm hch ?_⟩
      obtain ⟨n, rfl⟩ : ∃ z, n = z + 1 := ⟨n - 1, by omega⟩
      show b_X4_goWrite_98 (w_X4_goWrite_98 K n) K σ (nI a) (nI c) (nI i) x (-1) (nI t)
      unfold b_X4_goWrite_98
      exact ⟨fun _ => z1 K hK, fun _ => jbr rfl (z1 K hK)⟩
    · obtain ⟨n, rfl⟩ : ∃ z, n = z + 1 := ⟨n - 1, by omega⟩
      show b_X10_cells_266 (w_X10_cells_266 K n) K τ (nI a) (nI c) (nI i) (nI w)
      unfold b_X10_cells_266
      rw [hQ.1, nI_clamp (show i < 2 ^ 31 by omega), h29, h30, h31]
      exact jbr (nI_le (Nat.le_refl _) (by have := hQ.2.1; omega)) ⟨hii, hii, hii, z2 K hK⟩
  | succ d ih =>
    intro w t nP m σ τ hw ht hG hR hgo hx h29 h30 h31 hno
    have hCe := hR.2.2.2.2.2.1.2.1
    have hR3 := hR.2.2.2.2.2.1.1
    have hP := hR.2.1.1
    have hA := hG.1
    have hii : vp_in (nI i) 2000 := vp_in_nI (by omega) (by decide)
    have hQ := hR.2.2.2.2.2.2.2.1.1
    have hQ3 := hQ.2.1
    have hwi : vp_in (nI w) 3000 := vp_in_nI (by omega) (by decide)
    have hnle : ¬ gS τ 17 ≤ nI w := by rw [hQ.1]; exact nI_ge (by omega) (by omega)
    by_cases hit : gA τ 32 w = nI i
    · obtain ⟨-, p, hp, h33, h17⟩ := hR.2.2.2.2.2.2.2.1.2.2.1 w (by omega)
      have hp3 : p < 3000 := by omega
      have hpi : vp_in (nI p) 3000 := vp_in_nI hp3 (by decide)
      obtain ⟨hR2, h16⟩ := RR_pop hR hi hw hno hit h33 hp3 (by rw [hx]; exact hv.ne0 hR3)
      obtain ⟨q1, q2, -, ⟨c', q4, q5⟩, -, a', -, -, q6, q7, -⟩ := hR.2.1.2.2.2.1 p hp
      have hG2 := hG.fs (FsC_pop σ i p) (FsM_pop τ w (-1))
      have hgo2 := hgo.fs (FsC_pop σ i p) (FsM_pop τ w (-1))
      obtain ⟨σ1, τ1, r1, nP1, m1, k1, k2, k3, k4, k5, k6, k7⟩ := sim_give (a := a') (s := 0) (c := c') hG2 hR2 hgo2 (by omega) (by decide) q4 hv
      have hclass : ∀ (K : St → Prop) (n : Nat), ((¬ gS σ1 4 = -1 → w_X4_goWrite_98 K n σ1 (nI a) (nI c) (nI i) x (-1) (nI (t + 1))) ∧ (gS σ1 4 = -1 → w_X6_takeReader σ1 (nI i) (fun r u => w_X4_goWrite_98 K n u (nI a) (nI c) (nI i) x r (nI (t + 1))))) → w_X6_takeReader σ (nI i) (fun r u => w_X4_goWrite_98 K (n + 1) u (nI a) (nI c) (nI i) x r (nI t)) := fun K n h => by
        unfold w_X6_takeReader
        rw [nI_clamp (show i < 2 ^ 31 by omega), h16, nI_clamp (show p < 2 ^ 31 by omega)]
        refine ⟨hii, jbn (nI_m1 (by omega)) ⟨hpi, hii, ?_⟩⟩
        show b_X4_goWrite_98 (w_X4_goWrite_98 K n) K (popC σ i p) (nI a) (nI c) (nI i) x (nI p) (nI t)
        unfold b_X4_goWrite_98
        rw [nI_clamp (show p < 2 ^ 31 by omega), nI_1, (FsC_pop σ i p).2.1 24 (by decide), (FsC_pop σ i p).2.1 25 (by decide), q1, q2, q5, q7]
        exact jbf (nI_ge (b := 3000) (by omega) (by decide)) (jbf (nI_m1 (by omega)) ⟨hpi, hpi, k1 _ h⟩)
      have hmodel : ∀ (K : Int32 → St → Prop) (n : Nat), ((¬ r1 = 0 → w_X10_cells_266 K n τ1 (nI a) (nI c) (nI i) (nI (w + 1))) ∧ (r1 = 0 → K 0 τ1)) → w_X10_cells_266 K (n + 1) τ (nI a) (nI c) (nI i) (nI w) := fun K n h => by
        show b_X10_cells_266 (w_X10_cells_266 K n) K τ (nI a) (nI c) (nI i) (nI w)
        unfold b_X10_cells_266
        refine jbf hnle ⟨hwi, ?_⟩
        rw [nI_clamp (show w < 2 ^ 31 by omega), nI_clamp (show i < 2 ^ 31 by omega), h33, nI_clamp (show p < 2 ^ 31 by omega), h29, h30, h31, q5, q7, nI_1]
        exact jbr hit ⟨hwi, hwi, hpi, hpi, hii, hii, hii, k2 _ h⟩
      rcases k7 with ⟨rfl, hgo1⟩ | ⟨rfl, hlt⟩
      · obtain ⟨σ', τ', r, z1, z2, z3, z4⟩ := ih (w + 1) (t + 1) nP1 m1 σ1 τ1 (by omega) (by omega) (hG2.fr k5 k6) k3 hgo1 (by
            rw [k5.2.2 3 (by decide)]; simp only [popC, gS_sS, gS_sA, gS_sL, gS_fA, gS_fL, gA_sS, gA_sA, gA_sL, gA_fA, gA_fL, gL_sS, gL_sA, gL_sL, gL_fA, gL_fL, reduceIte, Nat.reduceEqDiff, jupd, jupdL]; exact hx) (by
            rw [k6.2.1 29 (by decide)]; simp only [gS_sS, gS_sA, gS_sL, gS_fA, gS_fL, gA_sS, gA_sA, gA_sL, gA_fA, gA_fL, gL_sS, gL_sA, gL_sL, gL_fA, gL_fL, reduceIte, Nat.reduceEqDiff, jupd, jupdL]; exact h29) (by
            rw [k6.2.1 30 (by decide)]; simp only [gS_sS, gS_sA, gS_sL, gS_fA, gS_fL, gA_sS, gA_sA, gA_sL, gA_fA, gA_fL, gL_sS, gL_sA, gL_sL, gL_fA, gL_fL, reduceIte, Nat.reduceEqDiff, jupd, jupdL]; exact h30) (by
            rw [k6.2.1 31 (by decide)]; simp only [gS_sS, gS_sA, gS_sL, gS_fA, gS_fL, gA_sS, gA_sA, gA_sL, gA_fA, gA_fL, gL_sS, gL_sA, gL_sL, gL_fA, gL_fL, reduceIte, Nat.reduceEqDiff, jupd, jupdL]; exact h31) (fun n hn => by
            rw [k6.2.1 32 (by decide)]
            simp only [gS_sS, gS_sA, gS_sL, gS_fA, gS_fL, gA_sS, gA_sA, gA_sL, gA_fA, gA_fL, gL_sS, gL_sA, gL_sL, gL_fA, gL_fL, reduceIte, Nat.reduceEqDiff, jupd, jupdL]
            by_cases e : n = w
            · rw [if_pos e]; exact fun z => nI_m1 (show i < 2 ^ 31 by omega) z.symm
            · rw [if_neg e]; exact hno n (by omega))
        refine ⟨σ', τ', r, fun K hK n hn => ?_, fun K hK n hn => ?_, z3, z4⟩
        · obtain ⟨n, rfl⟩ : ∃ z, n = z + 1 := ⟨n - 1, by omega⟩
          exact hclass K n (jbm hgo1.1 (z1 K hK n (by omega)))
        · obtain ⟨n, rfl⟩ : ∃ z, n = z + 1 := ⟨n - 1, by omega⟩
          exact hmodel K n (jbn (by decide) (z2 K hK n (by omega)))
      · refine ⟨σ1, τ1, 0, fun K hK n hn => ?_, fun K hK n hn => ?_, ⟨nC, nP1, m1, nR, nCe, nQ, pr, hG2.fr k5 k6, k3, Or.inr hlt⟩, Or.inl rfl⟩
        · obtain ⟨n, rfl⟩ : ∃ z, n = z + 1 := ⟨n - 1, by omega⟩
          refine hclass K n (jbn hlt.2.2.1 ?_)
          obtain ⟨n, rfl⟩ : ∃ z, n = z + 1 := ⟨n - 1, by omega⟩
          show b_X4_goWrite_98 (w_X4_goWrite_98 K n) K σ1 (nI a) (nI c) (nI i) x (-1) (nI (t + 1))
          unfold b_X4_goWrite_98
          have hg : w_X4_give σ1 (nI a) 0 (nI c) x K := give_halt (s := 0) ha (by decide) (by have := hR.1.2.1; omega) hlt.2.2.1 hK
          exact ⟨fun _ => hg, fun _ => jbr rfl hg⟩
        · obtain ⟨n, rfl⟩ : ∃ z, n = z + 1 := ⟨n - 1, by omega⟩
          exact hmodel K n (jbm rfl hK)
    · obtain ⟨σ', τ', r, z1, z2, z3, z4⟩ := ih (w + 1) t nP m σ τ (by omega) (by omega) hG hR hgo hx h29 h30 h31 (fun n hn => by
          by_cases e : n = w
          · rw [e]; exact hit
          · exact hno n (by omega))
      refine ⟨σ', τ', r, fun K hK n hn => z1 K hK n (by omega), fun K hK n hn => ?_, z3, z4⟩
      obtain ⟨n, rfl⟩ : ∃ z, n = z + 1 := ⟨n - 1, by omega⟩
      show b_X10_cells_266 (w_X10_cells_266 K n) K τ (nI a) (nI c) (nI i) (nI w)
      unfold b_X10_cells_266
      refine jbf hnle ⟨hwi, ?_⟩
      rw [nI_clamp (show w < 2 ^ 31 by omega), nI_1]
      exact jbf hit (z2 K hK n (by omega))
theorem fire_write {cx : Cx} {nA nW nT nC nP m hd nR nCe nQ p a c k q : Nat} {pr : Nat → Nat} {σ τ : St} (hF : Fire cx nA nW nT nC nP m hd nR nCe nQ p a c k q pr σ τ) (hk : k = 19) :
    ∃ (σ' τ' : St) (r : Int32), (∀ K : St → Prop, K σ' → w_X4_goWrite σ (nI p) (nI a) (nI c) K) ∧ (∀ K : Int32 → St → Prop, K r τ' → w_X10_goesOff τ (nI p) K) ∧ Done cx nA nW nT hd σ' τ' ∧ zb r := by
  have hcase := cell_case hF (Or.inr hk)
  obtain ⟨hG, hR, hgo, hp, h14, h15, ha, hc, h0, hk22, h2, hq1, hq3, hjq, hvr, h17, hq2, hr1, hr2⟩ := hF
  have hP := hR.2.1.1
  have hA := hG.1
  have hS := hR.2.2.2.2.2.1
  have hR3 := hS.1
  have hp3 : p < 3000 := by omega
  have ha8 : a < 80 := by omega
  have hpi : vp_in (nI p) 3000 := vp_in_nI hp3 (by decide)
  subst hk
  have hq : q = 3 := hjq (by decide)
  subst hq
  have v2 := hvr 2 (by decide)
  rcases hcase with ⟨y, kk, v, of, f1, f2, f3, f4⟩ | ⟨r, ii, s, z, y1, y2, y3, y4, y5, y6, y7, y8, f3, f4⟩
  · obtain ⟨σ', τ', r, z1, z2, z3, z4⟩ := gv hG hR hgo ha8 (show 0 < 2 by decide) hc f1
    refine ⟨σ', τ', r, fun K hK => ?_, fun K hK => f4 K (z2 K hK), z3, z4⟩
    unfold w_X4_goWrite
    exact f3 _ (fun pl => jbn f2 (z1 K hK))
  · have hCe := hS.2.1
    have hii : vp_in (nI (s + ii)) 2000 := vp_in_nI (by omega) (by decide)
    have hri : vp_in (nI r) 300 := vp_in_nI (by omega) (by decide)
    have h9 : vp_in (3 * nI p + 2) 9000 := by rw [show (2 : Int32) = nI 2 from rfl, i3]; exact vp_in_nI (by omega) (by decide)
    have hbody : ∀ K : Int32 → St → Prop, ((gA τ 29 (s + ii) ≤ 0 → ∃ n : Nat, w_X10_cells_266 K n (sA (sA (sA τ 29 (s + ii) (gA τ 19 (3 * p + 2))) 30 (s + ii) (gA τ 20 (3 * p + 2))) 31 (s + ii) (gA τ 21 (3 * p + 2))) (nI a) (nI c) (nI (s + ii)) 0) ∧ (¬ gA τ 29 (s + ii) ≤ 0 → K 0 (sS (sS (sS τ 5 1) 11 (nI a)) 4 1))) → w_X10_goesOff τ (nI p) K := fun K h => by
      refine f4 K ?_
      unfold b_X10_cells_50
      refine ev_valueAt (j := 0) hp3 (by decide) (jbn (by decide) ?_)
      refine ev_valueAt (j := 1) hp3 (by decide) ?_
      rw [y7, y8, nI_clamp (show r < 2 ^ 31 by omega), y6]
      refine ⟨hri, ev_in_ok (nI_pos (by omega)) (in_in y2 (by omega)) ?_⟩
      rw [y5, nI_add, nI_clamp (show s + ii < 2 ^ 31 by omega)]
      refine jbn (by decide) ⟨hri, jbn (by decide) ⟨hii, fun x => ?_, fun x => h.2 x⟩⟩
      refine ev_kindAt (j := 2) hp3 (by decide) ⟨hii, ?_⟩
      refine ev_valueAt (j := 2) hp3 (by decide) ⟨hii, h9, hii, ?_⟩
      have h := h.1 x
      simp only [gA_sA, Nat.reduceEqDiff, reduceIte] at h ⊢
      rw [show (3 * nI p + 2 : Int32) = nI (3 * p + 2) from i3 p 2, nI_clamp (show 3 * p + 2 < 2 ^ 31 by omega)]
      exact h
    have hcl : ∀ K : St → Prop, ((lg_cmp (gL σ 3 (s + ii)) 0 = 0 → w_X6_takeReader (sL σ 3 (s + ii) (gL σ 4 (3 * p + 2))) (nI (s + ii)) (fun r u => ∃ n : Nat, w_X4_goWrite_98 K n u (nI a) (nI c) (nI (s + ii)) (gL σ 4 (3 * p + 2)) r 0)) ∧ (¬ lg_cmp (gL σ 3 (s + ii)) 0 = 0 → K (sS (sS σ 4 1) 10 (nI a)))) → w_X4_goWrite σ (nI p) (nI a) (nI c) K := fun K h => by
      unfold w_X4_goWrite
      refine f3 _ (jbm lg00 (jbn (nI_m1 (by omega)) ⟨hii, ?_⟩))
      rw [nI_clamp (show s + ii < 2 ^ 31 by omega)]
      refine ⟨fun x => ?_, h.2⟩
      exact ev_came (j := 2) hp3 (by decide) ⟨hii, h.1 x⟩
    rcases hS.2.2.2.2.2.2.2.2.2 (s + ii) (by omega) with ⟨g1, g2⟩ | hve
    · have hQ3 := hR.2.2.2.2.2.2.2.1.1.2.1
      have fC : FsC σ (sL σ 3 (s + ii) (gL σ 4 (3 * p + 2))) := ⟨fun k k1 k2 k3 => by simp only [gS_sL], fun k hk => by simp only [gA_sL], fun k hk => by simp only [gL_sL, if_neg hk]⟩
      have fM : FsM τ (sA (sA (sA τ 29 (s + ii) (gA τ 19 (3 * p + 2))) 30 (s + ii) (gA τ 20 (3 * p + 2))) 31 (s + ii) (gA τ 21 (3 * p + 2))) := ⟨fun k k1 k2 k3 => by simp only [gS_sA], fun k hk => by simp only [gA_sA, if_neg (show ¬ k = 29 by omega), if_neg (show ¬ k = 30 by omega), if_neg (show ¬ k = 31 by omega)]⟩
      have hR2 : RR cx nA nC nP m hd nR nCe nQ pr (sL σ 3 (s + ii) (gL σ 4 (3 * p + 2))) (sA (sA (sA τ 29 (s + ii) (gA τ 19 (3 * p + 2))) 30 (s + ii) (gA τ 20 (3 * p + 2))) 31 (s + ii) (gA τ 21 (3 * p + 2))) := by
        refine RR_store hR fC fM (Nat.le_refl _) ?_ ?_ ?_ ?_
        · obtain ⟨w1, w2, w3, w4, w5, w6, w7, w8, w9, w10⟩ := hS
          unfold RS
          simp only [gS_sS, gS_sA, gS_sL, gS_fA, gS_fL, gA_sS, gA_sA, gA_sL, gA_fA, gA_fL, gL_sS, gL_sA, gL_sL, gL_fA, gL_fL, reduceIte, Nat.reduceEqDiff, jupd, jupdL]
          refine ⟨w1, w2, w3, w4, w5, w6, w7, w8, w9, fun i hi => ?_⟩
          by_cases e : i = s + ii
          · simp only [if_pos e]
            exact Or.inr v2
          · simp only [if_neg e]
            exact w10 i hi
        · have := hR.2.2.2.2.2.2.1
          unfold RSm at this ⊢
          simp only [gS_sS, gS_sA, gS_sL, gS_fA, gS_fL, gA_sS, gA_sA, gA_sL, gA_fA, gA_fL, gL_sS, gL_sA, gL_sL, gL_fA, gL_fL, reduceIte, Nat.reduceEqDiff, jupd, jupdL]
          exact this
        · have := hR.2.2.2.2.2.2.2.1.1
          unfold RDw at this ⊢
          simp only [gS_sS, gS_sA, gS_sL, gS_fA, gS_fL, gA_sS, gA_sA, gA_sL, gA_fA, gA_fL, gL_sS, gL_sA, gL_sL, gL_fA, gL_fL, reduceIte, Nat.reduceEqDiff, jupd, jupdL]
          exact this
        · obtain ⟨w1, w2, w3, w4⟩ := hR.2.2.2.2.2.2.2.1.2
          unfold RD
          simp only [rl, gS_sS, gS_sA, gS_sL, gS_fA, gS_fL, gA_sS, gA_sA, gA_sL, gA_fA, gA_fL, gL_sS, gL_sA, gL_sL, gL_fA, gL_fL, reduceIte, Nat.reduceEqDiff, jupd, jupdL]
          refine ⟨w1, w2, w3, fun i hi => ⟨(w4 i hi).1, fun z => ?_⟩⟩
          by_cases e : i = s + ii
          · rw [if_pos e] at z
            exact absurd z (v2.ne0 hR3)
          · rw [if_neg e] at z
            exact (w4 i hi).2 z
      obtain ⟨σ', τ', r, z1, z2, z3, z4⟩ := lp_write ha8 hc (show s + ii < nCe by omega) v2 nQ 0 0 nP m _ _ (by omega) (by omega) (hG.fs fC fM) hR2 (hgo.fs fC fM) (by simp only [gS_sS, gS_sA, gS_sL, gS_fA, gS_fL, gA_sS, gA_sA, gA_sL, gA_fA, gA_fL, gL_sS, gL_sA, gL_sL, gL_fA, gL_fL, reduceIte, Nat.reduceEqDiff, jupd, jupdL]) (by simp only [gS_sS, gS_sA, gS_sL, gS_fA, gS_fL, gA_sS, gA_sA, gA_sL, gA_fA, gA_fL, gL_sS, gL_sA, gL_sL, gL_fA, gL_fL, reduceIte, Nat.reduceEqDiff, jupd, jupdL]) (by simp only [gS_sS, gS_sA, gS_sL, gS_fA, gS_fL, gA_sS, gA_sA, gA_sL, gA_fA, gA_fL, gL_sS, gL_sA, gL_sL, gL_fA, gL_fL, reduceIte, Nat.reduceEqDiff, jupd, jupdL]) (by simp only [gS_sS, gS_sA, gS_sL, gS_fA, gS_fL, gA_sS, gA_sA, gA_sL, gA_fA, gA_fL, gL_sS, gL_sA, gL_sL, gL_fA, gL_fL, reduceIte, Nat.reduceEqDiff, jupd, jupdL]) (fun n hn => by omega)
      refine ⟨σ', τ', r, fun K hK => hcl K (jbr ((lgc0 _ _).mpr g1) ?_), fun K hK => hbody K (jbr (by rw [g2]; decide) ⟨nQ + 1, z2 K hK (nQ + 1) (by omega)⟩), z3, z4⟩
      have := z1 K hK (nQ + 1) (by omega)
      unfold w_X6_takeReader at this ⊢
      exact ⟨this.1, fun x => ⟨(this.2.1 x).1, (this.2.1 x).2.1, nQ + 1, (this.2.1 x).2.2⟩, fun x => ⟨nQ + 1, this.2.2 x⟩⟩
    · refine ⟨sS (sS σ 4 1) 10 (nI a), sS (sS (sS τ 5 1) 11 (nI a)) 4 1, 0, fun K hK => hcl K (jbf (lgne (hve.ne0 hR3)) hK), fun K hK => hbody K (jbf (Int32.not_le.mpr hve.kpos.1) hK), ⟨nC, nP, m, nR, nCe, nQ, pr, RG_sS (RG_sS (RG_r hG (by decide)) (by decide) (by decide)) (by decide) (by decide), RR_stop hR 1 _ 1 _ 1, Or.inr ?_⟩, Or.inl rfl⟩
      unfold Hlt
      simp only [gS_sS, gS_sA, gS_sL, gS_fA, gS_fL, gA_sS, gA_sA, gA_sL, gA_fA, gA_fL, gL_sS, gL_sA, gL_sL, gL_fA, gL_fL, reduceIte, Nat.reduceEqDiff, jupd, jupdL]
      exact ⟨trivial, trivial, by decide, trivial⟩
