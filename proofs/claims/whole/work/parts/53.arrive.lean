/-! ===== a token arrives: both sides evaluated ===== -/
theorem nodup_map {f : Nat → Nat} : ∀ {l : List Nat}, l.Nodup → (∀ x, x ∈ l → ∀ y, y ∈ l → f x = f y → x = y) → (l.map f).Nodup
  | [], _, _ => List.nodup_nil
  | x :: l, hd, hi => by
    rw [List.map_cons, List.nodup_cons]
    rw [List.nodup_cons] at hd
    refine ⟨fun h => ?_, nodup_map hd.2 (fun a ha b hb => hi a (List.mem_cons_of_mem _ ha) b (List.mem_cons_of_mem _ hb))⟩
    obtain ⟨y, hy, e⟩ := List.mem_map.mp h
    have := hi x List.mem_cons_self y (List.mem_cons_of_mem _ hy) e.symm
    subst this
    exact hd.1 hy
theorem bits_get : ∀ h, h < 8 → ∀ k, k < 3 → ((nI h >>> (nI k &&& 31)) &&& 1) = nI (h / 2 ^ k % 2) := by decide +kernel
theorem bits_set : ∀ h, h < 8 → ∀ k, k < 3 → h / 2 ^ k % 2 = 0 → (nI h ||| ((1 : Int32) <<< (nI k &&& 31))) = nI (h + 2 ^ k) := by decide +kernel
theorem bits_full : ∀ q, q < 4 → (((1 : Int32) <<< (nI q &&& 31)) - 1) = nI (2 ^ q - 1) := by decide +kernel
theorem bits_lt : ∀ h, h < 8 → ∀ k, k < 3 → h / 2 ^ k % 2 = 0 → h + 2 ^ k < 8 := by decide +kernel
def putC (σ : St) (p k : Nat) (x : Int64) (h : Nat) : St := sS (sL (sA σ 26 p (nI (h + 2 ^ k))) 4 (3 * p + k) x) 15 (gS σ 15 + 1)
def rdyC (σ : St) (p q t : Nat) : St := sS (sA (sS σ 15 (gS σ 15 - nI q)) 29 t (nI p)) 18 (nI (t + 1))
def putM (τ : St) (p k : Nat) (kk v of : Int32) (h : Nat) : St := sA (sA (sA (sA τ 16 p (nI (h + 2 ^ k))) 19 (3 * p + k) kk) 20 (3 * p + k) v) 21 (3 * p + k) of
def rdyM (τ : St) (p m : Nat) : St := sS (sA (sA τ 17 p 1) 24 m (nI p)) 14 (nI (m + 1))
theorem i3 (p k : Nat) : (3 : Int32) * nI p + nI k = nI (3 * p + k) := by rw [show (3 : Int32) = nI 3 from rfl, pk_mul, nI_add]
theorem ev_arr28 {σ : St} {a k p h q t : Nat} {x : Int64} {K : St → Prop} (ha : a < 80) (hk : k < 3) (hp : p < 3000) (hh : gA σ 26 p = nI h) (h8 : h < 8) (hq : gA σ 2 a = nI q) (hq4 : q < 4) (ht : gS σ 18 = nI t) (ht3 : h / 2 ^ k % 2 = 0 → t < 3000)
    (hK : if h / 2 ^ k % 2 = 1 then K (sS (sS σ 4 1) 10 (nI a)) else if h + 2 ^ k = 2 ^ q - 1 then K (rdyC (putC σ p k x h) p q t) else K (putC σ p k x h)) : b_X4_arrive_28 K σ (nI a) (nI k) x (nI p) := by
  unfold b_X4_arrive_28
  refine jbn (nI_m1 (by omega)) ?_
  unfold w_X1_hadToken
  have hpi : vp_in (nI p) 3000 := vp_in_nI hp (by decide)
  refine ⟨hpi, ?_⟩
  rw [nI_clamp (show p < 2 ^ 31 by omega), hh, bits_get h h8 k hk]
  by_cases hb : h / 2 ^ k % 2 = 1
  · rw [if_pos hb] at hK
    rw [hb]
    refine jbm rfl (jbf (by decide) ?_)
    exact hK
  · rw [if_neg hb] at hK
    have hb0 : h / 2 ^ k % 2 = 0 := by omega
    have ht3 := ht3 hb0
    rw [hb0]
    refine jbn (by decide) (jbr rfl ⟨vp_in_nI ha (by decide), ?_⟩)
    rw [nI_clamp (show a < 2 ^ 31 by omega), hq]
    have h9 := bits_lt h h8 k hk hb0
    unfold w_X1_put
    refine ⟨hpi, hpi, by rw [i3]; exact vp_in_nI (by omega) (by decide), hpi, ?_⟩
    rw [i3, nI_clamp (show p < 2 ^ 31 by omega), nI_clamp (show 3 * p + k < 2 ^ 31 by omega), hh, bits_set h h8 k hk hb0, bits_full q hq4]
    simp only [gA_sA, reduceIte, jupd]
    by_cases hf : h + 2 ^ k = 2 ^ q - 1
    · rw [if_pos hf] at hK
      refine jbm (by rw [hf]) ?_
      unfold b_X1_put_53
      refine jbf (by decide) ⟨Or.inr rfl, jbf (by decide) ?_⟩
      unfold w_X5_add
      simp only [gS_sS, gS_sL, gS_sA, Nat.reduceEqDiff, reduceIte, ht]
      refine jbf (nI_ge (a := t) (b := 3000) ht3 (by decide)) ⟨vp_in_nI ht3 (by decide), ?_⟩
      rw [nI_clamp (show t < 2 ^ 31 by omega), nI_1]
      have e : rdyC (putC σ p k x h) p q t = sS (sA (sS (sS (sL (sA σ 26 p (nI (h + 2 ^ k))) 4 (3 * p + k) x) 15 (gS σ 15 + 1)) 15 (gS σ 15 + 1 - nI q)) 29 t (nI p)) 18 (nI (t + 1)) := by
        unfold rdyC putC
        simp only [gS_sS, reduceIte]
      rw [e] at hK
      exact hK
    · rw [if_neg hf] at hK
      have hne : ¬ nI (h + 2 ^ k) = nI (2 ^ q - 1) := fun e => hf (nI_inj (by omega) (by
        have : 2 ^ q ≤ 2 ^ 3 := Nat.pow_le_pow_right (by decide) (by omega)
        omega) e)
      refine jbn hne ?_
      unfold b_X1_put_53
      exact jbr rfl ⟨Or.inl rfl, jbr rfl hK⟩
theorem ev_comes {τ : St} {a k p h q m : Nat} {c : Int32} {kk v of : Int32} {K : Int32 → St → Prop} (ha : a < 80) (hk : k < 3) (hp : p < 3000) (hh : gA τ 16 p = nI h) (h8 : h < 8) (hq : gA τ 2 a = nI q) (hq4 : q < 4) (hm : gS τ 14 = nI m) (hm3 : h / 2 ^ k % 2 = 0 → m < 3000)
    (hK : if h / 2 ^ k % 2 = 1 then K 0 (sS (sS (sS τ 5 1) 11 (nI a)) 4 1) else if h + 2 ^ k = 2 ^ q - 1 then K 1 (rdyM (putM τ p k kk v of h) p m) else K 1 (putM τ p k kk v of h))
    (τ0 : St) (hpair : ∀ K2 : Int32 → St → Prop, K2 (nI p) τ → w_X10_pair τ0 (nI a) c K2) : w_X10_comes τ0 (nI a) (nI k) c kk v of K := by
  unfold w_X10_comes
  refine hpair _ ?_
  have hpi : vp_in (nI p) 3000 := vp_in_nI hp (by decide)
  refine jbr (nI_pos' (by omega)) ⟨hpi, ?_⟩
  rw [nI_clamp (show p < 2 ^ 31 by omega), hh, bits_get h h8 k hk]
  by_cases hb : h / 2 ^ k % 2 = 1
  · rw [if_pos hb] at hK
    rw [hb]
    exact jbm rfl hK
  · rw [if_neg hb] at hK
    have hb0 : h / 2 ^ k % 2 = 0 := by omega
    have hm3 := hm3 hb0
    rw [hb0]
    have h9 := bits_lt h h8 k hk hb0
    have h3i : vp_in (3 * nI p + nI k) 9000 := by rw [i3]; exact vp_in_nI (by omega) (by decide)
    refine jbn (by decide) ⟨hpi, hpi, h3i, h3i, h3i, hpi, vp_in_nI ha (by decide), ?_⟩
    rw [i3, nI_clamp (show 3 * p + k < 2 ^ 31 by omega), nI_clamp (show a < 2 ^ 31 by omega), hq, bits_set h h8 k hk hb0, bits_full q hq4]
    simp only [gA_sA, reduceIte, jupd]
    by_cases hf : h + 2 ^ k = 2 ^ q - 1
    · rw [if_pos hf] at hK
      refine jbr (by rw [hf]) ⟨hpi, by rw [hm]; exact vp_in_nI hm3 (by decide), ?_⟩
      rw [hm, nI_clamp (show m < 2 ^ 31 by omega), nI_1]
      exact hK
    · rw [if_neg hf] at hK
      have hne : ¬ nI (h + 2 ^ k) = nI (2 ^ q - 1) := fun e => hf (nI_inj (by omega) (by
        have : 2 ^ q ≤ 2 ^ 3 := Nat.pow_le_pow_right (by decide) (by omega)
        omega) e)
      exact jbf hne hK
/-- the pair of an act and a colour on both sides -/
theorem ev_find_hit {nA nC nP a c p : Nat} {σ τ : St} {K : Int32 → St → Prop} (hR : RP nA nC nP σ τ) (hA : nA ≤ 80) (hc : c < 600) (hp : p < nP) (h1 : gA τ 14 p = nI a) (h2 : gA τ 15 p = nI c) (hk : K (nI p) σ) : w_X1_find σ (nI a) (nI c) K := by
  obtain ⟨hP, -, -, hall, hun, hch, -⟩ := hR
  have hl := hch c hc
  have hb : ∀ q, q ∈ selD (fun p => decide (gA τ 15 p = nI c)) nP → q < nP ∧ gA τ 15 q = nI c := fun q hq => by
    obtain ⟨g1, g2⟩ := mem_selD.mp hq
    exact ⟨g1, of_decide_eq_true g2⟩
  have hlen : (selD (fun p => decide (gA τ 15 p = nI c)) nP).length ≤ 80 := by
    have := pigeon 80 ((selD (fun p => decide (gA τ 15 p = nI c)) nP).map (fun p => uv (gA τ 14 p))) (nodup_map (selD_nodup _ _) (fun x hx y hy e => hun x y (hb x hx).1 (hb y hy).1 (uv_inj e) ((hb x hx).2.trans (hb y hy).2.symm))) (fun z hz => by
      obtain ⟨y, hy, rfl⟩ := List.mem_map.mp hz
      obtain ⟨-, -, -, -, -, a', q', h', g1, g2, -⟩ := hall y (hb y hy).1
      rw [g2, uv_of (by omega)]
      omega)
    rwa [List.length_map] at this
  unfold w_X1_find
  refine ⟨vp_in_nI hc (by decide), 81, ?_⟩
  rw [nI_clamp (by omega)]
  exact lp_find_hit (a := a) hk (by rw [(hall p hp).1, h1]) _ (81) 0 _ hl (by omega) (by omega) (fun q hq => by have := (hb q hq).1; omega) (mem_selD.mpr ⟨hp, decide_eq_true h2⟩) (fun q hq e => hun q p (hb q hq).1 hp (by rw [← (hall q (hb q hq).1).1, e, h1]) (by rw [(hb q hq).2, h2]))
theorem ev_find_miss {nA nC nP a c : Nat} {σ τ : St} {K : Int32 → St → Prop} (hR : RP nA nC nP σ τ) (hA : nA ≤ 80) (hc : c < 600) (hno : ∀ p, p < nP → gA τ 14 p = nI a → ¬ gA τ 15 p = nI c) (hk : K (-1) σ) : w_X1_find σ (nI a) (nI c) K := by
  obtain ⟨hP, -, -, hall, hun, hch, -⟩ := hR
  have hl := hch c hc
  have hb : ∀ q, q ∈ selD (fun p => decide (gA τ 15 p = nI c)) nP → q < nP ∧ gA τ 15 q = nI c := fun q hq => by
    obtain ⟨g1, g2⟩ := mem_selD.mp hq
    exact ⟨g1, of_decide_eq_true g2⟩
  have hlen : (selD (fun p => decide (gA τ 15 p = nI c)) nP).length ≤ 80 := by
    have := pigeon 80 ((selD (fun p => decide (gA τ 15 p = nI c)) nP).map (fun p => uv (gA τ 14 p))) (nodup_map (selD_nodup _ _) (fun x hx y hy e => hun x y (hb x hx).1 (hb y hy).1 (uv_inj e) ((hb x hx).2.trans (hb y hy).2.symm))) (fun z hz => by
      obtain ⟨y, hy, rfl⟩ := List.mem_map.mp hz
      obtain ⟨-, -, -, -, -, a', q', h', g1, g2, -⟩ := hall y (hb y hy).1
      rw [g2, uv_of (by omega)]
      omega)
    rwa [List.length_map] at this
  unfold w_X1_find
  refine ⟨vp_in_nI hc (by decide), 81, ?_⟩
  rw [nI_clamp (by omega)]
  exact lp_find_miss (a := a) hk _ (81) 0 _ hl (by omega) (by omega) (fun q hq => by have := (hb q hq).1; omega) (fun q hq e => hno q (hb q hq).1 (by rw [← (hall q (hb q hq).1).1, e]) (hb q hq).2)
theorem ev_pair_hit {nA nC nP a c p : Nat} {σ τ : St} (hR : RP nA nC nP σ τ) (ha : a < 80) (hp : p < nP) (h1 : gA τ 14 p = nI a) (h2 : gA τ 15 p = nI c) (K : Int32 → St → Prop) (hk : K (nI p) τ) : w_X10_pair τ (nI a) (nI c) K := by
  obtain ⟨hP, -, -, hall, hun, -, hch⟩ := hR
  have hb : ∀ q, q ∈ selD (fun p => decide (gA τ 14 p = nI a)) nP → q < nP ∧ gA τ 14 q = nI a := fun q hq => by
    obtain ⟨g1, g2⟩ := mem_selD.mp hq
    exact ⟨g1, of_decide_eq_true g2⟩
  unfold w_X10_pair
  refine ⟨vp_in_nI ha (by decide), (selD (fun p => decide (gA τ 14 p = nI a)) nP).length + 1, ?_⟩
  rw [nI_clamp (by omega)]
  exact lp_pair_hit hk h2 _ _ _ (hch a ha) (Nat.lt_succ_self _) (fun q hq => by have := (hb q hq).1; omega) (mem_selD.mpr ⟨hp, decide_eq_true h1⟩) (fun q hq e => hun q p (hb q hq).1 hp (by rw [(hb q hq).2, h1]) (by rw [e, h2]))
theorem ev_pair_miss {nA nC nP a c : Nat} {σ τ : St} (hR : RP nA nC nP σ τ) (ha : a < 80) (hno : ∀ p, p < nP → gA τ 14 p = nI a → ¬ gA τ 15 p = nI c) (K : Int32 → St → Prop) (hk : if nP = 3000 then K (-1) (sS (sS (sS τ 5 2) 11 (-1)) 4 1) else K (nI nP) (addM τ a (nI c) nP)) : w_X10_pair τ (nI a) (nI c) K := by
  obtain ⟨hP, -, hS, hall, hun, -, hch⟩ := hR
  have hb : ∀ q, q ∈ selD (fun p => decide (gA τ 14 p = nI a)) nP → q < nP ∧ gA τ 14 q = nI a := fun q hq => by
    obtain ⟨g1, g2⟩ := mem_selD.mp hq
    exact ⟨g1, of_decide_eq_true g2⟩
  unfold w_X10_pair
  refine ⟨vp_in_nI ha (by decide), (selD (fun p => decide (gA τ 14 p = nI a)) nP).length + 1, ?_⟩
  rw [nI_clamp (by omega)]
  exact lp_pair_miss ha hP hS hk _ _ _ (hch a ha) (Nat.lt_succ_self _) (fun q hq => by have := (hb q hq).1; omega) (fun q hq => hno q (hb q hq).1 (hb q hq).2)
theorem ev_add {nP a c : Nat} {σ : St} {K : Int32 → St → Prop} (hP : nP ≤ 3000) (hS : gS σ 16 = nI nP) (hc : c < 600) (hk : if nP = 3000 then K (-1) σ else K (nI nP) (addC σ a c nP)) : w_X1_add σ (nI a) (nI c) K := by
  unfold w_X1_add
  rw [hS]
  by_cases e : nP = 3000
  · rw [if_pos e] at hk
    subst e
    exact jbf (by decide) hk
  · rw [if_neg e] at hk
    have h3 : vp_in (nI nP) 3000 := vp_in_nI (by omega) (by decide)
    have h6 : vp_in (nI c) 600 := vp_in_nI hc (by decide)
    refine jbr (nI_lt (b := 3000) (by omega) (by decide)) ⟨h3, h3, h3, h6, h3, h6, ?_⟩
    rw [nI_clamp (show nP < 2 ^ 31 by omega), nI_clamp (show c < 2 ^ 31 by omega), nI_1]
    exact hk
