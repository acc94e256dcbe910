/-! ===== colours ===== -/
def newM (τ : St) (s o t i : Int32) (nC : Nat) : St := sS (sA (sA (sA (sA τ 10 nC s) 11 nC o) 12 nC t) 13 nC i) 12 (nI (nC + 1))
def newC (σ : St) (b : Nat) (ky og ou : Int32) (nC : Nat) : St := sA (sA (sA (sA (sA (sA (sA (sS σ 14 (nI (nC + 1))) 21 nC ky) 19 nC og) 20 nC ou) 22 nC (-1)) 23 nC (-1)) 23 nC (gA σ 22 b)) 22 b (nI nC)
theorem lp_colour_hit {τ : St} {nC c : Nat} {s o t i : Int32} {K : Int32 → St → Prop} (hC : nC ≤ 600) (hS : gS τ 12 = nI nC) (hc : c < nC) (hk : K (nI c) τ) (he : gA τ 10 c = s ∧ gA τ 11 c = o ∧ gA τ 12 c = t ∧ gA τ 13 c = i) (hu : ∀ c', c' < nC → gA τ 10 c' = s → gA τ 11 c' = o → gA τ 12 c' = t → gA τ 13 c' = i → c' = c) :
    ∀ (d w n : Nat), w + d = nC → d < n → w ≤ c → w_X10_colour_3 K n τ s o t i (nI w) := by
  intro d
  induction d with
  | zero => intro w n h1 h2 h3; omega
  | succ d ih =>
    intro w n h1 h2 h3
    obtain ⟨n, rfl⟩ : ∃ z, n = z + 1 := ⟨n - 1, by omega⟩
    show b_X10_colour_3 (w_X10_colour_3 K n) K τ s o t i (nI w)
    unfold b_X10_colour_3
    have hwi : vp_in (nI w) 600 := vp_in_nI (by omega) (by decide)
    rw [hS]
    refine jbf (nI_ge (by omega) (by omega)) ⟨hwi, ?_⟩
    rw [nI_clamp (show w < 2 ^ 31 by omega), nI_1]
    by_cases e : w = c
    · subst e
      exact jbm he.1 ⟨hwi, jbm he.2.1 ⟨hwi, jbm he.2.2.1 ⟨hwi, jbm he.2.2.2 hk⟩⟩⟩
    · have hr := ih (w + 1) n (by omega) (by omega) (by omega)
      by_cases e1 : gA τ 10 w = s
      · refine jbm e1 ⟨hwi, ?_⟩
        by_cases e2 : gA τ 11 w = o
        · refine jbm e2 ⟨hwi, ?_⟩
          by_cases e3 : gA τ 12 w = t
          · refine jbm e3 ⟨hwi, ?_⟩
            exact jbn (fun e4 => e (hu w (by omega) e1 e2 e3 e4)) hr
          · exact jbn e3 hr
        · exact jbn e2 hr
      · exact jbn e1 hr
theorem lp_colour_miss {τ : St} {nC : Nat} {s o t i : Int32} {K : Int32 → St → Prop} (hC : nC ≤ 600) (hS : gS τ 12 = nI nC) (hk : if nC = 600 then K (-1) (sS (sS (sS τ 5 2) 11 (-1)) 4 1) else K (nI nC) (newM τ s o t i nC)) (hu : ∀ c', c' < nC → gA τ 10 c' = s → gA τ 11 c' = o → gA τ 12 c' = t → ¬ gA τ 13 c' = i) :
    ∀ (d w n : Nat), w + d = nC → d < n → w_X10_colour_3 K n τ s o t i (nI w) := by
  intro d
  induction d with
  | zero =>
    intro w n h1 h2
    obtain ⟨n, rfl⟩ : ∃ z, n = z + 1 := ⟨n - 1, by omega⟩
    show b_X10_colour_3 (w_X10_colour_3 K n) K τ s o t i (nI w)
    unfold b_X10_colour_3
    rw [hS, nI_1, nI_pred, nI_clamp (by omega)]
    refine jbr (nI_le (by omega) (by omega)) ?_
    by_cases e : nC = 600
    · rw [if_pos e] at hk
      subst e
      exact jbm rfl hk
    · rw [if_neg e] at hk
      have h6 : vp_in (nI nC) 600 := vp_in_nI (by omega) (by decide)
      exact jbn (fun q => e (nI_inj (by omega) (by decide) q)) ⟨h6, h6, h6, h6, hk⟩
  | succ d ih =>
    intro w n h1 h2
    obtain ⟨n, rfl⟩ : ∃ z, n = z + 1 := ⟨n - 1, by omega⟩
    show b_X10_colour_3 (w_X10_colour_3 K n) K τ s o t i (nI w)
    unfold b_X10_colour_3
    have hwi : vp_in (nI w) 600 := vp_in_nI (by omega) (by decide)
    have hr := ih (w + 1) n (by omega) (by omega)
    rw [hS]
    refine jbf (nI_ge (by omega) (by omega)) ⟨hwi, ?_⟩
    rw [nI_clamp (show w < 2 ^ 31 by omega), nI_1]
    by_cases e1 : gA τ 10 w = s
    · refine jbm e1 ⟨hwi, ?_⟩
      by_cases e2 : gA τ 11 w = o
      · refine jbm e2 ⟨hwi, ?_⟩
        by_cases e3 : gA τ 12 w = t
        · exact jbm e3 ⟨hwi, jbn (hu w (by omega) e1 e2 e3) hr⟩
        · exact jbn e3 hr
      · exact jbn e2 hr
    · exact jbn e1 hr
theorem ev_reach54 {σ : St} {b nC : Nat} {ky og ou : Int32} {K : Int32 → St → Prop} (hC : nC ≤ 600) (hS : gS σ 14 = nI nC) (hb : b < nC) (hk : if nC = 600 then K (-1) σ else K (nI nC) (newC σ b ky og ou nC)) : b_X0_reach_54 K σ (nI b) ky og ou := by
  unfold b_X0_reach_54
  rw [hS]
  by_cases e : nC = 600
  · rw [if_pos e] at hk
    subst e
    exact jbf (by decide) hk
  · rw [if_neg e] at hk
    have h6 : vp_in (nI nC) 600 := vp_in_nI (by omega) (by decide)
    have hb6 : vp_in (nI b) 600 := vp_in_nI (by omega) (by decide)
    refine jbr (nI_lt (b := 600) (by omega) (by decide)) ?_
    unfold w_X0_add
    rw [hS]
    refine ⟨h6, h6, h6, h6, h6, hb6, h6, hb6, ?_⟩
    rw [nI_clamp (show nC < 2 ^ 31 by omega), nI_clamp (show b < 2 ^ 31 by omega), nI_1]
    have hne : ¬ b = nC := by omega
    simp only [gA_sA, gA_sS, Nat.reduceEqDiff, reduceIte, jupd, if_neg hne]
    exact hk
theorem lp_reach_hit {σ : St} {b c : Nat} {ky og ou : Int32} {K : Int32 → St → Prop} (hk : K (nI c) σ) (he : gA σ 21 c = ky) : ∀ (l : List Nat) (n i : Nat) (h : Int32), Chn (gA σ 23) h l → i + l.length ≤ 600 → l.length < n → (∀ q, q ∈ l → q < 600) → c ∈ l → (∀ q, q ∈ l → gA σ 21 q = ky → q = c) → w_X0_reach_11 K n σ (nI b) ky og ou h (nI i) := by
  intro l
  induction l with
  | nil => intro n i h _ _ _ _ hp; cases hp
  | cons q l ih =>
    intro n i h hc hi hn hb hp hu
    rw [List.length_cons] at hi hn
    obtain ⟨n, rfl⟩ : ∃ z, n = z + 1 := ⟨n - 1, by omega⟩
    show b_X0_reach_11 (w_X0_reach_11 K n) K σ (nI b) ky og ou h (nI i)
    unfold b_X0_reach_11
    have hq : q < 600 := hb q List.mem_cons_self
    obtain ⟨rfl, hc⟩ := hc
    refine jbf (nI_ge (a := i) (b := 600) (by omega) (by decide)) (jbf (nI_m1 (by omega)) ⟨vp_in_nI hq (by decide), ?_⟩)
    rw [nI_clamp (by omega)]
    by_cases e : gA σ 21 q = ky
    · have := hu q List.mem_cons_self e
      subst this
      exact jbm e hk
    · refine jbn e ⟨vp_in_nI hq (by decide), ?_⟩
      rw [nI_1]
      have hp' : c ∈ l := by
        rcases List.mem_cons.mp hp with h | h
        · subst h; exact absurd he e
        · exact h
      exact ih n (i + 1) _ hc (by omega) (by omega) (fun z hz => hb z (List.mem_cons_of_mem _ hz)) hp' (fun z hz => hu z (List.mem_cons_of_mem _ hz))
theorem lp_reach_miss {σ : St} {b : Nat} {ky og ou : Int32} {K : Int32 → St → Prop} (hk : b_X0_reach_54 K σ (nI b) ky og ou) : ∀ (l : List Nat) (n i : Nat) (h : Int32), Chn (gA σ 23) h l → i + l.length ≤ 600 → l.length < n → (∀ q, q ∈ l → q < 600) → (∀ q, q ∈ l → ¬ gA σ 21 q = ky) → w_X0_reach_11 K n σ (nI b) ky og ou h (nI i) := by
  intro l
  induction l with
  | nil =>
    intro n i h hc hi hn _ _
    obtain ⟨n, rfl⟩ : ∃ z, n = z + 1 := ⟨n - 1, by simp at hn; omega⟩
    show b_X0_reach_11 (w_X0_reach_11 K n) K σ (nI b) ky og ou h (nI i)
    unfold b_X0_reach_11
    exact ⟨fun _ => hk, fun _ => jbr hc hk⟩
  | cons q l ih =>
    intro n i h hc hi hn hb hu
    rw [List.length_cons] at hi hn
    obtain ⟨n, rfl⟩ : ∃ z, n = z + 1 := ⟨n - 1, by omega⟩
    show b_X0_reach_11 (w_X0_reach_11 K n) K σ (nI b) ky og ou h (nI i)
    unfold b_X0_reach_11
    have hq : q < 600 := hb q List.mem_cons_self
    obtain ⟨rfl, hc⟩ := hc
    refine jbf (nI_ge (a := i) (b := 600) (by omega) (by decide)) (jbf (nI_m1 (by omega)) ⟨vp_in_nI hq (by decide), ?_⟩)
    rw [nI_clamp (by omega)]
    refine jbn (hu q List.mem_cons_self) ⟨vp_in_nI hq (by decide), ?_⟩
    rw [nI_1]
    exact ih n (i + 1) _ hc (by omega) (by omega) (fun z hz => hb z (List.mem_cons_of_mem _ hz)) (fun z hz => hu z (List.mem_cons_of_mem _ hz))
/-- the colour asked for: by its way from b, and by its four numbers -/
def colNew (nC b : Nat) (ky og ou s o t i : Int32) (τ : St) : Prop :=
  (∃ l d, l < 10 ∧ d < nC ∧ s = 1 ∧ o = nI l ∧ i = nI d ∧ og = nI l ∧ ou = nI d ∧ ((t = 0 ∧ b = d ∧ ky = nI l) ∨ (∃ t', t' < nC ∧ t = nI (t' + 1) ∧ ky = nI 90 ∧ gA τ 10 b = 1 ∧ gA τ 11 b = nI l ∧ gA τ 12 b = nI t' ∧ gA τ 13 b = nI d)))
  ∨ (∃ a d, a < 80 ∧ d < nC ∧ s = 2 ∧ o = nI a ∧ t = 0 ∧ i = nI d ∧ og = nI (10 + a) ∧ ou = nI d ∧ b = d ∧ ky = nI (10 + a))
theorem col_match {nC b c : Nat} {pr : Nat → Nat} {ky og ou s o t i : Int32} {σ τ : St} (hR : RC nC pr σ τ) (hN : colNew nC b ky og ou s o t i τ) (hb : b < nC) (h0 : 0 < c) (hc : c < nC) : (pr c = b ∧ gA σ 21 c = ky) ↔ (gA τ 10 c = s ∧ gA τ 11 c = o ∧ gA τ 12 c = t ∧ gA τ 13 c = i) := by
  obtain ⟨hC1, hC6, -, -, -, -, hall, hun, -⟩ := hR
  obtain ⟨hpr, hcl⟩ := hall c h0 hc
  have n12 : ¬ (1 : Int32) = 2 := by decide
  have n21 : ¬ (2 : Int32) = 1 := by decide
  rcases hcl with ⟨l, d, hl, hd, q1, q2, q3, q4, q5, hq⟩ | ⟨a, d, hl, hd, q1, q2, q3, q4, q5, q6, q7, q8⟩
  · rcases hq with ⟨q6, q7, q8⟩ | ⟨u, hu, q6, q8, p1, p2, p3, p4⟩
    · rw [q1, q2, q3, q6, q7, q8]
      rcases hN with ⟨l2, d2, z1, z2, rfl, rfl, rfl, -, -, ⟨rfl, rfl, rfl⟩ | ⟨u2, z3, rfl, rfl, -⟩⟩ | ⟨a2, d2, z1, z2, rfl, rfl, rfl, rfl, -, -, rfl, rfl⟩
      · constructor
        · rintro ⟨e1, e2⟩; exact ⟨rfl, e2, rfl, by rw [e1]⟩
        · rintro ⟨-, e2, -, e4⟩; exact ⟨nI_inj (by omega) (by omega) e4, e2⟩
      · constructor
        · rintro ⟨-, e2⟩; have := nI_inj (by omega) (by decide) e2; omega
        · rintro ⟨-, -, e3, -⟩; have := nI_0' (by omega) e3; omega
      · constructor
        · rintro ⟨-, e2⟩; have := nI_inj (by omega) (by omega) e2; omega
        · rintro ⟨e1, -⟩; exact absurd e1 n12
    · rw [q1, q2, q3, q6, q8]
      rcases hN with ⟨l2, d2, z1, z2, rfl, rfl, rfl, -, -, ⟨rfl, rfl, rfl⟩ | ⟨u2, z3, rfl, rfl, w1, w2, w3, w4⟩⟩ | ⟨a2, d2, z1, z2, rfl, rfl, rfl, rfl, -, -, rfl, rfl⟩
      · constructor
        · rintro ⟨-, e2⟩; have := nI_inj (by decide) (by omega) e2; omega
        · rintro ⟨-, -, e3, -⟩; have := nI_0' (by omega) e3.symm; omega
      · constructor
        · rintro ⟨e1, -⟩
          rw [e1] at p2 p3 p4
          refine ⟨rfl, by rw [← p2, w2], ?_, by rw [← p4, w4]⟩
          have := nI_inj (by omega) (by omega) (p3.symm.trans w3)
          rw [this]
        · rintro ⟨-, e2, e3, e4⟩
          have e5 := nI_inj (by omega) (by omega) e3
          have e6 : u = u2 := by omega
          refine ⟨hun (pr c) b (by omega) hb (by rw [p1, w1]) (by rw [p2, w2, e2]) (by rw [p3, w3, e6]) (by rw [p4, w4, e4]), rfl⟩
      · constructor
        · rintro ⟨-, e2⟩; have := nI_inj (by decide) (by omega) e2; omega
        · rintro ⟨e1, -⟩; exact absurd e1 n12
  · rw [q1, q2, q3, q4, q7, q8]
    rcases hN with ⟨l2, d2, z1, z2, rfl, rfl, rfl, -, -, ⟨rfl, rfl, rfl⟩ | ⟨u2, z3, rfl, rfl, -⟩⟩ | ⟨a2, d2, z1, z2, rfl, rfl, rfl, rfl, -, -, rfl, rfl⟩
    · constructor
      · rintro ⟨-, e2⟩; have := nI_inj (by omega) (by omega) e2; omega
      · rintro ⟨e1, -⟩; exact absurd e1 n21
    · constructor
      · rintro ⟨-, e2⟩; have := nI_inj (by omega) (by decide) e2; omega
      · rintro ⟨e1, -⟩; exact absurd e1 n21
    · constructor
      · rintro ⟨e1, e2⟩
        have := nI_inj (by omega) (by omega) e2
        exact ⟨rfl, by rw [show a = a2 by omega], rfl, by rw [e1]⟩
      · rintro ⟨-, e2, -, e4⟩
        have := nI_inj (by omega) (by omega) e2
        exact ⟨nI_inj (by omega) (by omega) e4, by rw [this]⟩

def FkC (σ σ' : St) : Prop := (∀ k, k ≠ 14 → gS σ' k = gS σ k) ∧ (∀ k, (k < 19 ∨ 23 < k) → gA σ' k = gA σ k) ∧ (∀ k, gL σ' k = gL σ k)
def FkM (τ τ' : St) : Prop := (∀ k, k ≠ 12 → gS τ' k = gS τ k) ∧ (∀ k, (k < 10 ∨ 13 < k) → gA τ' k = gA τ k)
theorem RG.fk {nA nW nT : Nat} {σ τ σ' τ' : St} (h : RG nA nW nT σ τ) (hC : FkC σ σ') (hM : FkM τ τ') : RG nA nW nT σ' τ' := by
  have cA : ∀ k, k < 19 → gA σ' k = gA σ k := fun k hk => hC.2.1 k (Or.inl hk)
  have mA : ∀ k, k < 10 → gA τ' k = gA τ k := fun k hk => hM.2 k (Or.inl hk)
  unfold RG prm wl at h ⊢
  rw [hC.1 1 (by decide), hC.1 2 (by decide), hC.1 3 (by decide), hM.1 0 (by decide), hM.1 1 (by decide), hM.1 2 (by decide), cA 0 (by decide), cA 1 (by decide), cA 2 (by decide), cA 3 (by decide), cA 4 (by decide), cA 5 (by decide), cA 6 (by decide), cA 7 (by decide), cA 8 (by decide), cA 9 (by decide), cA 10 (by decide), cA 11 (by decide), mA 0 (by decide), mA 1 (by decide), mA 2 (by decide), mA 3 (by decide), mA 4 (by decide), mA 5 (by decide), mA 6 (by decide), mA 7 (by decide), mA 8 (by decide), mA 9 (by decide)]
  exact h
theorem RC_new {nC b : Nat} {pr : Nat → Nat} {ky og ou s o t i : Int32} {σ τ : St} (hR : RC nC pr σ τ) (hN : colNew nC b ky og ou s o t i τ) (hb : b < nC) (hC : nC < 600) (hno : ∀ c', c' < nC → gA τ 10 c' = s → gA τ 11 c' = o → gA τ 12 c' = t → ¬ gA τ 13 c' = i) : RC (nC + 1) (fun c => if c = nC then b else pr c) (newC σ b ky og ou nC) (newM τ s o t i nC) := by
  obtain ⟨hC1, hC6, -, -, h0, h19, hall, hun, hch⟩ := hR
  have ne : ∀ j, j < nC → ¬ j = nC := fun j hj => by omega
  have nb : ¬ b = nC := ne b hb
  unfold RC newC newM
  simp only [gS_sS, gS_sA, gS_sL, gS_fA, gS_fL, gA_sS, gA_sA, gA_sL, gA_fA, gA_fL, gL_sS, gL_sA, gL_sL, gL_fA, gL_fL, reduceIte, Nat.reduceEqDiff, jupd, jupdL]
  refine ⟨by omega, by omega, trivial, trivial, ?_, ?_, fun c z0 zc => ?_, fun c c' zc zc' e1 e2 e3 e4 => ?_, fun b' hb' => ?_⟩
  · rw [if_neg (ne 0 (by omega))]; exact h0
  · rw [if_neg (ne 0 (by omega))]; exact h19
  · by_cases e : c = nC
    · subst e
      simp only [reduceIte, if_neg nb]
      refine ⟨hb, ?_⟩
      rcases hN with ⟨l, d, z1, z2, rfl, rfl, rfl, rfl, rfl, ⟨rfl, rfl, rfl⟩ | ⟨u, z3, rfl, rfl, w1, w2, w3, w4⟩⟩ | ⟨a, d, z1, z2, rfl, rfl, rfl, rfl, rfl, rfl, rfl, rfl⟩
      · exact Or.inl ⟨l, b, z1, hb, rfl, rfl, rfl, rfl, rfl, Or.inl ⟨rfl, rfl, rfl⟩⟩
      · exact Or.inl ⟨l, d, z1, z2, rfl, rfl, rfl, rfl, rfl, Or.inr ⟨u, z3, rfl, rfl, w1, w2, w3, w4⟩⟩
      · exact Or.inr ⟨a, b, z1, hb, rfl, rfl, rfl, rfl, rfl, rfl, rfl, rfl⟩
    · have hlt : c < nC := by omega
      have hp := (hall c z0 hlt).1
      simp only [if_neg e, if_neg (ne (pr c) (by omega))]
      exact hall c z0 hlt
  · by_cases x1 : c = nC
    · by_cases x2 : c' = nC
      · omega
      · rw [if_pos x1, if_neg x2] at e1 e2 e3 e4
        exact absurd e4.symm (hno c' (by omega) e1.symm e2.symm e3.symm)
    · by_cases x2 : c' = nC
      · rw [if_neg x1, if_pos x2] at e1 e2 e3 e4
        exact absurd e4 (hno c (by omega) e1 e2 e3)
      · rw [if_neg x1, if_neg x2] at e1 e2 e3 e4
        exact hun c c' (by omega) (by omega) e1 e2 e3 e4
  · have hsel : selD (fun c => decide (0 < c) && decide ((if c = nC then b else pr c) = b')) (nC + 1) = if b = b' then nC :: selD (fun c => decide (0 < c) && decide (pr c = b')) nC else selD (fun c => decide (0 < c) && decide (pr c = b')) nC := by
      rw [selD_succ (P := fun c => decide (0 < c) && decide (pr c = b')) (fun j hj => by simp only [if_neg (ne j hj)])]
      by_cases e : b = b'
      · subst e
        rw [if_pos (by simp only [reduceIte, decide_true, Bool.and_true, decide_eq_true_eq]; omega), if_pos rfl]
      · rw [if_neg e, if_neg (by simp [e])]
    rw [hsel]
    have hmem : ∀ b'', ∀ r, r ∈ selD (fun c => decide (0 < c) && decide (pr c = b'')) nC → r < nC := fun b'' r hr => (mem_selD.mp hr).1
    by_cases e : b = b'
    · subst e
      rw [if_pos rfl]
      simp only [reduceIte]
      exact ⟨rfl, by simp only [jupd, reduceIte]; exact (hch b hb).congr (fun r hr => by simp only [jupd, if_neg (ne r (hmem b r hr))])⟩
    · rw [if_neg e, if_neg (fun z => e z.symm)]
      by_cases x : b' = nC
      · rw [if_pos x]
        have hnil : selD (fun c => decide (0 < c) && decide (pr c = b')) nC = [] := by
          rcases hs : selD (fun c => decide (0 < c) && decide (pr c = b')) nC with _ | ⟨r, l⟩
          · rfl
          · exfalso
            have hr : r ∈ selD (fun c => decide (0 < c) && decide (pr c = b')) nC := by rw [hs]; exact List.mem_cons_self
            obtain ⟨g1, g2⟩ := mem_selD.mp hr
            simp only [Bool.and_eq_true, decide_eq_true_eq] at g2
            have := (hall r g2.1 g1).1
            omega
        rw [hnil]
        exact rfl
      · rw [if_neg x]
        exact (hch b' (by omega)).congr (fun r hr => by simp only [jupd, if_neg (ne r (hmem b' r hr))])
theorem RR_new {cx : Cx} {nA nC nP m hd nR nCe nQ b : Nat} {pr : Nat → Nat} {ky og ou s o t i : Int32} {σ τ : St} (hR : RR cx nA nC nP m hd nR nCe nQ pr σ τ) (hN : colNew nC b ky og ou s o t i τ) (hb : b < nC) (hC : nC < 600) (hno : ∀ c', c' < nC → gA τ 10 c' = s → gA τ 11 c' = o → gA τ 12 c' = t → ¬ gA τ 13 c' = i) : RR cx nA (nC + 1) nP m hd nR nCe nQ (fun c => if c = nC then b else pr c) (newC σ b ky og ou nC) (newM τ s o t i nC) := by
  obtain ⟨h1, h2, h3, h4, h5, h6, h7, ⟨h8, h9⟩, h10, h11⟩ := hR
  refine ⟨RC_new h1 hN hb hC hno, ?_, ?_, ?_, ?_, ?_, ?_, ⟨?_, ?_⟩, ?_, ?_⟩
  · obtain ⟨z1, z2, z3, hall, z5, z6, z7⟩ := h2
    unfold RP newC newM
    simp only [gS_sS, gS_sA, gS_sL, gS_fA, gS_fL, gA_sS, gA_sA, gA_sL, gA_fA, gA_fL, gL_sS, gL_sA, gL_sL, gL_fA, gL_fL, reduceIte, Nat.reduceEqDiff, jupd, jupdL]
    refine ⟨z1, z2, z3, fun p hp => ?_, z5, z6, z7⟩
    obtain ⟨y1, y2, y3, ⟨c, y4, y4'⟩, y5⟩ := hall p hp
    exact ⟨y1, y2, y3, ⟨c, by omega, y4'⟩, y5⟩
  · simpa only [RV, newC, newM, gS_sS, gS_sA, gS_sL, gS_fA, gS_fL, gA_sS, gA_sA, gA_sL, gA_fA, gA_fL, gL_sS, gL_sA, gL_sL, gL_fA, gL_fL, reduceIte, Nat.reduceEqDiff, jupd, jupdL] using h3
  · simpa only [RY, newC, newM, gS_sS, gS_sA, gS_sL, gS_fA, gS_fL, gA_sS, gA_sA, gA_sL, gA_fA, gA_fL, gL_sS, gL_sA, gL_sL, gL_fA, gL_fL, reduceIte, Nat.reduceEqDiff, jupd, jupdL] using h4
  · simpa only [RLf, newC, newM, gS_sS, gS_sA, gS_sL, gS_fA, gS_fL, gA_sS, gA_sA, gA_sL, gA_fA, gA_fL, gL_sS, gL_sA, gL_sL, gL_fA, gL_fL, reduceIte, Nat.reduceEqDiff, jupd, jupdL] using h5
  · simpa only [RS, newC, newM, gS_sS, gS_sA, gS_sL, gS_fA, gS_fL, gA_sS, gA_sA, gA_sL, gA_fA, gA_fL, gL_sS, gL_sA, gL_sL, gL_fA, gL_fL, reduceIte, Nat.reduceEqDiff, jupd, jupdL] using h6
  · simpa only [RSm, newM, gS_sS, gS_sA, gS_sL, gS_fA, gS_fL, gA_sS, gA_sA, gA_sL, gA_fA, gA_fL, gL_sS, gL_sA, gL_sL, gL_fA, gL_fL, reduceIte, Nat.reduceEqDiff, jupd, jupdL] using h7
  · simpa only [RDw, newC, newM, gS_sS, gS_sA, gS_sL, gS_fA, gS_fL, gA_sS, gA_sA, gA_sL, gA_fA, gA_fL, gL_sS, gL_sA, gL_sL, gL_fA, gL_fL, reduceIte, Nat.reduceEqDiff, jupd, jupdL] using h8
  · simpa only [RD, rl, newC, newM, gS_sS, gS_sA, gS_sL, gS_fA, gS_fL, gA_sS, gA_sA, gA_sL, gA_fA, gA_fL, gL_sS, gL_sA, gL_sL, gL_fA, gL_fL, reduceIte, Nat.reduceEqDiff, jupd, jupdL] using h9
  · simpa only [RE, newC, newM, gS_sS, gS_sA, gS_sL, gS_fA, gS_fL, gA_sS, gA_sA, gA_sL, gA_fA, gA_fL, gL_sS, gL_sA, gL_sL, gL_fA, gL_fL, reduceIte, Nat.reduceEqDiff, jupd, jupdL] using h10
  · simpa only [RK, newC, newM, gS_sS, gS_sA, gS_sL, gS_fA, gS_fL, gA_sS, gA_sA, gA_sL, gA_fA, gA_fL, gL_sS, gL_sA, gL_sL, gL_fA, gL_fL, reduceIte, Nat.reduceEqDiff, jupd, jupdL] using h11
/-- a colour is asked for on both sides -/
theorem sim_col {cx : Cx} {nA nC nP m hd nR nCe nQ b : Nat} {pr : Nat → Nat} {ky og ou s o t i : Int32} {σ τ : St} (hR : RR cx nA nC nP m hd nR nCe nQ pr σ τ) (hgo : Go σ τ) (hN : colNew nC b ky og ou s o t i τ) (hb : b < nC) :
    (∃ (c nC' : Nat) (pr' : Nat → Nat) (σ' τ' : St), c < nC' ∧ nC ≤ nC' ∧ (∀ K : Int32 → St → Prop, K (nI c) σ' → w_X0_reach σ (nI b) ky og ou K) ∧ (∀ K : Int32 → St → Prop, K (nI c) τ' → w_X10_colour τ s o t i K) ∧ RR cx nA nC' nP m hd nR nCe nQ pr' σ' τ' ∧ Go σ' τ' ∧ FkC σ σ' ∧ FkM τ τ')
    ∨ ((∀ K : Int32 → St → Prop, K (-1) σ → w_X0_reach σ (nI b) ky og ou K) ∧ (∀ K : Int32 → St → Prop, K (-1) (sS (sS (sS τ 5 2) 11 (-1)) 4 1) → w_X10_colour τ s o t i K)) := by
  have h1 := hR.1
  have hC6 := h1.2.1
  have hb6 : vp_in (nI b) 600 := vp_in_nI (by omega) (by decide)
  have hch := h1.2.2.2.2.2.2.2.2 b hb
  have hs0 : ¬ (0 : Int32) = s := by
    rcases hN with ⟨l, d, -, -, rfl, -⟩ | ⟨a, d, -, -, rfl, -⟩ <;> decide
  have hmem : ∀ r, r ∈ selD (fun c => decide (0 < c) && decide (pr c = b)) nC → 0 < r ∧ r < nC ∧ pr r = b := fun r hr => by
    obtain ⟨g1, g2⟩ := mem_selD.mp hr
    simp only [Bool.and_eq_true, decide_eq_true_eq] at g2
    exact ⟨g2.1, g1, g2.2⟩
  have hlen := selD_len (fun c => decide (0 < c) && decide (pr c = b)) nC
  by_cases hex : ∃ c, c < nC ∧ gA τ 10 c = s ∧ gA τ 11 c = o ∧ gA τ 12 c = t ∧ gA τ 13 c = i
  · obtain ⟨c, hc, he⟩ := hex
    have hc0 : 0 < c := by
      rcases Nat.eq_zero_or_pos c with rfl | h
      · exact absurd (h1.2.2.2.2.1.symm.trans he.1) hs0
      · exact h
    obtain ⟨m1, m2⟩ := (col_match h1 hN hb hc0 hc).mpr he
    refine Or.inl ⟨c, nC, pr, σ, τ, hc, Nat.le_refl _, fun K hK => ?_, fun K hK => ⟨nC + 1, ?_⟩, hR, hgo, ⟨fun _ _ => rfl, fun _ _ => rfl, fun _ => rfl⟩, ⟨fun _ _ => rfl, fun _ _ => rfl⟩⟩
    · unfold w_X0_reach
      refine ⟨hb6, 601, ?_⟩
      rw [nI_clamp (by omega)]
      exact lp_reach_hit hK m2 _ 601 0 _ hch (by omega) (by omega) (fun q hq => by have := (hmem q hq).2.1; omega) (mem_selD.mpr ⟨hc, by simp only [Bool.and_eq_true, decide_eq_true_eq]; exact ⟨hc0, m1⟩⟩) (fun q hq e => by
        obtain ⟨x0, x1, x2⟩ := hmem q hq
        have := (col_match h1 hN hb x0 x1).mp ⟨x2, e⟩
        exact h1.2.2.2.2.2.2.2.1 q c x1 hc (this.1.trans he.1.symm) (this.2.1.trans he.2.1.symm) (this.2.2.1.trans he.2.2.1.symm) (this.2.2.2.trans he.2.2.2.symm))
    · exact lp_colour_hit hC6 h1.2.2.2.1 hc hK he (fun c' hc' x1 x2 x3 x4 => h1.2.2.2.2.2.2.2.1 c' c hc' hc (x1.trans he.1.symm) (x2.trans he.2.1.symm) (x3.trans he.2.2.1.symm) (x4.trans he.2.2.2.symm)) nC 0 (nC + 1) (by omega) (by omega) (by omega)
  · have hno : ∀ c', c' < nC → gA τ 10 c' = s → gA τ 11 c' = o → gA τ 12 c' = t → ¬ gA τ 13 c' = i := fun c' hc' x1 x2 x3 x4 => hex ⟨c', hc', x1, x2, x3, x4⟩
    have hr : ∀ K : Int32 → St → Prop, (if nC = 600 then K (-1) σ else K (nI nC) (newC σ b ky og ou nC)) → w_X0_reach σ (nI b) ky og ou K := fun K hK => by
      unfold w_X0_reach
      refine ⟨hb6, 601, ?_⟩
      rw [nI_clamp (by omega)]
      exact lp_reach_miss (ev_reach54 hC6 h1.2.2.1 hb hK) _ 601 0 _ hch (by omega) (by omega) (fun q hq => by have := (hmem q hq).2.1; omega) (fun q hq e => by
        obtain ⟨x0, x1, x2⟩ := hmem q hq
        have := (col_match h1 hN hb x0 x1).mp ⟨x2, e⟩
        exact hno q x1 this.1 this.2.1 this.2.2.1 this.2.2.2)
    have hm : ∀ K : Int32 → St → Prop, (if nC = 600 then K (-1) (sS (sS (sS τ 5 2) 11 (-1)) 4 1) else K (nI nC) (newM τ s o t i nC)) → w_X10_colour τ s o t i K := fun K hK => ⟨nC + 1, lp_colour_miss hC6 h1.2.2.2.1 hK hno nC 0 (nC + 1) (by omega) (by omega)⟩
    by_cases hfull : nC = 600
    · exact Or.inr ⟨fun K hK => hr K (by rw [if_pos hfull]; exact hK), fun K hK => hm K (by rw [if_pos hfull]; exact hK)⟩
    · refine Or.inl ⟨nC, nC + 1, _, _, _, by omega, by omega, fun K hK => hr K (by rw [if_neg hfull]; exact hK), fun K hK => hm K (by rw [if_neg hfull]; exact hK), RR_new hR hN hb (by omega) hno, ?_, ?_, ?_⟩
      · obtain ⟨z1, z2, z3, z4, z5⟩ := hgo
        unfold Go newC newM
        simp only [gS_sS, gS_sA, gS_sL, gS_fA, gS_fL, gA_sS, gA_sA, gA_sL, gA_fA, gA_fL, gL_sS, gL_sA, gL_sL, gL_fA, gL_fL, reduceIte, Nat.reduceEqDiff, jupd, jupdL]
        exact ⟨z1, z2, z3, z4, z5⟩
      · exact ⟨fun k hk => by simp only [newC, gS_sA, gS_sS, if_neg hk], fun k hk => by simp only [newC, gA_sA, gA_sS, if_neg (show ¬ k = 19 by omega), if_neg (show ¬ k = 20 by omega), if_neg (show ¬ k = 21 by omega), if_neg (show ¬ k = 22 by omega), if_neg (show ¬ k = 23 by omega)], fun k => by simp only [newC, gL_sA, gL_sS]⟩
      · exact ⟨fun k hk => by simp only [newM, gS_sA, gS_sS, if_neg hk], fun k hk => by simp only [newM, gA_sA, gA_sS, if_neg (show ¬ k = 10 by omega), if_neg (show ¬ k = 11 by omega), if_neg (show ¬ k = 12 by omega), if_neg (show ¬ k = 13 by omega)]⟩
