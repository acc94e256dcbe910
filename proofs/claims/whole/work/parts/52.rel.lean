/-! ===== the relation between the class's state σ and the reference's state τ ===== -/
def jpo (k : Nat) : Nat := if (2 ≤ k ∧ k ≤ 8) ∨ k = 10 ∨ k = 18 then 2 else if k = 19 then 3 else 1
def okAct (k n p : Int32) : Prop := ∃ kk pp, kk < 22 ∧ k = nI kk ∧ p = nI pp ∧ 1 ≤ pp ∧ pp ≤ 3 ∧ (kk ≠ 14 → pp = jpo kk) ∧ ((11 ≤ kk ∧ kk ≤ 14) ∨ kk = 21 → isN n 10) ∧ (kk = 15 → isN n 100)
def wl (τ : St) (a s n : Nat) : List Nat := selU (fun w => decide (gA τ 3 w = nI a) && decide (gA τ 4 w = nI s)) n
def lastIs (x : Int32) (l : List Nat) : Prop := (l = [] ∧ x = -1) ∨ ∃ l' w, l = l' ++ [w] ∧ x = nI w
def prm (τ : St) (nA q : Nat) (x : Int32) : Prop := (x = -1 ∧ ∀ b, b < nA → ¬ (gA τ 0 b = 15 ∧ gA τ 1 b = nI q)) ∨ ∃ b, b < nA ∧ x = nI b ∧ gA τ 0 b = 15 ∧ gA τ 1 b = nI q ∧ ∀ b', b' < b → ¬ (gA τ 0 b' = 15 ∧ gA τ 1 b' = nI q)
/-- the graphs -/
def RG (nA nW nT : Nat) (σ τ : St) : Prop := nA ≤ 80 ∧ nW ≤ 300 ∧ nT ≤ 40 ∧ gS σ 1 = nI nA ∧ gS τ 0 = nI nA ∧ gS σ 2 = nI nW ∧ gS τ 1 = nI nW ∧ gS σ 3 = nI nT ∧ gS τ 2 = nI nT ∧
  (∀ a, a < nA → gA τ 0 a = gA σ 0 a ∧ gA τ 1 a = gA σ 1 a ∧ gA τ 2 a = gA σ 2 a ∧ okAct (gA τ 0 a) (gA τ 1 a) (gA τ 2 a)) ∧
  (∀ w, w < nW → gA τ 5 w = gA σ 4 w ∧ gA τ 6 w = gA σ 5 w ∧ isN (gA τ 3 w) nA ∧ isN (gA τ 4 w) 2 ∧ ∃ b p q, b < nA ∧ gA τ 5 w = nI b ∧ gA τ 6 w = nI p ∧ gA τ 2 b = nI q ∧ p < q ∧ q ≤ 3) ∧
  (∀ a s, a < 80 → s < 2 → Chn (gA σ 6) (gA σ 7 (2 * a + s)) (wl τ a s nW) ∧ lastIs (gA σ 8 (2 * a + s)) (wl τ a s nW)) ∧
  (∀ q, q < 100 → prm τ nA q (gA σ 3 q)) ∧
  (∀ t, t < nT → gA τ 7 t = gA σ 9 t ∧ gA τ 8 t = gA σ 10 t ∧ gA τ 9 t = gA σ 11 t ∧ ∃ a p q, a < nA ∧ gA τ 7 t = nI a ∧ gA τ 8 t = nI p ∧ gA τ 2 a = nI q ∧ p < q ∧ q ≤ 3)
/-- the colours; pr: from which one each was reached -/
def RC (nC : Nat) (pr : Nat → Nat) (σ τ : St) : Prop := 1 ≤ nC ∧ nC ≤ 600 ∧ gS σ 14 = nI nC ∧ gS τ 12 = nI nC ∧ gA τ 10 0 = 0 ∧ gA σ 19 0 = -1 ∧
  (∀ c, 0 < c → c < nC → pr c < c ∧
    ((∃ l d, l < 10 ∧ d < c ∧ gA τ 10 c = 1 ∧ gA τ 11 c = nI l ∧ gA τ 13 c = nI d ∧ gA σ 19 c = nI l ∧ gA σ 20 c = nI d ∧
        ((gA τ 12 c = 0 ∧ pr c = d ∧ gA σ 21 c = nI l) ∨
         (∃ t, t < c ∧ gA τ 12 c = nI (t + 1) ∧ gA σ 21 c = nI 90 ∧ gA τ 10 (pr c) = 1 ∧ gA τ 11 (pr c) = nI l ∧ gA τ 12 (pr c) = nI t ∧ gA τ 13 (pr c) = nI d)))
     ∨ (∃ a d, a < 80 ∧ d < c ∧ gA τ 10 c = 2 ∧ gA τ 11 c = nI a ∧ gA τ 12 c = 0 ∧ gA τ 13 c = nI d ∧ gA σ 19 c = nI (10 + a) ∧ gA σ 20 c = nI d ∧ pr c = d ∧ gA σ 21 c = nI (10 + a)))) ∧
  (∀ c c', c < nC → c' < nC → gA τ 10 c = gA τ 10 c' → gA τ 11 c = gA τ 11 c' → gA τ 12 c = gA τ 12 c' → gA τ 13 c = gA τ 13 c' → c = c') ∧
  (∀ b, b < nC → Chn (gA σ 23) (gA σ 22 b) (selD (fun c => decide (0 < c) && decide (pr c = b)) nC))
/-- the pairs of an act and a colour -/
def RP (nA nC nP : Nat) (σ τ : St) : Prop := nP ≤ 3000 ∧ gS σ 16 = nI nP ∧ gS τ 13 = nI nP ∧
  (∀ p, p < nP → gA σ 24 p = gA τ 14 p ∧ gA σ 25 p = gA τ 15 p ∧ gA σ 26 p = gA τ 16 p ∧ isN (gA τ 15 p) nC ∧ isN (gA τ 17 p) 3 ∧ ∃ a q h, a < nA ∧ gA τ 14 p = nI a ∧ gA τ 2 a = nI q ∧ 1 ≤ q ∧ q ≤ 3 ∧ gA τ 16 p = nI h ∧ h < 2 ^ q ∧ (gA τ 17 p = 0 ↔ ¬ h = 2 ^ q - 1)) ∧
  (∀ p q, p < nP → q < nP → gA τ 14 p = gA τ 14 q → gA τ 15 p = gA τ 15 q → p = q) ∧
  (∀ c, c < 600 → Chn (gA σ 28) (gA σ 27 c) (selD (fun p => decide (gA τ 15 p = nI c)) nP)) ∧
  (∀ a, a < 80 → Chn (gA τ 18) (gA τ 22 a) (selD (fun p => decide (gA τ 14 p = nI a)) nP))
/-- what came to their ports -/
def RV (nR nP : Nat) (σ τ : St) : Prop := ∀ p h, p < nP → gA τ 16 p = nI h → h < 8 → ∀ k, k < 3 → h / 2 ^ k % 2 = 1 → vr nR (gL σ 4 (3 * p + k)) (gA τ 19 (3 * p + k)) (gA τ 20 (3 * p + k)) (gA τ 21 (3 * p + k))
/-- those that are ready, as they became so -/
def RY (nP m hd : Nat) (σ τ : St) : Prop := gS τ 14 = nI m ∧ gS σ 17 = nI hd ∧ gS σ 18 = nI (hd + m) ∧ hd + m ≤ sm (fun p => if gA τ 17 p = 0 then 0 else 1) nP ∧
  (∀ i, i < m → ∃ p, p < nP ∧ gA τ 24 i = nI p ∧ gA σ 29 (hd + i) = nI p ∧ gA τ 17 p = 1) ∧ (∀ i j, i < m → j < m → gA τ 24 i = gA τ 24 j → i = j)
def pop3 (h : Nat) : Nat := h % 2 + h / 2 % 2 + h / 4 % 2
/-- tokens left -/
def RLf (nP : Nat) (σ τ : St) : Prop := gS σ 15 = nI (sm (fun p => if gA τ 17 p = 0 then pop3 (uv (gA τ 16 p)) else 0) nP)
/-- rows and cells -/
def RS (nR nCe : Nat) (σ τ : St) : Prop := nR ≤ 300 ∧ nCe ≤ 2000 ∧ gS σ 12 = nI nR ∧ gS τ 15 = nI nR ∧ gS σ 13 = nI nCe ∧ gS τ 16 = nI nCe ∧
  (∀ r, r < nR → isN (gA τ 27 r) 80 ∧ ∃ s z, gA σ 14 r = nI s ∧ gA τ 25 r = nI s ∧ gA σ 15 r = nI z ∧ gA τ 26 r = nI z ∧ z ≤ 200 ∧ s + z ≤ nCe) ∧
  (∀ r r', r < nR → r' < nR → gA τ 27 r = gA τ 27 r' → gA τ 28 r = gA τ 28 r' → r = r') ∧
  (∀ a, a < 80 → (gA σ 13 a = -1 ∧ ∀ r, r < nR → ¬ (gA τ 27 r = nI a ∧ gA τ 28 r = 0)) ∨ ∃ r, r < nR ∧ gA σ 13 a = nI r ∧ gA τ 27 r = nI a ∧ gA τ 28 r = 0) ∧
  (∀ i, i < nCe → (gL σ 3 i = 0 ∧ gA τ 29 i = 0) ∨ vr nR (gL σ 3 i) (gA τ 29 i) (gA τ 30 i) (gA τ 31 i))
/-- who made them went off -/
def RSm (nP nR : Nat) (τ : St) : Prop := ∀ r, r < nR → ∃ p, p < nP ∧ gA τ 17 p = 2 ∧ gA τ 14 p = gA τ 27 r ∧ gA τ 15 p = gA τ 28 r
def rl (τ : St) (nQ i : Nat) : List Nat := (selU (fun n => decide (gA τ 32 n = nI i)) nQ).map (fun n => uv (gA τ 33 n))
/-- readers that wait -/
def RDw (nQ : Nat) (σ τ : St) : Prop := gS τ 17 = nI nQ ∧ nQ ≤ 3000 ∧ gS σ 11 = nI (sm (fun n => if gA τ 32 n = -1 then 0 else 1) nQ) ∧ (∀ n, n < nQ → gA τ 32 n = -1 ∨ isN (gA τ 32 n) 2000)
def RD (nP nCe nQ : Nat) (σ τ : St) : Prop := nQ ≤ sm (fun p => if gA τ 17 p = 2 then 1 else 0) nP ∧
  (∀ n, n < nQ → (gA τ 32 n = -1 ∨ isN (gA τ 32 n) nCe) ∧ ∃ p, p < nP ∧ gA τ 33 n = nI p ∧ gA τ 17 p = 2) ∧
  (∀ n n', n < nQ → n' < nQ → gA τ 33 n = gA τ 33 n' → n = n') ∧
  (∀ i, i < nCe → Chn (gA σ 18) (gA σ 16 i) (rl τ nQ i) ∧ (gL σ 3 i = 0 → lastIs (gA σ 17 i) (rl τ nQ i)))
/-- the ends -/
def RE (nR : Nat) (σ τ : St) : Prop := ∀ e, e < 10 → (gL σ 2 e = 0 ∧ gA τ 34 e = 0) ∨ vr nR (gL σ 2 e) (gA τ 34 e) (gA τ 35 e) (gA τ 36 e)
/-- counts -/
def RK0 (σ τ : St) : Prop := gS σ 5 = gS τ 6 ∧ gS σ 6 = gS τ 7 ∧ gS σ 8 = gS τ 9 ∧ gS σ 9 = gS τ 10 ∧ (∀ a, a < 80 → gA σ 12 a = gA τ 23 a)
/-- what stays while acts go off -/
abbrev Cx : Type := (Nat → Int32) × (Nat → Int64) × (Nat → Int32)
/-- the same within a run of nF acts; cx: what stays while one act goes off -/
def RK (cx : Cx) (nF : Nat) (σ τ : St) : Prop := gS σ 5 = gS τ 6 ∧ gS σ 6 = cx.1 5 ∧ gS σ 8 = gS τ 9 ∧ gS σ 9 = gS τ 10 ∧ (∀ a, a < 80 → gA σ 12 a = gA τ 23 a) ∧ (∀ a, nF ≤ a → a < 80 → gA τ 23 a = 0) ∧ gS τ 6 = cx.1 0 ∧ gS τ 7 = cx.1 1 ∧ gS σ 7 = cx.1 2 ∧ gS τ 8 = cx.1 3 ∧ gS σ 0 = 1 ∧ gS τ 3 = 1 ∧ cx.1 4 ≤ gS τ 14 ∧ (fun i => if i < 100 then gL σ 0 i else gL σ 1 (i - 100)) = cx.2.1 ∧ gA τ 37 = cx.2.2
/-- a run under way -/
def RR (cx : Cx) (nA nC nP m hd nR nCe nQ : Nat) (pr : Nat → Nat) (σ τ : St) : Prop := RC nC pr σ τ ∧ RP nA nC nP σ τ ∧ RV nR nP σ τ ∧ RY nP m hd σ τ ∧ RLf nP σ τ ∧ RS nR nCe σ τ ∧ RSm nP nR τ ∧ (RDw nQ σ τ ∧ RD nP nCe nQ σ τ) ∧ RE nR σ τ ∧ RK cx nA σ τ
def Go (σ τ : St) : Prop := gS σ 4 = -1 ∧ gS τ 4 = 0 ∧ gS τ 5 = 0 ∧ gS τ 11 = -1 ∧ gS σ 10 = -1
def Hlt (σ τ : St) : Prop := gS τ 4 = 1 ∧ gS σ 4 = gS τ 5 ∧ ¬ gS σ 4 = -1 ∧ gS σ 10 = gS τ 11
/-- what later calls see of the latest run -/
def RO (nA : Nat) (σ τ : St) : Prop := gS σ 0 = gS τ 3 ∧ zb (gS σ 0) ∧ (gS σ 0 = 1 → ∃ nC nP m hd nR nCe nQ : Nat, gS σ 4 = gS τ 5 ∧ gS σ 7 = gS τ 8 ∧ gS σ 10 = gS τ 11 ∧ gS σ 14 = nI nC ∧ gS τ 12 = nI nC ∧ gS τ 14 = nI m ∧ gS σ 17 = nI hd ∧ gS σ 18 = nI (hd + m) ∧ hd + m ≤ 3000 ∧ nP ≤ 3000 ∧ gS τ 13 = nI nP ∧ (∀ p, p < nP → isN (gA τ 16 p) 8) ∧ RLf nP σ τ ∧ RS nR nCe σ τ ∧ RDw nQ σ τ ∧ RE nR σ τ ∧ RK0 σ τ ∧ (∀ r, r < nR → isN (gA τ 27 r) nA))
/-- four of the class's notes are never written -/
def RZ (σ : St) : Prop := ∀ i, 6 ≤ i → i < 10 → gL σ 0 i = 0 ∧ gL σ 1 i = 0
def Rel (σ τ : St) : Prop := RZ σ ∧ ∃ nA nW nT : Nat, RG nA nW nT σ τ ∧ RO nA σ τ
/-! searches along the chains -/
theorem lp_find_hit {σ : St} {a p : Nat} {K : Int32 → St → Prop} (hk : K (nI p) σ) (ha : gA σ 24 p = nI a) : ∀ (l : List Nat) (n i : Nat) (h : Int32), Chn (gA σ 28) h l → i + l.length ≤ 80 → l.length < n → (∀ q, q ∈ l → q < 3000) → p ∈ l → (∀ q, q ∈ l → gA σ 24 q = nI a → q = p) → w_X1_find_10 K n σ (nI a) h (nI i) := by
  intro l
  induction l with
  | nil => intro n i h _ _ _ _ hp; cases hp
  | cons q l ih =>
    intro n i h hc hi hn hb hp hu
    rw [List.length_cons] at hi hn
    obtain ⟨n, rfl⟩ : ∃ z, n = z + 1 := ⟨n - 1, by omega⟩
    show b_X1_find_10 (w_X1_find_10 K n) K σ (nI a) h (nI i)
    unfold b_X1_find_10
    have hq : q < 3000 := hb q List.mem_cons_self
    obtain ⟨rfl, hc⟩ := hc
    refine jbf (nI_ge (a := i) (b := 80) (by omega) (by decide)) (jbf (nI_m1 (by omega)) ⟨vp_in_nI hq (by decide), ?_⟩)
    rw [nI_clamp (by omega)]
    by_cases e : gA σ 24 q = nI a
    · have := hu q List.mem_cons_self e
      subst this
      exact jbm e hk
    · refine jbn e ⟨vp_in_nI hq (by decide), ?_⟩
      rw [nI_1]
      have hp' : p ∈ l := by
        rcases List.mem_cons.mp hp with h | h
        · subst h; exact absurd ha e
        · exact h
      exact ih n (i + 1) _ hc (by omega) (by omega) (fun z hz => hb z (List.mem_cons_of_mem _ hz)) hp' (fun z hz => hu z (List.mem_cons_of_mem _ hz))
theorem lp_find_miss {σ : St} {a : Nat} {K : Int32 → St → Prop} (hk : K (-1) σ) : ∀ (l : List Nat) (n i : Nat) (h : Int32), Chn (gA σ 28) h l → i + l.length ≤ 80 → l.length < n → (∀ q, q ∈ l → q < 3000) → (∀ q, q ∈ l → ¬ gA σ 24 q = nI a) → w_X1_find_10 K n σ (nI a) h (nI i) := by
  intro l
  induction l with
  | nil =>
    intro n i h hc hi hn _ _
    obtain ⟨n, rfl⟩ : ∃ z, n = z + 1 := ⟨n - 1, by simp at hn; omega⟩
    show b_X1_find_10 (w_X1_find_10 K n) K σ (nI a) h (nI i)
    unfold b_X1_find_10
    exact ⟨fun _ => hk, fun _ => jbr hc hk⟩
  | cons q l ih =>
    intro n i h hc hi hn hb hu
    rw [List.length_cons] at hi hn
    obtain ⟨n, rfl⟩ : ∃ z, n = z + 1 := ⟨n - 1, by omega⟩
    show b_X1_find_10 (w_X1_find_10 K n) K σ (nI a) h (nI i)
    unfold b_X1_find_10
    have hq : q < 3000 := hb q List.mem_cons_self
    obtain ⟨rfl, hc⟩ := hc
    refine jbf (nI_ge (a := i) (b := 80) (by omega) (by decide)) (jbf (nI_m1 (by omega)) ⟨vp_in_nI hq (by decide), ?_⟩)
    rw [nI_clamp (by omega)]
    refine jbn (hu q List.mem_cons_self) ⟨vp_in_nI hq (by decide), ?_⟩
    rw [nI_1]
    exact ih n (i + 1) _ hc (by omega) (by omega) (fun z hz => hb z (List.mem_cons_of_mem _ hz)) (fun z hz => hu z (List.mem_cons_of_mem _ hz))
theorem lp_pair_hit {τ : St} {c p : Nat} {x : Int32} {K : Int32 → St → Prop} (hk : K (nI p) τ) (ha : gA τ 15 p = nI c) : ∀ (l : List Nat) (n : Nat) (h : Int32), Chn (gA τ 18) h l → l.length < n → (∀ q, q ∈ l → q < 3000) → p ∈ l → (∀ q, q ∈ l → gA τ 15 q = nI c → q = p) → w_X10_pair_7 K n τ x (nI c) h := by
  intro l
  induction l with
  | nil => intro n h _ _ _ hp; cases hp
  | cons q l ih =>
    intro n h hc hn hb hp hu
    rw [List.length_cons] at hn
    obtain ⟨n, rfl⟩ : ∃ z, n = z + 1 := ⟨n - 1, by omega⟩
    show b_X10_pair_7 (w_X10_pair_7 K n) K τ x (nI c) h
    unfold b_X10_pair_7
    have hq : q < 3000 := hb q List.mem_cons_self
    obtain ⟨rfl, hc⟩ := hc
    refine jbf (nI_pos (by omega)) ⟨vp_in_nI hq (by decide), ?_⟩
    rw [nI_clamp (by omega)]
    by_cases e : gA τ 15 q = nI c
    · have := hu q List.mem_cons_self e
      subst this
      exact jbm e hk
    · refine jbn e ⟨vp_in_nI hq (by decide), ?_⟩
      have hp' : p ∈ l := by
        rcases List.mem_cons.mp hp with h | h
        · subst h; exact absurd ha e
        · exact h
      exact ih n _ hc (by omega) (fun z hz => hb z (List.mem_cons_of_mem _ hz)) hp' (fun z hz => hu z (List.mem_cons_of_mem _ hz))
/-- the reference's new pair -/
def addM (τ : St) (a : Nat) (c : Int32) (nP : Nat) : St := sS (sA (sA (sA (sA (sA (sA τ 14 nP (nI a)) 15 nP c) 16 nP 0) 17 nP 0) 18 nP (gA τ 22 a)) 22 a (nI nP)) 13 (nI (nP + 1))
def addC (σ : St) (a : Nat) (c nP : Nat) : St := sA (sA (sA (sA (sA (sS σ 16 (nI (nP + 1))) 24 nP (nI a)) 25 nP (nI c)) 26 nP 0) 28 nP (gA σ 27 c)) 27 c (nI nP)
theorem lp_pair_miss {τ : St} {a c nP : Nat} {K : Int32 → St → Prop} (ha : a < 80) (hP : nP ≤ 3000) (hS : gS τ 13 = nI nP) (hk : if nP = 3000 then K (-1) (sS (sS (sS τ 5 2) 11 (-1)) 4 1) else K (nI nP) (addM τ a (nI c) nP)) : ∀ (l : List Nat) (n : Nat) (h : Int32), Chn (gA τ 18) h l → l.length < n → (∀ q, q ∈ l → q < 3000) → (∀ q, q ∈ l → ¬ gA τ 15 q = nI c) → w_X10_pair_7 K n τ (nI a) (nI c) h := by
  intro l
  induction l with
  | nil =>
    intro n h hc hn _ _
    obtain ⟨n, rfl⟩ : ∃ z, n = z + 1 := ⟨n - 1, by simp at hn; omega⟩
    show b_X10_pair_7 (w_X10_pair_7 K n) K τ (nI a) (nI c) h
    unfold b_X10_pair_7
    have hc : h = -1 := hc
    subst hc
    refine jbr (by decide) ?_
    rw [hS, nI_clamp (by omega), nI_clamp (by omega)]
    by_cases e : nP = 3000
    · rw [if_pos e] at hk
      subst e
      exact jbm rfl hk
    · rw [if_neg e] at hk
      have h3 : vp_in (nI nP) 3000 := vp_in_nI (by omega) (by decide)
      have h8 : vp_in (nI a) 80 := vp_in_nI ha (by decide)
      refine jbn (fun q => e (nI_inj (by omega) (by decide) q)) ⟨h3, h3, h3, h3, h8, h3, h8, ?_⟩
      rw [nI_1]
      exact hk
  | cons q l ih =>
    intro n h hc hn hb hu
    rw [List.length_cons] at hn
    obtain ⟨n, rfl⟩ : ∃ z, n = z + 1 := ⟨n - 1, by omega⟩
    show b_X10_pair_7 (w_X10_pair_7 K n) K τ (nI a) (nI c) h
    unfold b_X10_pair_7
    have hq : q < 3000 := hb q List.mem_cons_self
    obtain ⟨rfl, hc⟩ := hc
    refine jbf (nI_pos (by omega)) ⟨vp_in_nI hq (by decide), ?_⟩
    rw [nI_clamp (by omega)]
    refine jbn (hu q List.mem_cons_self) ⟨vp_in_nI hq (by decide), ?_⟩
    exact ih n _ hc (by omega) (fun z hz => hb z (List.mem_cons_of_mem _ hz)) (fun z hz => hu z (List.mem_cons_of_mem _ hz))
