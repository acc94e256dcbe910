/-! ===== pure rows: numbers, chains, sums ===== -/
theorem jupd (f : Nat → Int32) (k : Nat) (x : Int32) (j : Nat) : upd f k x j = if j = k then x else f j := by
  by_cases h : j = k
  · subst h; rw [pk_us, if_pos rfl]
  · rw [pk_un h, if_neg h]
theorem jupdL (f : Nat → Int64) (k : Nat) (x : Int64) (j : Nat) : vp_updL f k x j = if j = k then x else f j := by
  by_cases h : j = k
  · subst h; rw [pk_uLs, if_pos rfl]
  · rw [pk_uLn h, if_neg h]
theorem jbr {c A B : Prop} (h : c) (a : A) : (c → A) ∧ (¬ c → B) := ⟨fun _ => a, fun q => absurd h q⟩
theorem jbf {c A B : Prop} (h : ¬ c) (b : B) : (c → A) ∧ (¬ c → B) := ⟨fun q => absurd q h, fun _ => b⟩
theorem jbn {c A B : Prop} (h : ¬ c) (a : A) : (¬ c → A) ∧ (c → B) := ⟨fun _ => a, fun q => absurd q h⟩
theorem jbm {c A B : Prop} (h : c) (b : B) : (¬ c → A) ∧ (c → B) := ⟨fun q => absurd h q, fun _ => b⟩
theorem nI_m1 {n : Nat} (h : n < 2 ^ 31) : ¬ nI n = -1 := by
  intro e
  have := congrArg Int32.toInt e
  rw [nI_toInt h, show (-1 : Int32).toInt = -1 from by decide] at this
  omega
theorem nI_inj {a b : Nat} (ha : a < 2 ^ 31) (hb : b < 2 ^ 31) (h : nI a = nI b) : a = b := (nI_eq ha hb).mp h
def isN (x : Int32) (b : Nat) : Prop := ∃ n, n < b ∧ x = nI n
/-- a chain of places: heads by their numbers, -1 at the end -/
def Chn (nx : Nat → Int32) : Int32 → List Nat → Prop
  | h, [] => h = -1
  | h, p :: l => h = nI p ∧ Chn nx (nx p) l
theorem Chn.congr {nx nx' : Nat → Int32} : ∀ {l : List Nat} {h : Int32}, Chn nx h l → (∀ p, p ∈ l → nx' p = nx p) → Chn nx' h l
  | [], _, hc, _ => hc
  | p :: l, _, hc, he => ⟨hc.1, by rw [he p List.mem_cons_self]; exact Chn.congr hc.2 (fun q hq => he q (List.mem_cons_of_mem _ hq))⟩
/-- the numbers under n that are picked, downwards and upwards -/
def selD (P : Nat → Bool) : Nat → List Nat
  | 0 => []
  | n + 1 => if P n then n :: selD P n else selD P n
def selU (P : Nat → Bool) : Nat → List Nat
  | 0 => []
  | n + 1 => if P n then selU P n ++ [n] else selU P n
theorem mem_selD {P : Nat → Bool} {p : Nat} : ∀ {n : Nat}, p ∈ selD P n ↔ p < n ∧ P p = true
  | 0 => by simp [selD]
  | n + 1 => by
    unfold selD
    by_cases h : P n = true
    · rw [if_pos h, List.mem_cons, mem_selD]
      constructor
      · rintro (rfl | ⟨h1, h2⟩)
        · exact ⟨Nat.lt_succ_self _, h⟩
        · exact ⟨Nat.lt_succ_of_lt h1, h2⟩
      · rintro ⟨h1, h2⟩
        rcases Nat.lt_succ_iff_lt_or_eq.mp h1 with h3 | h3
        · exact Or.inr ⟨h3, h2⟩
        · exact Or.inl h3
    · rw [if_neg h, mem_selD]
      constructor
      · rintro ⟨h1, h2⟩
        exact ⟨Nat.lt_succ_of_lt h1, h2⟩
      · rintro ⟨h1, h2⟩
        rcases Nat.lt_succ_iff_lt_or_eq.mp h1 with h3 | h3
        · exact ⟨h3, h2⟩
        · subst h3; exact absurd h2 h
theorem mem_selU {P : Nat → Bool} {p : Nat} : ∀ {n : Nat}, p ∈ selU P n ↔ p < n ∧ P p = true
  | 0 => by simp [selU]
  | n + 1 => by
    unfold selU
    by_cases h : P n = true
    · rw [if_pos h, List.mem_append, mem_selU, List.mem_singleton]
      constructor
      · rintro (⟨h1, h2⟩ | rfl)
        · exact ⟨Nat.lt_succ_of_lt h1, h2⟩
        · exact ⟨Nat.lt_succ_self _, h⟩
      · rintro ⟨h1, h2⟩
        rcases Nat.lt_succ_iff_lt_or_eq.mp h1 with h3 | h3
        · exact Or.inl ⟨h3, h2⟩
        · exact Or.inr h3
    · rw [if_neg h, mem_selU]
      constructor
      · rintro ⟨h1, h2⟩
        exact ⟨Nat.lt_succ_of_lt h1, h2⟩
      · rintro ⟨h1, h2⟩
        rcases Nat.lt_succ_iff_lt_or_eq.mp h1 with h3 | h3
        · exact ⟨h3, h2⟩
        · subst h3; exact absurd h2 h
theorem selD_congr {P Q : Nat → Bool} : ∀ {n : Nat}, (∀ p, p < n → P p = Q p) → selD P n = selD Q n
  | 0, _ => rfl
  | n + 1, h => by
    unfold selD
    rw [h n (Nat.lt_succ_self n), selD_congr (fun p hp => h p (Nat.lt_succ_of_lt hp))]
theorem selU_congr {P Q : Nat → Bool} : ∀ {n : Nat}, (∀ p, p < n → P p = Q p) → selU P n = selU Q n
  | 0, _ => rfl
  | n + 1, h => by
    unfold selU
    rw [h n (Nat.lt_succ_self n), selU_congr (fun p hp => h p (Nat.lt_succ_of_lt hp))]
theorem selD_len (P : Nat → Bool) : ∀ n : Nat, (selD P n).length ≤ n
  | 0 => Nat.le_refl 0
  | n + 1 => by
    unfold selD
    have := selD_len P n
    split
    · simp; exact this
    · omega
theorem selU_len (P : Nat → Bool) : ∀ n : Nat, (selU P n).length ≤ n
  | 0 => Nat.le_refl 0
  | n + 1 => by
    unfold selU
    have := selU_len P n
    split
    · simp; exact this
    · omega
theorem selD_nodup (P : Nat → Bool) : ∀ n : Nat, (selD P n).Nodup
  | 0 => List.nodup_nil
  | n + 1 => by
    unfold selD
    split
    · rw [List.nodup_cons]
      exact ⟨fun h => absurd (mem_selD.mp h).1 (Nat.lt_irrefl n), selD_nodup P n⟩
    · exact selD_nodup P n
/-- different numbers under N are at most N -/
theorem pigeon : ∀ (N : Nat) (l : List Nat), l.Nodup → (∀ x, x ∈ l → x < N) → l.length ≤ N
  | 0, [], _, _ => Nat.le_refl 0
  | 0, x :: l, _, h => absurd (h x List.mem_cons_self) (Nat.not_lt_zero x)
  | N + 1, l, hd, h => by
    have h1 : (l.erase N).length ≤ N := pigeon N (l.erase N) (hd.erase N) (fun x hx => by
      have hx2 := h x (List.mem_of_mem_erase hx)
      have : x ≠ N := fun e => by
        subst e
        exact (List.Nodup.not_mem_erase hd) hx
      omega)
    have h2 : l.length ≤ (l.erase N).length + 1 := by
      rw [List.length_erase]
      split <;> omega
    omega
/-- sums -/
def sm (f : Nat → Nat) : Nat → Nat
  | 0 => 0
  | n + 1 => sm f n + f n
theorem sm_congr {f g : Nat → Nat} : ∀ {n : Nat}, (∀ i, i < n → f i = g i) → sm f n = sm g n
  | 0, _ => rfl
  | n + 1, h => by
    unfold sm
    rw [sm_congr (fun i hi => h i (Nat.lt_succ_of_lt hi)), h n (Nat.lt_succ_self n)]
theorem sm_upd {f g : Nat → Nat} {p : Nat} : ∀ {n : Nat}, p < n → (∀ i, i < n → i ≠ p → f i = g i) → sm g n + f p = sm f n + g p
  | 0, hp, _ => absurd hp (Nat.not_lt_zero p)
  | n + 1, hp, h => by
    unfold sm
    rcases Nat.lt_succ_iff_lt_or_eq.mp hp with h1 | h1
    · have := sm_upd h1 (fun i hi hne => h i (Nat.lt_succ_of_lt hi) hne)
      have := h n (Nat.lt_succ_self n) (by omega)
      omega
    · subst h1
      have := sm_congr (f := f) (g := g) (n := p) (fun i hi => h i (Nat.lt_succ_of_lt hi) (by omega))
      omega
theorem sm_le {f : Nat → Nat} {b : Nat} : ∀ {n : Nat}, (∀ i, i < n → f i ≤ b) → sm f n ≤ b * n
  | 0, _ => Nat.le_refl _
  | n + 1, h => by
    unfold sm
    have h1 := sm_le (f := f) (b := b) (n := n) (fun i hi => h i (Nat.lt_succ_of_lt hi))
    have h2 := h n (Nat.lt_succ_self n)
    rw [Nat.mul_succ]
    omega
theorem sm_lt {f : Nat → Nat} {p n : Nat} (hp : p < n) (h0 : f p = 0) (h : ∀ i, i < n → f i ≤ 1) : sm f n + 1 ≤ n := by
  have h1 := sm_upd (f := f) (g := fun i => if i = p then 1 else f i) hp (fun i _ hne => by simp [hne])
  have h2 := sm_le (f := fun i => if i = p then 1 else f i) (b := 1) (n := n) (fun i hi => by
    by_cases e : i = p
    · simp [e]
    · simp [e]; exact h i hi)
  simp at h1
  omega
