/-! ===== notes of a run, on both sides ===== -/
theorem i64_inj {a b : Int32} (h : a.toInt64 = b.toInt64) : a = b := by
  have h1 : a.toInt64.toInt32 = a := by simp
  have h2 : b.toInt64.toInt32 = b := by simp
  rw [← h1, ← h2, h]
/-- what is compared of a value -/
def cvl (σ : St) (x : Int64) : Int64 := if jsort x = 2 then (2199023255552 ||| ((gA σ 15 (x.toInt32).toNatClampNeg).toInt64 &&& 4294967295)) else x
def tv (τ : St) (k v : Int32) : Int32 := if k = 0 then -1 else if k = 2 then gA τ 26 v.toNatClampNeg else v
def tof (k of : Int32) : Int32 := if k = 3 then of else -1
def cvr (c : Int64) (k t o : Int32) : Prop := (k = 0 ∧ c = 0 ∧ t = -1 ∧ o = -1) ∨ (k = 1 ∧ c = encN t ∧ o = -1) ∨ (k = 2 ∧ o = -1 ∧ ∃ z, z ≤ 200 ∧ t = nI z ∧ c = encR z) ∨ (k = 3 ∧ ∃ e a, e < 6 ∧ a < 80 ∧ t = nI e ∧ o = nI a ∧ c = encF e a)
theorem cvr_of {nR nCe : Nat} {σ τ : St} {x : Int64} {k v of : Int32} (hS : RS nR nCe σ τ) (hv : (x = 0 ∧ k = 0) ∨ vr nR x k v of) : cvr (cvl σ x) k (tv τ k v) (tof k of) := by
  have hR3 := hS.1
  rcases hv with ⟨rfl, rfl⟩ | hv
  · left
    refine ⟨rfl, ?_, rfl, rfl⟩
    unfold cvl
    rw [jsort_0, if_neg (by decide)]
  · have hs := hv.sort hR3
    unfold cvl
    rw [hs]
    rcases id hv with ⟨rfl, hx⟩ | ⟨rfl, r, hr, hrv, hrx⟩ | ⟨rfl, c, a, h6, h1, h80, hv2, hof, hx⟩
    · right; left
      rw [if_neg (by decide)]
      exact ⟨rfl, hx, rfl⟩
    · right; right; left
      obtain ⟨-, s, z, q1, q2, q3, q4, q5, q6⟩ := hS.2.2.2.2.2.2.1 r hr
      refine ⟨rfl, rfl, z, q5, ?_, ?_⟩
      · unfold tv
        rw [if_neg (by decide), if_pos rfl, hrv, nI_clamp (show r < 2 ^ 31 by omega), q4]
      · rw [if_pos rfl, hv.con, hrv, nI_clamp (show r < 2 ^ 31 by omega), q3, ev_ofRow (by omega)]
    · right; right; right
      rw [if_neg (by decide)]
      exact ⟨rfl, c, a, h6, h80, hv2, hof, hx⟩
theorem cvr_sort {c : Int64} {k t o : Int32} (h : cvr c k t o) : jsort c = k := by
  rcases h with ⟨rfl, rfl, -⟩ | ⟨rfl, rfl, -⟩ | ⟨rfl, -, z, hz, -, rfl⟩ | ⟨rfl, e, a, h6, h80, -, -, rfl⟩
  · exact jsort_0
  · exact jsort_N t
  · exact jsort_R (by omega)
  · exact jsort_F (by omega) (by omega)
theorem cvr_iff {c c2 : Int64} {k t o k2 t2 o2 : Int32} (h : cvr c k t o) (h2 : cvr c2 k2 t2 o2) : c = c2 ↔ (k = k2 ∧ t = t2 ∧ o = o2) := by
  have s1 := cvr_sort h
  have s2 := cvr_sort h2
  constructor
  · intro e
    have ek : k = k2 := by rw [← s1, ← s2, e]
    subst ek
    subst e
    rcases h with ⟨rfl, e1, e2, e3⟩ | ⟨rfl, e1, e2⟩ | ⟨rfl, e1, z, hz, e2, e3⟩ | ⟨rfl, e, a, h6, h80, e1, e2, e3⟩
    · rcases h2 with ⟨_, f1, f2, f3⟩ | ⟨f, -⟩ | ⟨f, -⟩ | ⟨f, -⟩
      · exact ⟨rfl, by rw [e2, f2], by rw [e3, f3]⟩
      all_goals exact absurd f (by decide)
    · rcases h2 with ⟨f, -⟩ | ⟨_, f1, f2⟩ | ⟨f, -⟩ | ⟨f, -⟩
      · exact absurd f (by decide)
      · exact ⟨rfl, by rw [← jcon_N t, ← jcon_N t2, ← e1, ← f1], by rw [e2, f2]⟩
      all_goals exact absurd f (by decide)
    · rcases h2 with ⟨f, -⟩ | ⟨f, -⟩ | ⟨_, f1, z', hz', f2, f3⟩ | ⟨f, -⟩
      · exact absurd f (by decide)
      · exact absurd f (by decide)
      · exact ⟨rfl, by rw [e2, f2, ← jcon_R z, ← jcon_R z', ← e3, ← f3], by rw [e1, f1]⟩
      · exact absurd f (by decide)
    · rcases h2 with ⟨f, -⟩ | ⟨f, -⟩ | ⟨f, -⟩ | ⟨_, e', a', h6', h80', f1, f2, f3⟩
      · exact absurd f (by decide)
      · exact absurd f (by decide)
      · exact absurd f (by decide)
      · refine ⟨rfl, by rw [e1, f1, ← jcon_F e a, ← jcon_F e' a', ← e3, ← f3], ?_⟩
        rw [e2, f2, ← jact_F (c := e) (a := a) (by omega) (by omega), ← jact_F (c := e') (a := a') (by omega) (by omega), ← e3, ← f3]
  · rintro ⟨rfl, rfl, rfl⟩
    rcases h with ⟨rfl, e1, e2, e3⟩ | ⟨rfl, e1, e2⟩ | ⟨rfl, e1, z, hz, e2, e3⟩ | ⟨rfl, e, a, h6, h80, e1, e2, e3⟩
    · rcases h2 with ⟨_, f1, f2, f3⟩ | ⟨f, -⟩ | ⟨f, -⟩ | ⟨f, -⟩
      · rw [e1, f1]
      all_goals exact absurd f (by decide)
    · rcases h2 with ⟨f, -⟩ | ⟨_, f1, f2⟩ | ⟨f, -⟩ | ⟨f, -⟩
      · exact absurd f (by decide)
      · rw [e1, f1]
      all_goals exact absurd f (by decide)
    · rcases h2 with ⟨f, -⟩ | ⟨f, -⟩ | ⟨_, f1, z', hz', f2, f3⟩ | ⟨f, -⟩
      · exact absurd f (by decide)
      · exact absurd f (by decide)
      · have : z = z' := nI_inj (by omega) (by omega) (e2.symm.trans f2)
        rw [e3, f3, this]
      · exact absurd f (by decide)
    · rcases h2 with ⟨f, -⟩ | ⟨f, -⟩ | ⟨f, -⟩ | ⟨_, e', a', h6', h80', f1, f2, f3⟩
      · exact absurd f (by decide)
      · exact absurd f (by decide)
      · exact absurd f (by decide)
      · have h1 : e = e' := nI_inj (by omega) (by omega) (e1.symm.trans f1)
        have h2 : a = a' := nI_inj (by omega) (by omega) (e2.symm.trans f2)
        rw [e3, f3, h1, h2]
theorem ev_cmp {nR nCe : Nat} {σ τ : St} {x : Int64} {k v of : Int32} {K : Int64 → St → Prop} (hS : RS nR nCe σ τ) (hv : (x = 0 ∧ k = 0) ∨ vr nR x k v of) (hk : K (cvl σ x) σ) : w_X4_comparable σ x K := by
  have hR3 := hS.1
  unfold w_X4_comparable w_X8_sortOf
  show (jsort x = 2 → _) ∧ (¬ jsort x = 2 → _)
  unfold cvl at hk
  by_cases e : jsort x = 2
  · rw [if_pos e] at hk
    refine jbr e ?_
    rcases hv with ⟨rfl, -⟩ | hv
    · rw [jsort_0] at e; exact absurd e (by decide)
    · have ek : k = 2 := by rw [← hv.sort hR3]; exact e
      rcases id hv with ⟨z, -⟩ | ⟨-, r, hr, hrv, hrx⟩ | ⟨z, -⟩
      · rw [ek] at z; exact absurd z (by decide)
      · obtain ⟨-, s, z, q1, q2, q3, q4, q5, q6⟩ := hS.2.2.2.2.2.2.1 r hr
        unfold w_X8_contentOf
        rw [hv.con, hrv] at hk ⊢
        rw [nI_clamp (show r < 2 ^ 31 by omega), q3] at hk
        exact ev_sizeOf hS hr q3 hk
      · rw [ek] at z; exact absurd z (by decide)
  · rw [if_neg e] at hk
    exact jbf e hk
def tl (τ : St) (e j : Nat) : Int32 := if j = 0 then gA τ 34 e else if j = 1 then tv τ (gA τ 34 e) (gA τ 35 e) else tof (gA τ 34 e) (gA τ 36 e)
theorem ev_end {nR nCe e j : Nat} {σ τ : St} {K : Int32 → St → Prop} (hS : RS nR nCe σ τ) (hE : RE nR σ τ) (h3 : gS τ 3 = 1) (he : e < 10) (hj : j < 3) (hk : K (tl τ e j) τ) : w_X10_end τ (nI e) (nI j) K := by
  have hR3 := hS.1
  have hei : vp_in (nI e) 10 := vp_in_nI he (by decide)
  unfold w_X10_end
  rw [nI_clamp (show e < 2 ^ 31 by omega)]
  refine jbf (by rw [h3]; decide) (ev_in_ok (nI_pos (by omega)) (nI_nlt (a := 9) (by omega) (by decide)) (jbf (by decide) (ev_in_ok (nI_pos (by omega)) (nI_nlt (a := 2) (by omega) (by decide)) (jbf (by decide) ⟨hei, hei, hei, ?_⟩))))
  unfold w_X10_told1
  unfold tl tv tof at hk
  rcases (show j = 0 ∨ j = 1 ∨ j = 2 by omega) with rfl | rfl | rfl
  · exact jbm rfl hk
  · refine jbn (by decide) (jbm rfl ?_)
    rw [if_neg (by decide), if_pos rfl] at hk
    by_cases e0 : gA τ 34 e = 0
    · rw [if_pos e0] at hk
      exact jbm e0 hk
    · rw [if_neg e0] at hk
      refine jbn e0 ?_
      by_cases e2 : gA τ 34 e = 2
      · rw [if_pos e2] at hk
        refine jbm e2 ⟨?_, hk⟩
        rcases hE e he with ⟨-, h⟩ | h
        · exact absurd h e0
        · rcases h with ⟨z, -⟩ | ⟨-, r, hr, hrv, -⟩ | ⟨z, -⟩
          · rw [e2] at z; exact absurd z (by decide)
          · rw [hrv]; exact vp_in_nI (by omega) (by decide)
          · rw [e2] at z; exact absurd z (by decide)
      · rw [if_neg e2] at hk
        exact jbn e2 hk
  · refine jbn (by decide) (jbn (by decide) ?_)
    rw [if_neg (by decide), if_neg (by decide)] at hk
    by_cases e3 : gA τ 34 e = 3
    · rw [if_pos e3] at hk
      exact jbm e3 hk
    · rw [if_neg e3] at hk
      exact jbn e3 hk
