/-! ===== plain results ===== -/
def jsw (K : Int32 → St → Prop) (σ : St) (x1 x2 x3 x4 x5 x6 : Int32) : Prop :=
  (((x2 = 2) → (w_X10_number σ x1 (x5 + x6) (fun (r_3 : Int32) (u_2 : St) => K r_3 u_2))) ∧ (¬ (x2 = 2) → (((x2 = 3) → (w_X10_number σ x1 (x5 - x6) (fun (r_6 : Int32) (u_5 : St) => K r_6 u_5))) ∧ (¬ (x2 = 3) → (((x2 = 4) → (w_X10_number σ x1 (x5 * x6) (fun (r_9 : Int32) (u_8 : St) => K r_9 u_8))) ∧ (¬ (x2 = 4) → (((x2 = 5) → ((¬ x6 = 0 → (¬ x6 = 0 ∧ (w_X10_number σ x1 (x5 / x6) (fun (r_12 : Int32) (u_11 : St) => K r_12 u_11)))) ∧ (x6 = 0 → (w_X10_faults σ x3 x4 1 (fun (r_15 : Int32) (u_14 : St) => K r_15 u_14))))) ∧ (¬ (x2 = 5) → (((x2 = 6) → ((¬ x6 = 0 → (¬ x6 = 0 ∧ (w_X10_number σ x1 (x5 - x5 / x6 * x6) (fun (r_19 : Int32) (u_18 : St) => K r_19 u_18)))) ∧ (x6 = 0 → (w_X10_faults σ x3 x4 1 (fun (r_22 : Int32) (u_21 : St) => K r_22 u_21))))) ∧ (¬ (x2 = 6) → (((x2 = 7) → ((x6 ≤ x5 → (w_X10_number σ x1 0 (fun (r_26 : Int32) (u_25 : St) => K r_26 u_25))) ∧ (¬ x6 ≤ x5 → (w_X10_number σ x1 1 (fun (r_28 : Int32) (u_27 : St) => K r_28 u_27))))) ∧ (¬ (x2 = 7) → (((x2 = 9) → ((¬ x5 = 0 → (w_X10_number σ x1 0 (fun (r_32 : Int32) (u_31 : St) => K r_32 u_31))) ∧ (x5 = 0 → (w_X10_number σ x1 1 (fun (r_34 : Int32) (u_33 : St) => K r_34 u_33))))) ∧ (¬ (x2 = 9) → (w_X10_makes σ x1 x5 (fun (r_37 : Int32) (u_36 : St) => K r_37 u_36))))))))))))))))

theorem lp_reck {τ : St} {p a q : Nat} {kk cc x y : Int32} {K : Int32 → St → Prop} (hp : p < 3000) (ha : a < 80) (h2 : gA τ 2 a = nI q) (hq3 : q ≤ 3) (hall : ∀ j, j < q → gA τ 19 (3 * p + j) = 1) (hsw : jsw K τ (nI p) kk (nI a) cc x y) : ∀ (d i n : Nat), i + d = q → d < n → w_X10_reckons_82 K n τ (nI p) kk (nI a) cc x y (nI i) := by
  intro d
  induction d with
  | zero =>
    intro i n h1 hn
    obtain ⟨n, rfl⟩ : ∃ z, n = z + 1 := ⟨n - 1, by omega⟩
    show b_X10_reckons_82 (w_X10_reckons_82 K n) K τ (nI p) kk (nI a) cc x y (nI i)
    unfold b_X10_reckons_82
    rw [nI_clamp (show a < 2 ^ 31 by omega), h2]
    exact ⟨vp_in_nI ha (by decide), jbr (nI_le (by omega) (by omega)) hsw⟩
  | succ d ih =>
    intro i n h1 hn
    obtain ⟨n, rfl⟩ : ∃ z, n = z + 1 := ⟨n - 1, by omega⟩
    show b_X10_reckons_82 (w_X10_reckons_82 K n) K τ (nI p) kk (nI a) cc x y (nI i)
    unfold b_X10_reckons_82
    rw [nI_clamp (show a < 2 ^ 31 by omega), h2, nI_1]
    refine ⟨vp_in_nI ha (by decide), jbf (nI_ge (by omega) (by omega)) ?_⟩
    exact ev_kindAt (j := i) hp (by omega) (jbr (hall i (by omega)) (ih (i + 1) n (by omega) (by omega)))
theorem lp_reck_bad {τ : St} {p a q j0 : Nat} {kk cc x y : Int32} {K : Int32 → St → Prop} (hp : p < 3000) (ha : a < 80) (h2 : gA τ 2 a = nI q) (hq3 : q ≤ 3) (hj : j0 < q) (hall : ∀ j, j < j0 → gA τ 19 (3 * p + j) = 1) (hbad : ¬ gA τ 19 (3 * p + j0) = 1) (hk : w_X10_faults τ (nI a) cc 4 K) : ∀ (d i n : Nat), i + d = j0 → d < n → w_X10_reckons_82 K n τ (nI p) kk (nI a) cc x y (nI i) := by
  intro d
  induction d with
  | zero =>
    intro i n h1 hn
    obtain ⟨n, rfl⟩ : ∃ z, n = z + 1 := ⟨n - 1, by omega⟩
    have : i = j0 := by omega
    subst this
    show b_X10_reckons_82 (w_X10_reckons_82 K n) K τ (nI p) kk (nI a) cc x y (nI i)
    unfold b_X10_reckons_82
    rw [nI_clamp (show a < 2 ^ 31 by omega), h2]
    refine ⟨vp_in_nI ha (by decide), jbf (nI_ge (by omega) (by omega)) ?_⟩
    exact ev_kindAt (j := i) hp (by omega) (jbf hbad hk)
  | succ d ih =>
    intro i n h1 hn
    obtain ⟨n, rfl⟩ : ∃ z, n = z + 1 := ⟨n - 1, by omega⟩
    show b_X10_reckons_82 (w_X10_reckons_82 K n) K τ (nI p) kk (nI a) cc x y (nI i)
    unfold b_X10_reckons_82
    rw [nI_clamp (show a < 2 ^ 31 by omega), h2, nI_1]
    refine ⟨vp_in_nI ha (by decide), jbf (nI_ge (by omega) (by omega)) ?_⟩
    exact ev_kindAt (j := i) hp (by omega) (jbr (hall i (by omega)) (ih (i + 1) n (by omega) (by omega)))
theorem lp_fault_none {τ : St} {p q : Nat} {K : Int32 → St → Prop} (hp : p < 3000) (hq3 : q ≤ 3) (hall : ∀ j, j < q → ¬ gA τ 19 (3 * p + j) = 3) (hk : K (-1) τ) : ∀ (d i n : Nat), i + d = q → d < n → w_X10_faultOf_2 K n τ (nI p) (nI q) (nI i) := by
  intro d
  induction d with
  | zero =>
    intro i n h1 hn
    obtain ⟨n, rfl⟩ : ∃ z, n = z + 1 := ⟨n - 1, by omega⟩
    show b_X10_faultOf_2 (w_X10_faultOf_2 K n) K τ (nI p) (nI q) (nI i)
    unfold b_X10_faultOf_2
    exact jbr (nI_le (by omega) (by omega)) hk
  | succ d ih =>
    intro i n h1 hn
    obtain ⟨n, rfl⟩ : ∃ z, n = z + 1 := ⟨n - 1, by omega⟩
    show b_X10_faultOf_2 (w_X10_faultOf_2 K n) K τ (nI p) (nI q) (nI i)
    unfold b_X10_faultOf_2
    rw [nI_1]
    refine jbf (nI_ge (by omega) (by omega)) ?_
    exact ev_kindAt (j := i) hp (by omega) (jbn (hall i (by omega)) (ih (i + 1) n (by omega) (by omega)))
theorem lp_fault_at {τ : St} {p q j0 : Nat} {K : Int32 → St → Prop} (hp : p < 3000) (hq3 : q ≤ 3) (hj : j0 < q) (hall : ∀ j, j < j0 → ¬ gA τ 19 (3 * p + j) = 3) (he : gA τ 19 (3 * p + j0) = 3) (hk : K (nI j0) τ) : ∀ (d i n : Nat), i + d = j0 → d < n → w_X10_faultOf_2 K n τ (nI p) (nI q) (nI i) := by
  intro d
  induction d with
  | zero =>
    intro i n h1 hn
    obtain ⟨n, rfl⟩ : ∃ z, n = z + 1 := ⟨n - 1, by omega⟩
    have : i = j0 := by omega
    subst this
    show b_X10_faultOf_2 (w_X10_faultOf_2 K n) K τ (nI p) (nI q) (nI i)
    unfold b_X10_faultOf_2
    refine jbf (nI_ge (by omega) (by omega)) ?_
    exact ev_kindAt (j := i) hp (by omega) (jbm he hk)
  | succ d ih =>
    intro i n h1 hn
    obtain ⟨n, rfl⟩ : ∃ z, n = z + 1 := ⟨n - 1, by omega⟩
    show b_X10_faultOf_2 (w_X10_faultOf_2 K n) K τ (nI p) (nI q) (nI i)
    unfold b_X10_faultOf_2
    rw [nI_1]
    refine jbf (nI_ge (by omega) (by omega)) ?_
    exact ev_kindAt (j := i) hp (by omega) (jbn (hall i (by omega)) (ih (i + 1) n (by omega) (by omega)))
/-- the default road of goesOff: no fault came -/
theorem ev_197_none {τ : St} {p a q : Nat} {c kk t1 : Int32} {K : Int32 → St → Prop} (hp : p < 3000) (hq3 : q ≤ 3) (hall : ∀ j, j < q → ¬ gA τ 19 (3 * p + j) = 3) (hk : (kk ≤ 9 → w_X10_reckons τ (nI p) kk K) ∧ (¬ kk ≤ 9 → ((¬ kk = 17 → w_X10_cells τ (nI p) kk K) ∧ (kk = 17 → w_X10_reckons τ (nI p) kk K)))) : b_X10_goesOff_197 K τ (nI p) (nI a) c kk (nI p) (nI q) := by
  unfold b_X10_goesOff_197 w_X10_faultOf
  exact ⟨q + 1, lp_fault_none hp hq3 hall (jbr (by decide) hk) q 0 (q + 1) (by omega) (by omega)⟩
theorem ev_197_at {τ : St} {p a q j0 : Nat} {c kk : Int32} {K : Int32 → St → Prop} (hp : p < 3000) (hq3 : q ≤ 3) (hj : j0 < q) (hall : ∀ j, j < j0 → ¬ gA τ 19 (3 * p + j) = 3) (he : gA τ 19 (3 * p + j0) = 3) (hk : w_X10_gives τ (nI a) 0 c 3 (gA τ 20 (3 * p + j0)) (gA τ 21 (3 * p + j0)) K) : b_X10_goesOff_197 K τ (nI p) (nI a) c kk (nI p) (nI q) := by
  unfold b_X10_goesOff_197 w_X10_faultOf
  refine ⟨q + 1, lp_fault_at hp hq3 hj hall he ?_ j0 0 (q + 1) (by omega) (by omega)⟩
  have h9 : vp_in (3 * nI p + nI j0) 9000 := by rw [i3]; exact vp_in_nI (by omega) (by decide)
  refine jbf (nI_pos (by omega)) ⟨h9, h9, ?_⟩
  rw [i3, nI_clamp (show 3 * p + j0 < 2 ^ 31 by omega)]
  exact hk
theorem ev_number {τ : St} {p a c : Nat} {v : Int32} {K : Int32 → St → Prop} (hp : p < 3000) (h14 : gA τ 14 p = nI a) (h15 : gA τ 15 p = nI c) (hk : w_X10_gives τ (nI a) 0 (nI c) 1 v (-1) K) : w_X10_number τ (nI p) v K := by
  unfold w_X10_number
  rw [nI_clamp (show p < 2 ^ 31 by omega), h14, h15]
  exact ⟨vp_in_nI hp (by decide), vp_in_nI hp (by decide), hk⟩
/-- refusals of the class -/
theorem ev_refuse_f {nR a : Nat} {σ : St} {x : Int64} {v of so : Int32} {K : Int64 → St → Prop} (h : vr nR x 3 v of) (hR : nR ≤ 300) (hk : K x σ) : w_X8_refuse σ (nI a) x so K := by
  unfold w_X8_refuse w_X8_sortOf
  rw [h.srt hR]
  exact jbm rfl hk
theorem ev_refuse_ok {nR a : Nat} {σ : St} {x : Int64} {k v of : Int32} {K : Int64 → St → Prop} (h : vr nR x k v of) (hR : nR ≤ 300) (h3 : ¬ k = 3) (hk : K 0 σ) : w_X8_refuse σ (nI a) x k K := by
  unfold w_X8_refuse w_X8_sortOf
  rw [h.srt hR]
  exact jbn h3 (jbm rfl hk)
theorem ev_refuse_bad {nR a : Nat} {σ : St} {x : Int64} {k v of so : Int32} {K : Int64 → St → Prop} (h : vr nR x k v of) (hR : nR ≤ 300) (h3 : ¬ k = 3) (hso : ¬ k = so) (ha : a < 80) (hk : K (encF 4 a) σ) : w_X8_refuse σ (nI a) x so K := by
  unfold w_X8_refuse w_X8_sortOf
  rw [h.srt hR]
  refine jbn h3 (jbn hso ?_)
  exact ev_fault (c := 4) (by decide) ha hk
theorem ev_refuse2_f1 {nR a : Nat} {σ : St} {x y : Int64} {v of sx sy : Int32} {K : Int64 → St → Prop} (h : vr nR x 3 v of) (hR : nR ≤ 300) (hk : K x σ) : w_X8_refuseTwo σ (nI a) x sx y sy K := by
  unfold w_X8_refuseTwo w_X8_sortOf
  rw [h.srt hR]
  exact jbm rfl hk
theorem ev_refuse2_f2 {nR a : Nat} {σ : St} {x y : Int64} {k v of v2 of2 sx sy : Int32} {K : Int64 → St → Prop} (h : vr nR x k v of) (h2 : vr nR y 3 v2 of2) (hR : nR ≤ 300) (h3 : ¬ k = 3) (hk : K y σ) : w_X8_refuseTwo σ (nI a) x sx y sy K := by
  unfold w_X8_refuseTwo w_X8_sortOf
  dsimp only
  rw [h.srt hR, h2.srt hR]
  exact jbn h3 (jbm rfl hk)
theorem ev_refuse2_bad {nR a : Nat} {σ : St} {x y : Int64} {k v of k2 v2 of2 sx sy : Int32} {K : Int64 → St → Prop} (h : vr nR x k v of) (h2 : vr nR y k2 v2 of2) (hR : nR ≤ 300) (h3 : ¬ k = 3) (h4 : ¬ k2 = 3) (hs : ¬ (k = sx ∧ k2 = sy)) (ha : a < 80) (hk : K (encF 4 a) σ) : w_X8_refuseTwo σ (nI a) x sx y sy K := by
  unfold w_X8_refuseTwo w_X8_sortOf
  dsimp only
  rw [h.srt hR, h2.srt hR]
  have hb : b_X8_refuseTwo_45 K σ (nI a) 0 := by
    unfold b_X8_refuseTwo_45
    exact jbr rfl (ev_fault (c := 4) (by decide) ha hk)
  refine jbn h3 (jbn h4 ?_)
  by_cases e : k = sx
  · exact jbm e (jbn (fun z => hs ⟨e, z⟩) hb)
  · exact jbn e hb
theorem ev_refuse2_ok {nR a : Nat} {σ : St} {x y : Int64} {k v of k2 v2 of2 : Int32} {K : Int64 → St → Prop} (h : vr nR x k v of) (h2 : vr nR y k2 v2 of2) (hR : nR ≤ 300) (h3 : ¬ k = 3) (h4 : ¬ k2 = 3) (hk : K 0 σ) : w_X8_refuseTwo σ (nI a) x k y k2 K := by
  unfold w_X8_refuseTwo w_X8_sortOf
  dsimp only
  rw [h.srt hR, h2.srt hR]
  refine jbn h3 (jbn h4 (jbm rfl (jbm rfl ?_)))
  unfold b_X8_refuseTwo_45
  exact jbf (by decide) hk
theorem lg00 : lg_cmp 0 0 = 0 := by decide
theorem lgne {x : Int64} (h : ¬ x = 0) : ¬ lg_cmp x 0 = 0 := fun z => h ((lgc0 _ _).mp z)
theorem encF_ne {nR c a : Nat} (hc : c < 6) (h1 : 1 ≤ c) (ha : a < 80) (hR : nR ≤ 300) : ¬ encF c a = 0 := (vr_fault (nR := nR) hc h1 ha).ne0 hR
theorem ev_num {σ : St} {v : Int32} {K : Int64 → St → Prop} (hk : K (encN v) σ) : w_X8_ofNumber σ v K := by
  unfold w_X8_ofNumber
  rw [ev_ofNumber]
  exact hk
theorem ev_truth0 {σ : St} {K : Int64 → St → Prop} (hk : K (encN 0) σ) : w_X8_ofTruth σ 0 K := jbr rfl (ev_num hk)
theorem ev_truth1 {σ : St} {K : Int64 → St → Prop} (hk : K (encN 1) σ) : w_X8_ofTruth σ 1 K := jbf (by decide) (ev_num hk)
