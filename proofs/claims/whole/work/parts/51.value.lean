theorem wb_tb (n : Nat) : (lN n).toBitVec = BitVec.ofNat 64 n := rfl
theorem wb_inj {a b : Int64} (h : a.toBitVec = b.toBitVec) : a = b := Int64.toBitVec_inj.mp h
theorem wb_tn {n : Nat} (h : n < 2 ^ 64) : (lN n).toBitVec.toNat = n := by rw [wb_tb, BitVec.toNat_ofNat, Nat.mod_eq_of_lt h]
theorem wb_of (x : Int64) : ∃ n, n < 2 ^ 64 ∧ x = lN n := ⟨x.toBitVec.toNat, x.toBitVec.isLt, wb_inj (by rw [wb_tb]; simp)⟩
theorem wb_of32 (x : Int32) : ∃ n, n < 2 ^ 32 ∧ x = nI n := ⟨x.toBitVec.toNat, x.toBitVec.isLt, Int32.toBitVec_inj.mp (by show _ = BitVec.ofNat 32 _; simp)⟩
theorem wb_c : ∀ k, k < 64 → ((nI k).toInt64 &&& 63) = lN k := by decide +kernel
theorem wb_cu : ∀ k, k < 64 → ((nI k).toInt64.toUInt64 &&& Int64.toUInt64 63) = UInt64.ofNat k := by decide +kernel
theorem wb_sm : ∀ k, k < 64 → (BitVec.ofNat 64 k).smod 64 = BitVec.ofNat 64 k := by decide +kernel
theorem u_tn {n : Nat} (h : n < 2 ^ 64) : (UInt64.ofNat n).toNat = n := Nat.mod_eq_of_lt h
theorem g_and {a b c : Nat} (ha : a < 2 ^ 64) (hb : b < 2 ^ 64) (hc : a &&& b = c) : lN a &&& lN b = lN c := by
  subst hc
  have h : UInt64.ofNat a &&& UInt64.ofNat b = UInt64.ofNat (a &&& b) := UInt64.toNat_inj.mp (by rw [UInt64.toNat_and, u_tn ha, u_tn hb, u_tn (Nat.and_lt_two_pow a hb)])
  have h2 := congrArg UInt64.toInt64 h
  exact h2
theorem g_and1 {a : Nat} (ha : a < 2 ^ 64) : lN a &&& 1 = lN (a % 2) := g_and (b := 1) ha (by decide) (Nat.and_two_pow_sub_one_eq_mod a 1)
theorem g_mask {a s p : Nat} (hp : 2 ^ s = p) (hs : s < 64) (ha : a < 2 ^ 64) : lN a &&& lN (p - 1) = lN (a % p) := by
  subst hp
  have := Nat.pow_lt_pow_right (show 1 < 2 by decide) hs
  exact g_and ha (by omega) (Nat.and_two_pow_sub_one_eq_mod a s)
theorem g_or {k p a b : Nat} (hp : 2 ^ k = p) (ha : a < p) (h : b * p + a < 2 ^ 64) : lN (b * p) ||| lN a = lN (b * p + a) := by
  subst hp
  have h1 : b * 2 ^ k ||| a = b * 2 ^ k + a := by rw [← Nat.shiftLeft_eq, Nat.shiftLeft_add_eq_or_of_lt ha]
  have h3 : UInt64.ofNat (b * 2 ^ k) ||| UInt64.ofNat a = UInt64.ofNat (b * 2 ^ k + a) := UInt64.toNat_inj.mp (by rw [UInt64.toNat_or, u_tn (by omega), u_tn (by omega), u_tn h, h1])
  have h2 := congrArg UInt64.toInt64 h3
  exact h2
theorem g_or' {k p a b : Nat} (hp : 2 ^ k = p) (ha : a < p) (h : a + b * p < 2 ^ 64) : lN a ||| lN (b * p) = lN (a + b * p) := by
  rw [Int64.or_comm, g_or hp ha (by omega), Nat.add_comm]
theorem g_ushr {a k p : Nat} {y : UInt64} (hy : y = UInt64.ofNat k) (hk : k < 64) (hp : 2 ^ k = p) (ha : a < 2 ^ 64) : ((lN a).toUInt64 >>> y).toInt64 = lN (a / p) := by
  subst hy hp
  have h : UInt64.ofNat a >>> UInt64.ofNat k = UInt64.ofNat (a / 2 ^ k) := UInt64.toNat_inj.mp (by rw [UInt64.toNat_shiftRight, u_tn ha, u_tn (by omega), u_tn (Nat.lt_of_le_of_lt (Nat.div_le_self _ _) ha), Nat.mod_eq_of_lt hk, Nat.shiftRight_eq_div_pow])
  have h2 := congrArg UInt64.toInt64 h
  exact h2
theorem g_shl {a k p : Nat} {y : Int64} (hy : y.toBitVec.smod 64 = BitVec.ofNat 64 k) (hk : k < 64) (hp : 2 ^ k = p) (ha : a < 2 ^ 64) : lN a <<< y = lN (a * p) := by
  subst hp
  apply Int64.toBitVec_inj.mp
  rw [Int64.toBitVec_shiftLeft, hy]
  apply BitVec.eq_of_toNat_eq
  have hb : (lN a).toBitVec.toNat = a := Nat.mod_eq_of_lt ha
  have hk' : (BitVec.ofNat 64 k).toNat = k := Nat.mod_eq_of_lt (by omega)
  have h : ((lN a).toBitVec <<< BitVec.ofNat 64 k).toNat = (a * 2 ^ k) % 2 ^ 64 := by simp only [BitVec.shiftLeft_eq', BitVec.toNat_shiftLeft, hb, hk', Nat.shiftLeft_eq]
  exact h
/-! ===== lN to 2^62 under >> and >>> ===== -/
/-! the values of the class as numbers -/
def uv (v : Int32) : Nat := v.toBitVec.toNat
theorem uv_lt (v : Int32) : uv v < 4294967296 := v.toBitVec.isLt
theorem uv_nI (v : Int32) : nI (uv v) = v := Int32.toBitVec_inj.mp (by show BitVec.ofNat 32 _ = _; unfold uv; simp)
theorem uv_of {n : Nat} (h : n < 4294967296) : uv (nI n) = n := pk_tn h
theorem uv_inj {a b : Int32} (h : uv a = uv b) : a = b := by rw [← uv_nI a, ← uv_nI b, h]
theorem nI_mod (k n : Nat) : nI (k * 4294967296 + n) = nI n := by
  apply Int32.toBitVec_inj.mp
  apply BitVec.eq_of_toNat_eq
  show (BitVec.ofNat 32 _).toNat = (BitVec.ofNat 32 _).toNat
  rw [BitVec.toNat_ofNat, BitVec.toNat_ofNat]
  omega
theorem low32 (v : Int32) : v.toInt64 &&& 4294967295 = lN (uv v) := by
  obtain ⟨n, hn, e⟩ := wb_of v.toInt64
  have h1 : nI n = v := by
    have h2 : v.toInt64.toInt32 = v := by simp
    rw [e, lN_i] at h2
    exact h2
  rw [e, show (4294967295 : Int64) = lN (4294967296 - 1) from by decide, g_mask (s := 32) (by decide) (by decide) hn]
  congr 1
  rw [← h1]
  show _ = (BitVec.ofNat 32 n).toNat
  rw [BitVec.toNat_ofNat]
def encN (v : Int32) : Int64 := lN (1 * 1099511627776 + uv v)
def encR (r : Nat) : Int64 := lN (2 * 1099511627776 + r)
def encF (c a : Nat) : Int64 := lN ((768 + a) * 4294967296 + c)
theorem ev_ofNumber (v : Int32) : (1099511627776 ||| (v.toInt64 &&& 4294967295)) = encN v := by
  rw [low32, show (1099511627776 : Int64) = lN (1 * 1099511627776) from by decide]
  exact g_or (k := 40) (by decide) (by have := uv_lt v; omega) (by have := uv_lt v; omega)
theorem ev_ofRow {r : Nat} (h : r < 4294967296) : (2199023255552 ||| ((nI r).toInt64 &&& 4294967295)) = encR r := by
  rw [low32, uv_of h, show (2199023255552 : Int64) = lN (2 * 1099511627776) from by decide]
  exact g_or (k := 40) (by decide) (by omega) (by omega)
theorem ev_ofFault {c a : Nat} (hc : c < 4294967296) (ha : a < 256) : ((3298534883328 ||| ((nI a).toInt64 <<< ((32 : Int32).toInt64 &&& 63))) ||| ((nI c).toInt64 &&& 4294967295)) = encF c a := by
  rw [low32, uv_of hc, nI_l (by omega), g_shl (k := 32) (p := 4294967296) (by decide) (by decide) (by decide) (by omega), show (3298534883328 : Int64) = lN (3 * 1099511627776) from by decide, g_or (k := 40) (by decide) (by omega) (by omega), show 3 * 1099511627776 + a * 4294967296 = (768 + a) * 4294967296 by omega]
  exact g_or (k := 32) (by decide) hc (by omega)
theorem sort_lN {n : Nat} (h : n < 18446744073709551616) : (((lN n).toUInt64 >>> ((40 : Int32).toInt64.toUInt64 &&& Int64.toUInt64 63)).toInt64).toInt32 = nI (n / 1099511627776) := by
  rw [g_ushr (k := 40) (p := 1099511627776) (by decide) (by decide) (by decide) h, lN_i]
theorem act_lN {n : Nat} (h : n < 18446744073709551616) : (((lN n).toUInt64 >>> ((32 : Int32).toInt64.toUInt64 &&& Int64.toUInt64 63)).toInt64).toInt32 = nI (n / 4294967296) := by
  rw [g_ushr (k := 32) (p := 4294967296) (by decide) (by decide) (by decide) h, lN_i]
def jsort (x : Int64) : Int32 := ((x.toUInt64 >>> ((40 : Int32).toInt64.toUInt64 &&& Int64.toUInt64 63)).toInt64).toInt32
theorem jsort_N (v : Int32) : jsort (encN v) = 1 := by
  have := uv_lt v
  unfold jsort encN
  rw [sort_lN (by omega), show (1 * 1099511627776 + uv v) / 1099511627776 = 1 by omega]
  rfl
theorem jsort_R {r : Nat} (h : r < 4294967296) : jsort (encR r) = 2 := by
  unfold jsort encR
  rw [sort_lN (by omega), show (2 * 1099511627776 + r) / 1099511627776 = 2 by omega]
  rfl
theorem jsort_F {c a : Nat} (hc : c < 4294967296) (ha : a < 256) : jsort (encF c a) = 3 := by
  unfold jsort encF
  rw [sort_lN (by omega), show ((768 + a) * 4294967296 + c) / 1099511627776 = 3 by omega]
  rfl
theorem jsort_0 : jsort 0 = 0 := by decide
theorem jcon_N (v : Int32) : (encN v).toInt32 = v := by
  unfold encN
  rw [lN_i, show 1 * 1099511627776 + uv v = 256 * 4294967296 + uv v by omega, nI_mod, uv_nI]
theorem jcon_R (r : Nat) : (encR r).toInt32 = nI r := by
  unfold encR
  rw [lN_i, show 2 * 1099511627776 + r = 512 * 4294967296 + r by omega, nI_mod]
theorem jcon_F (c a : Nat) : (encF c a).toInt32 = nI c := by
  unfold encF
  rw [lN_i, nI_mod]
theorem jact_F {c a : Nat} (hc : c < 4294967296) (ha : a < 256) : ((((encF c a).toUInt64 >>> ((32 : Int32).toInt64.toUInt64 &&& Int64.toUInt64 63)).toInt64).toInt32) &&& 255 = nI a := by
  unfold encF
  rw [act_lN (by omega), show ((768 + a) * 4294967296 + c) / 4294967296 = 768 + a by omega, pk_andN (k := 8) (by omega) (by decide), show (768 + a) % 2 ^ 8 = a by omega]
/-- a value of the class, and its three numbers in the reference -/
def vr (nR : Nat) (x : Int64) (k v of : Int32) : Prop := (k = 1 ∧ x = encN v) ∨ (k = 2 ∧ ∃ r, r < nR ∧ v = nI r ∧ x = encR r) ∨ (k = 3 ∧ ∃ c a, c < 6 ∧ 1 ≤ c ∧ a < 80 ∧ v = nI c ∧ of = nI a ∧ x = encF c a)
theorem vr.mono {nR nR2 : Nat} {x : Int64} {k v of : Int32} (h : vr nR x k v of) (hle : nR ≤ nR2) : vr nR2 x k v of := by
  rcases h with h | ⟨h, r, h1, h2⟩ | h
  · exact Or.inl h
  · exact Or.inr (Or.inl ⟨h, r, by omega, h2⟩)
  · exact Or.inr (Or.inr h)
theorem vr.sort {nR : Nat} {x : Int64} {k v of : Int32} (h : vr nR x k v of) (hR : nR ≤ 300) : jsort x = k := by
  rcases h with ⟨rfl, rfl⟩ | ⟨rfl, r, h1, -, rfl⟩ | ⟨rfl, c, a, h1, -, h2, -, -, rfl⟩
  · exact jsort_N v
  · exact jsort_R (by omega)
  · exact jsort_F (by omega) (by omega)
theorem vr.con {nR : Nat} {x : Int64} {k v of : Int32} (h : vr nR x k v of) : x.toInt32 = v := by
  rcases h with ⟨rfl, rfl⟩ | ⟨rfl, r, h1, rfl, rfl⟩ | ⟨rfl, c, a, h1, -, h2, rfl, -, rfl⟩
  · exact jcon_N v
  · exact jcon_R r
  · exact jcon_F c a
theorem vr.ne0 {nR : Nat} {x : Int64} {k v of : Int32} (h : vr nR x k v of) (hR : nR ≤ 300) : ¬ x = 0 := by
  intro e
  have h1 := h.sort hR
  rw [e, jsort_0] at h1
  rcases h with ⟨rfl, -⟩ | ⟨rfl, -⟩ | ⟨rfl, -⟩ <;> exact absurd h1 (by decide)
theorem vr.kpos {nR : Nat} {x : Int64} {k v of : Int32} (h : vr nR x k v of) : 0 < k ∧ ¬ k = 0 := by
  rcases h with ⟨rfl, -⟩ | ⟨rfl, -⟩ | ⟨rfl, -⟩ <;> decide
theorem lgc0 (x y : Int64) : lg_cmp x y = 0 ↔ x = y := by
  unfold lg_cmp
  by_cases h1 : x > y
  · rw [if_pos h1]
    constructor
    · intro h; exact absurd h (by decide)
    · intro h; subst h; exact absurd h1 (Int64.lt_irrefl)
  · rw [if_neg h1]
    by_cases h2 : x = y
    · rw [if_pos h2]; exact ⟨fun _ => h2, fun _ => rfl⟩
    · rw [if_neg h2]; exact ⟨fun h => absurd h (by decide), fun h => absurd h h2⟩
