set_option maxHeartbeats 4000000 in
set_option maxRecDepth 100000 in
/-- Arrays.fill of one row -/
theorem c_fillI (l : Launch) (D : va_G) (cI : ClassId) (a n : Nat) (hn : n < 2 ^ 31) (f : Nat → Int32) (v : Int32) (sz : Nat) : Met l yJ7_fill_53178 wU_J7_fill_53178 { frames := 0, cells := 0, slots := 0, locals := 0 } (va_Pc [.ref a, .int v] (fun U => U.heap.size = sz ∧ va_P D vwCl [(a, .inl (cI, n, .inl f))] U.heap ∧ va_K D vwCl [(cI, .int)] U)) (va_Qv (fun g : Nat → Int32 => g = jfill f n v) (fun g t => va_P D vwCl [(a, .inl (cI, n, .inl g))] t.heap) (AW (fun _ => a) 1 sz)) 0 0 (AW (fun _ => a) 1 sz) := by
  refine Met.ofW (cc := cJ7_fill_53178) (maxL := 4) (ret := none) (by decide) rfl ?_
  intro p e s m args below meth c s₁ B hml hv
  obtain ⟨rfl, hsz, hP, hK⟩ := hv
  have hx := B.exec
  have hb := B.bytes
  have hr := B.returns
  have hlocks := B.notSynchronized
  subst hsz
  have hDs : ∀ g : Nat → Int32, va_D (AW (fun _ => a) 1 s.heap.size) [(a, .inl (cI, n, .inl g))] := fun g => va_D_of (fun i j hi hj _ => by omega) rfl
  have hS : va_S (AW (fun _ => a) 1 s.heap.size) s.heap s.heap [] := va_S.rf
  have loop : ∀ (k i : Nat) (H : Heap) (locs : List Loc) (ls : Array Slot), i ≤ n → n + 1 ≤ i + k → va_P D vwCl [(a, .inl (cI, n, .inl (jfill f i v)))] H → va_S (AW (fun _ => a) 1 s.heap.size) s.heap H locs → lv_has ls 4 [(2, .int (nI i)), (3, .int (nI n)), (0, .ref a), (1, .int v)] → W p l e (headSpec wU_J7_fill_53178 { frames := 0, cells := 0, slots := 0, locals := 0 }).room s m ([.ref a, .int v] : List Value).toArray below meth c H locs 0 0 (MQ below (va_Qv (fun g : Nat → Int32 => g = jfill f n v) (fun g t => va_P D vwCl [(a, .inl (cI, n, .inl g))] t.heap) (AW (fun _ => a) 1 s.heap.size)) ([.ref a, .int v] : List Value).toArray s 0 0 (AW (fun _ => a) 1 s.heap.size)) (F0 m 5 ls []) := by
    intro k
    induction k with
    | zero => intro i H locs ls h1 h2; exact absurd h2 (by omega)
    | succ k ih =>
      intro i H locs ls h1 h2 hP hS hl
      refine lv_iload_n hx hb dJ7_fill_53178_5 rfl (lv_at hl 0 rfl) ?_
      refine lv_iload_n hx hb dJ7_fill_53178_6 rfl (lv_at hl 1 rfl) ?_
      refine lv_icmp_ge (tgt := 20) hx hb dJ7_fill_53178_7 (by decide) (fun c1 => ?_) (fun c1 => ?_)
      · have hi : i = n := Nat.le_antisymm h1 ((nI_leI (by omega) (by omega)).mp c1)
        subst hi
        exact W.vret hx hb hr (fun t ht hW => ⟨⟨jfill f i v, rfl, rfl, by show va_P D vwCl _ t.heap; rw [ht]; exact hP⟩, hS.F ht⟩) hS.2.2 dJ7_fill_53178_20 hlocks
      · have hi : i < n := Nat.lt_of_not_le (fun q => c1 ((nI_leI (by omega) (by omega)).mpr q))
        have hin : vp_in (nI i) n := vp_in_nI hi hn
        refine lv_aload_n hx hb dJ7_fill_53178_10 rfl (lv_at hl 2 rfl) ?_
        refine lv_iload_n hx hb dJ7_fill_53178_11 rfl (lv_at hl 0 rfl) ?_
        refine lv_iload_n hx hb dJ7_fill_53178_12 rfl (lv_at hl 3 rfl) ?_
        refine va_iast hx hb hK hP (hDs _) hS 0 0 rfl rfl hin dJ7_fill_53178_13 (fun H locs hP _ hS => ?_)
        have e1 : upd (jfill f i v) (nI i).toNatClampNeg v = jfill f (i + 1) v := by
          rw [nI_clamp (by omega)]
          funext j
          by_cases q : j = i
          · subst q
            simp [upd, jfill]
          · by_cases q2 : j < i
            · simp [upd, jfill, q, q2, Nat.lt_succ_of_lt q2]
            · have q3 : ¬ j < i + 1 := by omega
              simp [upd, jfill, q, q2, q3]
        have hP : va_P D vwCl [(a, .inl (cI, n, .inl (jfill f (i + 1) v)))] H := by rw [← e1]; exact hP
        refine lv_iinc (v := nI (i + 1)) (lv' := [(2, .int (nI (i + 1))), (3, .int (nI n)), (0, .ref a), (1, .int v)]) hx hb dJ7_fill_53178_14 hl (k := 0) rfl (nI_1 i) (by decide) rfl (fun ls hl => ?_)
        refine lv_goto (tgt := 5) hx hb dJ7_fill_53178_17 (by decide) ?_
        exact ih (i + 1) H locs ls hi (by omega) hP hS hl
  have hl := lv_entry ([.ref a, .int v]) (n := 4) (Nat.le_of_ble_eq_true rfl)
  rw [lg_entry_eq]
  generalize (lg_sl ([.ref a, .int v]) ++ List.replicate (4 - (lg_sl ([.ref a, .int v])).length) Slot.unset).toArray = ls at hl ⊢
  have hl : lv_has ls 4 [(0, .ref a), (1, .int v)] := hl
  refine lv_iconst (v := 0) hx hb dJ7_fill_53178_0 (by decide) ?_
  refine lv_istore_n (lv' := [(2, .int 0), (0, .ref a), (1, .int v)]) hx hb dJ7_fill_53178_1 rfl hl (by decide) rfl (fun ls hl => ?_)
  refine lv_aload_n hx hb dJ7_fill_53178_2 rfl (lv_at hl 1 rfl) ?_
  refine va_alen (v := nI n) hx hb hK hP 0 0 rfl rfl rfl dJ7_fill_53178_3 ?_
  refine lv_istore_n (lv' := [(3, .int (nI n)), (2, .int 0), (0, .ref a), (1, .int v)]) hx hb dJ7_fill_53178_4 rfl hl (by decide) rfl (fun ls hl => ?_)
  have e0 : f = jfill f 0 v := by funext j; simp [jfill]
  exact loop (n + 1) 0 _ _ ls (Nat.zero_le n) (by omega) (by rw [← e0]; exact hP) hS (lv_sub hl [1, 0, 2, 3] rfl)
section FILLI
variable {p : Program} {l : Launch} {e : Env} {R : Room} {s : State} {m : MethodId} {args : Array Value} {below : List Frame} {meth : Method} {c : Code} {H : Heap} {locs : List Loc} {cells slots : Nat} {Q : State → Prop}
variable {cc : ByteArray} {nL index pc : Nat} {Ts : List Cond} {own : String} {rest st : List Value} {ls : Array Slot} {D : va_G} {A : Nat → Prop} {ws : va_W}
theorem fillI {cI : ClassId} {tys : List (ClassId × FieldType)} {a n : Nat} {f : Nat → Int32} {v : Int32} {bytes : ByteArray} {maxL : Nat} {ret : Option FieldType} (F : CallFix p m c cc nL s args Ts own) (hK : va_K D vwCl ((cI, .int) :: tys) s) (hP : va_P D vwCl ws H) (hD : va_D A ws) (hS : va_S A s.heap H locs) (q0 : Nat) (he : ws[q0]? = some (a, .inl (cI, n, .inl f))) (hn : n < 2 ^ 31)
    (cw : CallB R s args own index yJ7_fill_53178 bytes maxL ret wU_J7_fill_53178 { frames := 0, cells := 0, slots := 0, locals := 0 } 0 0 2 ∧ (Cond.static yJ7_fill_53178).before args s = true) (hsize : ls.size = nL) (hst : st = .int v :: .ref a :: rest) (hW : (rest.map fun v => v.category).sum ≤ 8) (hdg : decode cc pc = .ok (.invokestatic index, 3)) (hf : cells ≤ R.cells ∧ slots ≤ R.slots) (hA : ∀ q, s.heap.size ≤ q → A q)
    (kk : ∀ (H1 : Heap) (locs1 : List Loc), va_P D vwCl (ws.set q0 (a, .inl (cI, n, .inl (jfill f n v)))) H1 → va_S A s.heap H1 locs1 → W p l e R s m args below meth c H1 locs1 cells slots Q (F0 m (pc + 3) ls rest)) : W p l e R s m args below meth c H locs cells slots Q (F0 m pc ls st) := by
  have hA1 : ∀ q, AW (fun _ => a) 1 H.size q → A q := by
    intro q h
    rcases h with ⟨k, _, rfl⟩ | h
    · exact hD.2 q0 _ he
    · exact hA q (Nat.le_trans hS.1 h)
  have hP0 : va_P D vwCl [(a, .inl (cI, n, .inl f))] H := by
    intro k q hk
    have hz : k < 1 := (List.getElem?_eq_some_iff.mp hk).1
    have : k = 0 := by omega
    subst this
    cases hk
    exact hP q0 _ he
  have hK0 : va_K D vwCl [(cI, .int)] s := hK.sub [0] rfl
  refine va_callv (va_runS (As := [.ref a, .int v]) (rest := rest) F (c_fillI l D cI a n hn f v H.size) cw ⟨?_, fun U hU hW => ⟨rfl, by rw [hU], by rw [hU]; exact hP0, va_K.moved hW.alike hK0⟩⟩ rfl rfl hsize hst (lv_room hW) hdg hf) hS (fun q _ h => hA1 q h) hA1 (fun u t H1 locs1 ht _ hw hB hz hk hS1 => ?_)
  · intro b U g mk q
    obtain ⟨q0, q1, qP, qK⟩ := q
    exact ⟨q0, q1, qP, va_K.moved (u := U) (U := U.calling g mk b) (Vm.Alike.refl U.vm) qK⟩
  · subst hw
    rw [ht] at hB
    have hB0 := hB 0 _ rfl
    refine kk H1 locs1 (fun k q hq => ?_) hS1
    by_cases hkq : k = q0
    · subst hkq
      have hlt : k < ws.length := (List.getElem?_eq_some_iff.mp he).1
      rw [List.getElem?_set_self hlt] at hq
      cases hq
      exact hB0
    · rw [List.getElem?_set_ne (fun z => hkq z.symm)] at hq
      refine (hP k q hq).kept (hk q.1 (hP k q hq).lt (fun h => ?_))
      rcases h with ⟨z, _, h⟩ | h
      · exact hkq (hD.1 k q0 q _ hq he h)
      · exact absurd (hP k q hq).lt (Nat.not_lt.mpr h)
end FILLI
set_option maxHeartbeats 4000000 in
set_option maxRecDepth 100000 in
/-- Arrays.fill of one row -/
theorem c_fillL (l : Launch) (D : va_G) (cJ : ClassId) (a n : Nat) (hn : n < 2 ^ 31) (f : Nat → Int64) (v : Int64) (sz : Nat) : Met l yJ7_fill_d0a16 wU_J7_fill_d0a16 { frames := 0, cells := 0, slots := 0, locals := 0 } (va_Pc [.ref a, .long v] (fun U => U.heap.size = sz ∧ va_P D vwCl [(a, .inl (cJ, n, .inr (.inl f)))] U.heap ∧ va_K D vwCl [(cJ, .long)] U)) (va_Qv (fun g : Nat → Int64 => g = jfill f n v) (fun g t => va_P D vwCl [(a, .inl (cJ, n, .inr (.inl g)))] t.heap) (AW (fun _ => a) 1 sz)) 0 0 (AW (fun _ => a) 1 sz) := by
  refine Met.ofW (cc := cJ7_fill_d0a16) (maxL := 5) (ret := none) (by decide) rfl ?_
  intro p e s m args below meth c s₁ B hml hv
  obtain ⟨rfl, hsz, hP, hK⟩ := hv
  have hx := B.exec
  have hb := B.bytes
  have hr := B.returns
  have hlocks := B.notSynchronized
  subst hsz
  have hDs : ∀ g : Nat → Int64, va_D (AW (fun _ => a) 1 s.heap.size) [(a, .inl (cJ, n, .inr (.inl g)))] := fun g => va_D_of (fun i j hi hj _ => by omega) rfl
  have hS : va_S (AW (fun _ => a) 1 s.heap.size) s.heap s.heap [] := va_S.rf
  have loop : ∀ (k i : Nat) (H : Heap) (locs : List Loc) (ls : Array Slot), i ≤ n → n + 1 ≤ i + k → va_P D vwCl [(a, .inl (cJ, n, .inr (.inl (jfill f i v))))] H → va_S (AW (fun _ => a) 1 s.heap.size) s.heap H locs → lv_has ls 5 [(3, .int (nI i)), (4, .int (nI n)), (0, .ref a), (1, .long v)] → W p l e (headSpec wU_J7_fill_d0a16 { frames := 0, cells := 0, slots := 0, locals := 0 }).room s m ([.ref a, .long v] : List Value).toArray below meth c H locs 0 0 (MQ below (va_Qv (fun g : Nat → Int64 => g = jfill f n v) (fun g t => va_P D vwCl [(a, .inl (cJ, n, .inr (.inl g)))] t.heap) (AW (fun _ => a) 1 s.heap.size)) ([.ref a, .long v] : List Value).toArray s 0 0 (AW (fun _ => a) 1 s.heap.size)) (F0 m 6 ls []) := by
    intro k
    induction k with
    | zero => intro i H locs ls h1 h2; exact absurd h2 (by omega)
    | succ k ih =>
      intro i H locs ls h1 h2 hP hS hl
      refine lv_iload_n hx hb dJ7_fill_d0a16_6 rfl (lv_at hl 0 rfl) ?_
      refine lv_iload hx hb dJ7_fill_d0a16_7 (lv_at hl 1 rfl) ?_
      refine lv_icmp_ge (tgt := 22) hx hb dJ7_fill_d0a16_9 (by decide) (fun c1 => ?_) (fun c1 => ?_)
      · have hi : i = n := Nat.le_antisymm h1 ((nI_leI (by omega) (by omega)).mp c1)
        subst hi
        exact W.vret hx hb hr (fun t ht hW => ⟨⟨jfill f i v, rfl, rfl, by show va_P D vwCl _ t.heap; rw [ht]; exact hP⟩, hS.F ht⟩) hS.2.2 dJ7_fill_d0a16_22 hlocks
      · have hi : i < n := Nat.lt_of_not_le (fun q => c1 ((nI_leI (by omega) (by omega)).mpr q))
        have hin : vp_in (nI i) n := vp_in_nI hi hn
        refine lv_aload_n hx hb dJ7_fill_d0a16_12 rfl (lv_at hl 2 rfl) ?_
        refine lv_iload_n hx hb dJ7_fill_d0a16_13 rfl (lv_at hl 0 rfl) ?_
        refine lv_lload_n hx hb dJ7_fill_d0a16_14 rfl (lv_at hl 3 rfl) ?_
        refine va_last hx hb hK hP (hDs _) hS 0 0 rfl rfl hin dJ7_fill_d0a16_15 (fun H locs hP _ hS => ?_)
        have e1 : vp_updL (jfill f i v) (nI i).toNatClampNeg v = jfill f (i + 1) v := by
          rw [nI_clamp (by omega)]
          funext j
          by_cases q : j = i
          · subst q
            simp [vp_updL, jfill]
          · by_cases q2 : j < i
            · simp [vp_updL, jfill, q, q2, Nat.lt_succ_of_lt q2]
            · have q3 : ¬ j < i + 1 := by omega
              simp [vp_updL, jfill, q, q2, q3]
        have hP : va_P D vwCl [(a, .inl (cJ, n, .inr (.inl (jfill f (i + 1) v))))] H := by rw [← e1]; exact hP
        refine lv_iinc (v := nI (i + 1)) (lv' := [(3, .int (nI (i + 1))), (4, .int (nI n)), (0, .ref a), (1, .long v)]) hx hb dJ7_fill_d0a16_16 hl (k := 0) rfl (nI_1 i) (by decide) rfl (fun ls hl => ?_)
        refine lv_goto (tgt := 6) hx hb dJ7_fill_d0a16_19 (by decide) ?_
        exact ih (i + 1) H locs ls hi (by omega) hP hS hl
  have hl := lv_entry ([.ref a, .long v]) (n := 5) (Nat.le_of_ble_eq_true rfl)
  rw [lg_entry_eq]
  generalize (lg_sl ([.ref a, .long v]) ++ List.replicate (5 - (lg_sl ([.ref a, .long v])).length) Slot.unset).toArray = ls at hl ⊢
  have hl : lv_has ls 5 [(0, .ref a), (1, .long v)] := hl
  refine lv_iconst (v := 0) hx hb dJ7_fill_d0a16_0 (by decide) ?_
  refine lv_istore_n (lv' := [(3, .int 0), (0, .ref a), (1, .long v)]) hx hb dJ7_fill_d0a16_1 rfl hl (by decide) rfl (fun ls hl => ?_)
  refine lv_aload_n hx hb dJ7_fill_d0a16_2 rfl (lv_at hl 1 rfl) ?_
  refine va_alen (v := nI n) hx hb hK hP 0 0 rfl rfl rfl dJ7_fill_d0a16_3 ?_
  refine lv_istore (lv' := [(4, .int (nI n)), (3, .int 0), (0, .ref a), (1, .long v)]) hx hb dJ7_fill_d0a16_4 hl (by decide) rfl (fun ls hl => ?_)
  have e0 : f = jfill f 0 v := by funext j; simp [jfill]
  exact loop (n + 1) 0 _ _ ls (Nat.zero_le n) (by omega) (by rw [← e0]; exact hP) hS (lv_sub hl [1, 0, 2, 3] rfl)
section FILLL
variable {p : Program} {l : Launch} {e : Env} {R : Room} {s : State} {m : MethodId} {args : Array Value} {below : List Frame} {meth : Method} {c : Code} {H : Heap} {locs : List Loc} {cells slots : Nat} {Q : State → Prop}
variable {cc : ByteArray} {nL index pc : Nat} {Ts : List Cond} {own : String} {rest st : List Value} {ls : Array Slot} {D : va_G} {A : Nat → Prop} {ws : va_W}
theorem fillL {cJ : ClassId} {t0 : ClassId × FieldType} {tys : List (ClassId × FieldType)} {a n : Nat} {f : Nat → Int64} {v : Int64} {bytes : ByteArray} {maxL : Nat} {ret : Option FieldType} (F : CallFix p m c cc nL s args Ts own) (hK : va_K D vwCl (t0 :: (cJ, .long) :: tys) s) (hP : va_P D vwCl ws H) (hD : va_D A ws) (hS : va_S A s.heap H locs) (q0 : Nat) (he : ws[q0]? = some (a, .inl (cJ, n, .inr (.inl f)))) (hn : n < 2 ^ 31)
    (cw : CallB R s args own index yJ7_fill_d0a16 bytes maxL ret wU_J7_fill_d0a16 { frames := 0, cells := 0, slots := 0, locals := 0 } 0 0 2 ∧ (Cond.static yJ7_fill_d0a16).before args s = true) (hsize : ls.size = nL) (hst : st = .long v :: .ref a :: rest) (hW : (rest.map fun v => v.category).sum ≤ 8) (hdg : decode cc pc = .ok (.invokestatic index, 3)) (hf : cells ≤ R.cells ∧ slots ≤ R.slots) (hA : ∀ q, s.heap.size ≤ q → A q)
    (kk : ∀ (H1 : Heap) (locs1 : List Loc), va_P D vwCl (ws.set q0 (a, .inl (cJ, n, .inr (.inl (jfill f n v))))) H1 → va_S A s.heap H1 locs1 → W p l e R s m args below meth c H1 locs1 cells slots Q (F0 m (pc + 3) ls rest)) : W p l e R s m args below meth c H locs cells slots Q (F0 m pc ls st) := by
  have hA1 : ∀ q, AW (fun _ => a) 1 H.size q → A q := by
    intro q h
    rcases h with ⟨k, _, rfl⟩ | h
    · exact hD.2 q0 _ he
    · exact hA q (Nat.le_trans hS.1 h)
  have hP0 : va_P D vwCl [(a, .inl (cJ, n, .inr (.inl f)))] H := by
    intro k q hk
    have hz : k < 1 := (List.getElem?_eq_some_iff.mp hk).1
    have : k = 0 := by omega
    subst this
    cases hk
    exact hP q0 _ he
  have hK0 : va_K D vwCl [(cJ, .long)] s := hK.sub [1] rfl
  refine va_callv (va_runS (As := [.ref a, .long v]) (rest := rest) F (c_fillL l D cJ a n hn f v H.size) cw ⟨?_, fun U hU hW => ⟨rfl, by rw [hU], by rw [hU]; exact hP0, va_K.moved hW.alike hK0⟩⟩ rfl rfl hsize hst (lv_room hW) hdg hf) hS (fun q _ h => hA1 q h) hA1 (fun u t H1 locs1 ht _ hw hB hz hk hS1 => ?_)
  · intro b U g mk q
    obtain ⟨q0, q1, qP, qK⟩ := q
    exact ⟨q0, q1, qP, va_K.moved (u := U) (U := U.calling g mk b) (Vm.Alike.refl U.vm) qK⟩
  · subst hw
    rw [ht] at hB
    have hB0 := hB 0 _ rfl
    refine kk H1 locs1 (fun k q hq => ?_) hS1
    by_cases hkq : k = q0
    · subst hkq
      have hlt : k < ws.length := (List.getElem?_eq_some_iff.mp he).1
      rw [List.getElem?_set_self hlt] at hq
      cases hq
      exact hB0
    · rw [List.getElem?_set_ne (fun z => hkq z.symm)] at hq
      refine (hP k q hq).kept (hk q.1 (hP k q hq).lt (fun h => ?_))
      rcases h with ⟨z, _, h⟩ | h
      · exact hkq (hD.1 k q0 q _ hq he h)
      · exact absurd (hP k q hq).lt (Nat.not_lt.mpr h)
end FILLL
