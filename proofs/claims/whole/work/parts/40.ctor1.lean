theorem va_D.same {A : Nat → Prop} {ws ws' : va_W} (h : va_D A ws) (e : ws.map (·.1) = ws'.map (·.1)) : va_D A ws' := by
  have hat : ∀ (k : Nat) (q : Nat × va_E), ws'[k]? = some q → ∃ q', ws[k]? = some q' ∧ q'.1 = q.1 := by
    intro k q hk
    have h1 : (ws'.map (·.1))[k]? = some q.1 := by rw [List.getElem?_map, hk]; rfl
    rw [← e, List.getElem?_map] at h1
    cases hw : ws[k]? with
    | none => rw [hw] at h1; cases h1
    | some z => rw [hw] at h1; exact ⟨z, rfl, Option.some.inj h1⟩
  refine ⟨fun i j p q hi hj hpq => ?_, fun k q hk => ?_⟩
  · obtain ⟨p', h1, e1⟩ := hat i p hi
    obtain ⟨q', h2, e2⟩ := hat j q hj
    exact h.1 i j p' q' h1 h2 (by rw [e1, e2, hpq])
  · obtain ⟨q', h1, e1⟩ := hat k q hk
    rw [← e1]
    exact h.2 k q' h1

section NEWA
variable {p : Program} {l : Launch} {e : Env} {R : Room} {s : State} {m : MethodId} {args : Array Value} {below : List Frame} {meth : Method} {c : Code} {H : Heap} {locs : List Loc} {cells slots : Nat} {Q : State → Prop}
variable {cc : ByteArray} {nL pc : Nat} {Ts : List Cond} {own : String} {rest : List Value} {ls : Array Slot} {D : va_G} {A : Nat → Prop} {ws : va_W} {H0 : Heap}
theorem newI {cI : ClassId} {tys : List (ClassId × FieldType)} (F : CallFix p m c cc nL s args Ts own) (harr : (Cond.arrayClass .int).before args s = true) (hK : va_K D vwCl ((cI, .int) :: tys) s) (hP : va_P D vwCl ws H) (hD : va_D A ws) (hS : va_S A H0 H locs) (hA : ∀ q, H0.size ≤ q → A q)
    {n : Int32} (N : Nat) (hn : ¬ n < 0) (hN : n.toNatClampNeg = N) (hbytes : N * componentBytes .int ≤ 536870912) (hcells : cells + 1 ≤ R.cells) (hslots : slots + N ≤ R.slots) (hdg : decode cc pc = .ok (.newarray .int, 2))
    (kk : ∀ (q : Nat) (H1 : Heap), va_P D vwCl (ws ++ [(q, .inl (cI, N, .inl (fun _ => 0)))]) H1 → va_D A (ws ++ [(q, .inl (cI, N, .inl (fun _ => 0)))]) → va_S A H0 H1 locs → W p l e R s m args below meth c H1 locs (cells + 1) (slots + N) Q (F0 m (pc + 2) ls (.ref q :: rest))) : W p l e R s m args below meth c H locs cells slots Q (F0 m pc ls (.int n :: rest)) := by
  refine va_newa (atype := .int) (ty := .int) (a0 := (N, .inl (fun _ => 0))) F.1 F.2.1 harr rfl hK hP hD hS hA (fun cA => rfl) hn hN hbytes hcells hslots hdg (fun q cA H1 hK1 hP1 hD1 hS1 => ?_)
  have h1 : va_RA s cA .int := (hK1.2 (tys.length + 1) (cA, .int) (by simp)).2
  have h2 : va_RA s cI .int := (hK.2 0 (cI, .int) rfl).2
  have e1 : cA = cI := Option.some.inj (Eq.trans (Eq.symm h1) h2)
  subst e1
  exact kk q H1 hP1 hD1 hS1
theorem newL {t0 : ClassId × FieldType} {cJ : ClassId} {tys : List (ClassId × FieldType)} (F : CallFix p m c cc nL s args Ts own) (harr : (Cond.arrayClass .long).before args s = true) (hK : va_K D vwCl (t0 :: (cJ, .long) :: tys) s) (hP : va_P D vwCl ws H) (hD : va_D A ws) (hS : va_S A H0 H locs) (hA : ∀ q, H0.size ≤ q → A q)
    {n : Int32} (N : Nat) (hn : ¬ n < 0) (hN : n.toNatClampNeg = N) (hbytes : N * componentBytes .long ≤ 536870912) (hcells : cells + 1 ≤ R.cells) (hslots : slots + N ≤ R.slots) (hdg : decode cc pc = .ok (.newarray .long, 2))
    (kk : ∀ (q : Nat) (H1 : Heap), va_P D vwCl (ws ++ [(q, .inl (cJ, N, .inr (.inl (fun _ => 0))))]) H1 → va_D A (ws ++ [(q, .inl (cJ, N, .inr (.inl (fun _ => 0))))]) → va_S A H0 H1 locs → W p l e R s m args below meth c H1 locs (cells + 1) (slots + N) Q (F0 m (pc + 2) ls (.ref q :: rest))) : W p l e R s m args below meth c H locs cells slots Q (F0 m pc ls (.int n :: rest)) := by
  refine va_newa (atype := .long) (ty := .long) (a0 := (N, .inr (.inl (fun _ => 0)))) F.1 F.2.1 harr rfl hK hP hD hS hA (fun cA => rfl) hn hN hbytes hcells hslots hdg (fun q cA H1 hK1 hP1 hD1 hS1 => ?_)
  have h1 : va_RA s cA .long := (hK1.2 (tys.length + 2) (cA, .long) (by simp)).2
  have h2 : va_RA s cJ .long := (hK.2 1 (cJ, .long) rfl).2
  have e1 : cA = cJ := Option.some.inj (Eq.trans (Eq.symm h1) h2)
  subst e1
  exact kk q H1 hP1 hD1 hS1
end NEWA

set_option maxRecDepth 100000 in
theorem dv_X0 : ∀ j, j < 6 → defaultValue (tyX0 j) = vp_V [.int 0, .null, .null, .null, .null, .null] j := by decide +kernel
set_option maxRecDepth 100000 in
theorem dv_X1 : ∀ j, j < 8 → defaultValue (tyX1 j) = vp_V [.int 0, .null, .null, .int 0, .null, .null, .null, .null] j := by decide +kernel
set_option maxRecDepth 100000 in
theorem dv_X2 : ∀ j, j < 15 → defaultValue (tyX2 j) = vp_V [.int 0, .null, .null, .null, .null, .int 0, .null, .null, .null, .null, .null, .int 0, .null, .null, .null] j := by decide +kernel
set_option maxRecDepth 100000 in
theorem dv_X4 : ∀ j, j < 14 → defaultValue (tyX4 j) = vp_V [.null, .null, .null, .null, .null, .null, .null, .int 0, .int 0, .int 0, .int 0, .int 0, .int 0, .int 0] j := by decide +kernel
set_option maxRecDepth 100000 in
theorem dv_X5 : ∀ j, j < 3 → defaultValue (tyX5 j) = vp_V [.null, .int 0, .int 0] j := by decide +kernel
set_option maxRecDepth 100000 in
theorem dv_X6 : ∀ j, j < 10 → defaultValue (tyX6 j) = vp_V [.int 0, .null, .null, .int 0, .int 0, .null, .null, .null, .null, .null] j := by decide +kernel
set_option maxRecDepth 100000 in
theorem dv_X9 : ∀ j, j < 5 → defaultValue (tyX9 j) = vp_V [.null, .null, .null, .null, .int 0] j := by decide +kernel
set_option maxRecDepth 100000 in
theorem dv_X10 : ∀ j, j < 57 → defaultValue (tyX10 j) = vp_V [.null, .null, .null, .null, .null, .null, .null, .null, .null, .null, .int 0, .int 0, .int 0, .int 0, .int 0, .int 0, .int 0, .int 0, .int 0, .int 0, .int 0, .int 0, .null, .null, .null, .null, .int 0, .null, .null, .null, .null, .null, .null, .null, .null, .null, .null, .int 0, .null, .int 0, .null, .null, .null, .null, .null, .null, .null, .int 0, .int 0, .null, .null, .int 0, .null, .null, .null, .null, .null] j := by decide +kernel

abbrev rm_X0_init : Room := { frames := 1, cells := 5, slots := 3000, locals := 12 }
def wP_X0_init (cI cJ : ClassId) (h0 : Nat) (u : Nat → Nat) : va_W := [(h0, .inr (0, [.int 0, .ref (u 1), .ref (u 2), .ref (u 3), .ref (u 4), .ref (u 5)])), ((u 1), .inl (cI, 600, .inl (fun _ => 0))), ((u 2), .inl (cI, 600, .inl (fun _ => 0))), ((u 3), .inl (cI, 600, .inl (fun _ => 0))), ((u 4), .inl (cI, 600, .inl (fun _ => 0))), ((u 5), .inl (cI, 600, .inl (fun _ => 0)))]
set_option maxHeartbeats 4000000 in
set_option maxRecDepth 100000 in
theorem c_X0_init (l : Launch) (D : va_G) (cI cJ : ClassId) (h0 sz : Nat) : Met l yX0_init wU_X0_init rm_X0_init (va_Pc [.ref h0] (fun U => U.heap.size = sz ∧ va_P D vwCl [(h0, .inr (0, [.int 0, .null, .null, .null, .null, .null]))] U.heap ∧ va_K D vwCl [(cI, .int), (cJ, .long)] U ∧ va_D (fun _ => True) [(h0, .inr (0, [.int 0, .null, .null, .null, .null, .null]))])) (va_Qv (fun _ : Nat → Nat => True) (fun u t => va_P D vwCl (wP_X0_init cI cJ h0 u) t.heap ∧ va_D (va_A [(h0, .inr (0, [.int 0, .null, .null, .null, .null, .null]))] sz) (wP_X0_init cI cJ h0 u)) (va_A [(h0, .inr (0, [.int 0, .null, .null, .null, .null, .null]))] sz)) 5 3000 (va_A [(h0, .inr (0, [.int 0, .null, .null, .null, .null, .null]))] sz) := by
  refine Met.ofW (cc := cX0_init) (maxL := 1) (ret := none) (by decide) rfl ?_
  intro p e s m args below meth c s₁ B hml hv
  obtain ⟨rfl, hsz, hP, hK, hD0⟩ := hv
  have F : CallFix p m c cX0_init 1 s ([.ref h0] : List Value).toArray lw_U RX0 := ⟨B.exec, B.bytes, hml, findClass_of_methodNamed B.named, fun w h => atoms_spec (ws := wU_X0_init) B.pre w (List.mem_cons_of_mem _ h)⟩
  have hx := F.1
  have hb := F.2.1
  have hown := F.2.2.2.1
  have hts := F.2.2.2.2
  have hr := B.returns
  have hlocks := B.notSynchronized
  have hin : meth.name = "<init>" := (name_of_methodNamed B.named B.method).1
  subst hsz
  have hD := hD0.self (sz := s.heap.size)
  generalize hAe : va_A [(h0, .inr (0, [.int 0, .null, .null, .null, .null, .null]))] s.heap.size = A at hD ⊢
  have hA : ∀ q : Nat, s.heap.size ≤ q → A q := fun q h => by rw [← hAe]; exact Or.inr h
  have hS : va_S A s.heap s.heap [] := va_S.rf
  have hl := lv_entry ([.ref h0]) (n := 1) (Nat.le_of_ble_eq_true rfl)
  rw [lg_entry_eq]
  generalize (lg_sl ([.ref h0]) ++ List.replicate (1 - (lg_sl ([.ref h0])).length) Slot.unset).toArray = ls at hl ⊢
  have hl : lv_has ls 1 [(0, .ref h0)] := hl
  refine lv_aload_n hx hb dX0_init_0 rfl (lv_at hl 0 rfl) ?_
  refine W.objInit hx hb hown (hts _ mw_615) (hts _ mw_616) (hts _ mw_617) rfl (by rw [hml]; exact hl.1) rfl dX0_init_1 (Nat.le_of_ble_eq_true rfl) (Nat.le_of_ble_eq_true rfl) ?_
  refine W.eq (g2 := F0 m 4 ls []) rfl ?_
  refine lv_aload_n hx hb dX0_init_4 rfl (lv_at hl 0 rfl) ?_
  refine lv_sipush (v := 600) hx hb dX0_init_5 (by decide) ?_
  refine newI F (hts _ mw_618) hK hP hD hS hA 600 (by decide) (by decide) (by decide) (Nat.le_of_ble_eq_true rfl) (Nat.le_of_ble_eq_true rfl) dX0_init_8 (fun q1 H hP hD hS => ?_)
  refine W.widen (k := 1) (n := 600) (Nat.le_refl _) (Nat.le_refl _) ?_
  refine va_putF (D := D) (ci := 0) (v := .ref q1) (ty := .array .int) (C := RX0) (T := TX0) (N := 6) hx hb hts iw_X0 tyX0 tyX0_ok nmX0 hown hK hP hD hS 0 rfl rfl 1 (by decide) (hts _ mw_2) (fun _ h9 => h9) rfl hin rfl (by decide +kernel) rfl rfl (Nat.le_of_ble_eq_true rfl) dX0_init_10 (fun H locs hP hD hS => ?_)
  have hP : va_P D vwCl [(h0, .inr (0, [.int 0, .ref q1, .null, .null, .null, .null])), (q1, .inl (cI, 600, .inl (fun _ => 0)))] H := hP
  have hD : va_D A [(h0, .inr (0, [.int 0, .ref q1, .null, .null, .null, .null])), (q1, .inl (cI, 600, .inl (fun _ => 0)))] := hD
  refine lv_aload_n hx hb dX0_init_13 rfl (lv_at hl 0 rfl) ?_
  refine lv_sipush (v := 600) hx hb dX0_init_14 (by decide) ?_
  refine newI F (hts _ mw_618) hK hP hD hS hA 600 (by decide) (by decide) (by decide) (Nat.le_of_ble_eq_true rfl) (Nat.le_of_ble_eq_true rfl) dX0_init_17 (fun q2 H hP hD hS => ?_)
  refine W.widen (k := 2) (n := 1200) (Nat.le_refl _) (Nat.le_refl _) ?_
  refine va_putF (D := D) (ci := 0) (v := .ref q2) (ty := .array .int) (C := RX0) (T := TX0) (N := 6) hx hb hts iw_X0 tyX0 tyX0_ok nmX0 hown hK hP hD hS 0 rfl rfl 2 (by decide) (hts _ mw_3) (fun _ h9 => h9) rfl hin rfl (by decide +kernel) rfl rfl (Nat.le_of_ble_eq_true rfl) dX0_init_19 (fun H locs hP hD hS => ?_)
  have hP : va_P D vwCl [(h0, .inr (0, [.int 0, .ref q1, .ref q2, .null, .null, .null])), (q1, .inl (cI, 600, .inl (fun _ => 0))), (q2, .inl (cI, 600, .inl (fun _ => 0)))] H := hP
  have hD : va_D A [(h0, .inr (0, [.int 0, .ref q1, .ref q2, .null, .null, .null])), (q1, .inl (cI, 600, .inl (fun _ => 0))), (q2, .inl (cI, 600, .inl (fun _ => 0)))] := hD
  refine lv_aload_n hx hb dX0_init_22 rfl (lv_at hl 0 rfl) ?_
  refine lv_sipush (v := 600) hx hb dX0_init_23 (by decide) ?_
  refine newI F (hts _ mw_618) hK hP hD hS hA 600 (by decide) (by decide) (by decide) (Nat.le_of_ble_eq_true rfl) (Nat.le_of_ble_eq_true rfl) dX0_init_26 (fun q3 H hP hD hS => ?_)
  refine W.widen (k := 3) (n := 1800) (Nat.le_refl _) (Nat.le_refl _) ?_
  refine va_putF (D := D) (ci := 0) (v := .ref q3) (ty := .array .int) (C := RX0) (T := TX0) (N := 6) hx hb hts iw_X0 tyX0 tyX0_ok nmX0 hown hK hP hD hS 0 rfl rfl 3 (by decide) (hts _ mw_1) (fun _ h9 => h9) rfl hin rfl (by decide +kernel) rfl rfl (Nat.le_of_ble_eq_true rfl) dX0_init_28 (fun H locs hP hD hS => ?_)
  have hP : va_P D vwCl [(h0, .inr (0, [.int 0, .ref q1, .ref q2, .ref q3, .null, .null])), (q1, .inl (cI, 600, .inl (fun _ => 0))), (q2, .inl (cI, 600, .inl (fun _ => 0))), (q3, .inl (cI, 600, .inl (fun _ => 0)))] H := hP
  have hD : va_D A [(h0, .inr (0, [.int 0, .ref q1, .ref q2, .ref q3, .null, .null])), (q1, .inl (cI, 600, .inl (fun _ => 0))), (q2, .inl (cI, 600, .inl (fun _ => 0))), (q3, .inl (cI, 600, .inl (fun _ => 0)))] := hD
  refine lv_aload_n hx hb dX0_init_31 rfl (lv_at hl 0 rfl) ?_
  refine lv_sipush (v := 600) hx hb dX0_init_32 (by decide) ?_
  refine newI F (hts _ mw_618) hK hP hD hS hA 600 (by decide) (by decide) (by decide) (Nat.le_of_ble_eq_true rfl) (Nat.le_of_ble_eq_true rfl) dX0_init_35 (fun q4 H hP hD hS => ?_)
  refine W.widen (k := 4) (n := 2400) (Nat.le_refl _) (Nat.le_refl _) ?_
  refine va_putF (D := D) (ci := 0) (v := .ref q4) (ty := .array .int) (C := RX0) (T := TX0) (N := 6) hx hb hts iw_X0 tyX0 tyX0_ok nmX0 hown hK hP hD hS 0 rfl rfl 4 (by decide) (hts _ mw_4) (fun _ h9 => h9) rfl hin rfl (by decide +kernel) rfl rfl (Nat.le_of_ble_eq_true rfl) dX0_init_37 (fun H locs hP hD hS => ?_)
  have hP : va_P D vwCl [(h0, .inr (0, [.int 0, .ref q1, .ref q2, .ref q3, .ref q4, .null])), (q1, .inl (cI, 600, .inl (fun _ => 0))), (q2, .inl (cI, 600, .inl (fun _ => 0))), (q3, .inl (cI, 600, .inl (fun _ => 0))), (q4, .inl (cI, 600, .inl (fun _ => 0)))] H := hP
  have hD : va_D A [(h0, .inr (0, [.int 0, .ref q1, .ref q2, .ref q3, .ref q4, .null])), (q1, .inl (cI, 600, .inl (fun _ => 0))), (q2, .inl (cI, 600, .inl (fun _ => 0))), (q3, .inl (cI, 600, .inl (fun _ => 0))), (q4, .inl (cI, 600, .inl (fun _ => 0)))] := hD
  refine lv_aload_n hx hb dX0_init_40 rfl (lv_at hl 0 rfl) ?_
  refine lv_sipush (v := 600) hx hb dX0_init_41 (by decide) ?_
  refine newI F (hts _ mw_618) hK hP hD hS hA 600 (by decide) (by decide) (by decide) (Nat.le_of_ble_eq_true rfl) (Nat.le_of_ble_eq_true rfl) dX0_init_44 (fun q5 H hP hD hS => ?_)
  refine W.widen (k := 5) (n := 3000) (Nat.le_refl _) (Nat.le_refl _) ?_
  refine va_putF (D := D) (ci := 0) (v := .ref q5) (ty := .array .int) (C := RX0) (T := TX0) (N := 6) hx hb hts iw_X0 tyX0 tyX0_ok nmX0 hown hK hP hD hS 0 rfl rfl 5 (by decide) (hts _ mw_5) (fun _ h9 => h9) rfl hin rfl (by decide +kernel) rfl rfl (Nat.le_of_ble_eq_true rfl) dX0_init_46 (fun H locs hP hD hS => ?_)
  have hP : va_P D vwCl [(h0, .inr (0, [.int 0, .ref q1, .ref q2, .ref q3, .ref q4, .ref q5])), (q1, .inl (cI, 600, .inl (fun _ => 0))), (q2, .inl (cI, 600, .inl (fun _ => 0))), (q3, .inl (cI, 600, .inl (fun _ => 0))), (q4, .inl (cI, 600, .inl (fun _ => 0))), (q5, .inl (cI, 600, .inl (fun _ => 0)))] H := hP
  have hD : va_D A [(h0, .inr (0, [.int 0, .ref q1, .ref q2, .ref q3, .ref q4, .ref q5])), (q1, .inl (cI, 600, .inl (fun _ => 0))), (q2, .inl (cI, 600, .inl (fun _ => 0))), (q3, .inl (cI, 600, .inl (fun _ => 0))), (q4, .inl (cI, 600, .inl (fun _ => 0))), (q5, .inl (cI, 600, .inl (fun _ => 0)))] := hD
  have hP9 : va_P D vwCl (wP_X0_init cI cJ h0 (fun k => [h0, q1, q2, q3, q4, q5].getD k 0)) H := hP
  have hD9 : va_D A (wP_X0_init cI cJ h0 (fun k => [h0, q1, q2, q3, q4, q5].getD k 0)) := hD
  exact W.vret hx hb hr (fun t ht hW => ⟨⟨fun k => [h0, q1, q2, q3, q4, q5].getD k 0, rfl, trivial, by show va_P D vwCl _ t.heap; rw [ht]; exact hP9, hD9⟩, hS.F ht⟩) hS.2.2 dX0_init_49 hlocks

abbrev rm_X1_init : Room := { frames := 1, cells := 6, slots := 21600, locals := 12 }
def wP_X1_init (cI cJ : ClassId) (h0 : Nat) (u : Nat → Nat) : va_W := [(h0, .inr (1, [.int 0, .ref (u 1), .ref (u 2), .int 0, .ref (u 3), .ref (u 4), .ref (u 5), .ref (u 6)])), ((u 1), .inl (cI, 3000, .inl (fun _ => 0))), ((u 2), .inl (cI, 3000, .inl (fun _ => 0))), ((u 3), .inl (cI, 3000, .inl (fun _ => 0))), ((u 4), .inl (cJ, 9000, .inr (.inl (fun _ => 0)))), ((u 5), .inl (cI, 600, .inl (fun _ => 0))), ((u 6), .inl (cI, 3000, .inl (fun _ => 0)))]
set_option maxHeartbeats 4000000 in
set_option maxRecDepth 100000 in
theorem c_X1_init (l : Launch) (D : va_G) (cI cJ : ClassId) (h0 sz : Nat) : Met l yX1_init wU_X1_init rm_X1_init (va_Pc [.ref h0] (fun U => U.heap.size = sz ∧ va_P D vwCl [(h0, .inr (1, [.int 0, .null, .null, .int 0, .null, .null, .null, .null]))] U.heap ∧ va_K D vwCl [(cI, .int), (cJ, .long)] U ∧ va_D (fun _ => True) [(h0, .inr (1, [.int 0, .null, .null, .int 0, .null, .null, .null, .null]))])) (va_Qv (fun _ : Nat → Nat => True) (fun u t => va_P D vwCl (wP_X1_init cI cJ h0 u) t.heap ∧ va_D (va_A [(h0, .inr (1, [.int 0, .null, .null, .int 0, .null, .null, .null, .null]))] sz) (wP_X1_init cI cJ h0 u)) (va_A [(h0, .inr (1, [.int 0, .null, .null, .int 0, .null, .null, .null, .null]))] sz)) 6 21600 (va_A [(h0, .inr (1, [.int 0, .null, .null, .int 0, .null, .null, .null, .null]))] sz) := by
  refine Met.ofW (cc := cX1_init) (maxL := 1) (ret := none) (by decide) rfl ?_
  intro p e s m args below meth c s₁ B hml hv
  obtain ⟨rfl, hsz, hP, hK, hD0⟩ := hv
  have F : CallFix p m c cX1_init 1 s ([.ref h0] : List Value).toArray lw_U RX1 := ⟨B.exec, B.bytes, hml, findClass_of_methodNamed B.named, fun w h => atoms_spec (ws := wU_X1_init) B.pre w (List.mem_cons_of_mem _ h)⟩
  have hx := F.1
  have hb := F.2.1
  have hown := F.2.2.2.1
  have hts := F.2.2.2.2
  have hr := B.returns
  have hlocks := B.notSynchronized
  have hin : meth.name = "<init>" := (name_of_methodNamed B.named B.method).1
  subst hsz
  have hD := hD0.self (sz := s.heap.size)
  generalize hAe : va_A [(h0, .inr (1, [.int 0, .null, .null, .int 0, .null, .null, .null, .null]))] s.heap.size = A at hD ⊢
  have hA : ∀ q : Nat, s.heap.size ≤ q → A q := fun q h => by rw [← hAe]; exact Or.inr h
  have hS : va_S A s.heap s.heap [] := va_S.rf
  have hl := lv_entry ([.ref h0]) (n := 1) (Nat.le_of_ble_eq_true rfl)
  rw [lg_entry_eq]
  generalize (lg_sl ([.ref h0]) ++ List.replicate (1 - (lg_sl ([.ref h0])).length) Slot.unset).toArray = ls at hl ⊢
  have hl : lv_has ls 1 [(0, .ref h0)] := hl
  refine lv_aload_n hx hb dX1_init_0 rfl (lv_at hl 0 rfl) ?_
  refine W.objInit hx hb hown (hts _ mw_619) (hts _ mw_616) (hts _ mw_617) rfl (by rw [hml]; exact hl.1) rfl dX1_init_1 (Nat.le_of_ble_eq_true rfl) (Nat.le_of_ble_eq_true rfl) ?_
  refine W.eq (g2 := F0 m 4 ls []) rfl ?_
  refine lv_aload_n hx hb dX1_init_4 rfl (lv_at hl 0 rfl) ?_
  refine lv_sipush (v := 3000) hx hb dX1_init_5 (by decide) ?_
  refine newI F (hts _ mw_618) hK hP hD hS hA 3000 (by decide) (by decide) (by decide) (Nat.le_of_ble_eq_true rfl) (Nat.le_of_ble_eq_true rfl) dX1_init_8 (fun q1 H hP hD hS => ?_)
  refine W.widen (k := 1) (n := 3000) (Nat.le_refl _) (Nat.le_refl _) ?_
  refine va_putF (D := D) (ci := 1) (v := .ref q1) (ty := .array .int) (C := RX1) (T := TX1) (N := 8) hx hb hts iw_X1 tyX1 tyX1_ok nmX1 hown hK hP hD hS 0 rfl rfl 1 (by decide) (hts _ mw_22) (fun _ h9 => h9) rfl hin rfl (by decide +kernel) rfl rfl (Nat.le_of_ble_eq_true rfl) dX1_init_10 (fun H locs hP hD hS => ?_)
  have hP : va_P D vwCl [(h0, .inr (1, [.int 0, .ref q1, .null, .int 0, .null, .null, .null, .null])), (q1, .inl (cI, 3000, .inl (fun _ => 0)))] H := hP
  have hD : va_D A [(h0, .inr (1, [.int 0, .ref q1, .null, .int 0, .null, .null, .null, .null])), (q1, .inl (cI, 3000, .inl (fun _ => 0)))] := hD
  refine lv_aload_n hx hb dX1_init_13 rfl (lv_at hl 0 rfl) ?_
  refine lv_sipush (v := 3000) hx hb dX1_init_14 (by decide) ?_
  refine newI F (hts _ mw_618) hK hP hD hS hA 3000 (by decide) (by decide) (by decide) (Nat.le_of_ble_eq_true rfl) (Nat.le_of_ble_eq_true rfl) dX1_init_17 (fun q2 H hP hD hS => ?_)
  refine W.widen (k := 2) (n := 6000) (Nat.le_refl _) (Nat.le_refl _) ?_
  refine va_putF (D := D) (ci := 1) (v := .ref q2) (ty := .array .int) (C := RX1) (T := TX1) (N := 8) hx hb hts iw_X1 tyX1 tyX1_ok nmX1 hown hK hP hD hS 0 rfl rfl 2 (by decide) (hts _ mw_24) (fun _ h9 => h9) rfl hin rfl (by decide +kernel) rfl rfl (Nat.le_of_ble_eq_true rfl) dX1_init_19 (fun H locs hP hD hS => ?_)
  have hP : va_P D vwCl [(h0, .inr (1, [.int 0, .ref q1, .ref q2, .int 0, .null, .null, .null, .null])), (q1, .inl (cI, 3000, .inl (fun _ => 0))), (q2, .inl (cI, 3000, .inl (fun _ => 0)))] H := hP
  have hD : va_D A [(h0, .inr (1, [.int 0, .ref q1, .ref q2, .int 0, .null, .null, .null, .null])), (q1, .inl (cI, 3000, .inl (fun _ => 0))), (q2, .inl (cI, 3000, .inl (fun _ => 0)))] := hD
  refine lv_aload_n hx hb dX1_init_22 rfl (lv_at hl 0 rfl) ?_
  refine lv_sipush (v := 3000) hx hb dX1_init_23 (by decide) ?_
  refine newI F (hts _ mw_618) hK hP hD hS hA 3000 (by decide) (by decide) (by decide) (Nat.le_of_ble_eq_true rfl) (Nat.le_of_ble_eq_true rfl) dX1_init_26 (fun q3 H hP hD hS => ?_)
  refine W.widen (k := 3) (n := 9000) (Nat.le_refl _) (Nat.le_refl _) ?_
  refine va_putF (D := D) (ci := 1) (v := .ref q3) (ty := .array .int) (C := RX1) (T := TX1) (N := 8) hx hb hts iw_X1 tyX1 tyX1_ok nmX1 hown hK hP hD hS 0 rfl rfl 4 (by decide) (hts _ mw_25) (fun _ h9 => h9) rfl hin rfl (by decide +kernel) rfl rfl (Nat.le_of_ble_eq_true rfl) dX1_init_28 (fun H locs hP hD hS => ?_)
  have hP : va_P D vwCl [(h0, .inr (1, [.int 0, .ref q1, .ref q2, .int 0, .ref q3, .null, .null, .null])), (q1, .inl (cI, 3000, .inl (fun _ => 0))), (q2, .inl (cI, 3000, .inl (fun _ => 0))), (q3, .inl (cI, 3000, .inl (fun _ => 0)))] H := hP
  have hD : va_D A [(h0, .inr (1, [.int 0, .ref q1, .ref q2, .int 0, .ref q3, .null, .null, .null])), (q1, .inl (cI, 3000, .inl (fun _ => 0))), (q2, .inl (cI, 3000, .inl (fun _ => 0))), (q3, .inl (cI, 3000, .inl (fun _ => 0)))] := hD
  refine lv_aload_n hx hb dX1_init_31 rfl (lv_at hl 0 rfl) ?_
  refine lv_sipush (v := 9000) hx hb dX1_init_32 (by decide) ?_
  refine newL F (hts _ mw_620) hK hP hD hS hA 9000 (by decide) (by decide) (by decide) (Nat.le_of_ble_eq_true rfl) (Nat.le_of_ble_eq_true rfl) dX1_init_35 (fun q4 H hP hD hS => ?_)
  refine W.widen (k := 4) (n := 18000) (Nat.le_refl _) (Nat.le_refl _) ?_
  refine va_putF (D := D) (ci := 1) (v := .ref q4) (ty := .array .long) (C := RX1) (T := TX1) (N := 8) hx hb hts iw_X1 tyX1 tyX1_ok nmX1 hown hK hP hD hS 0 rfl rfl 5 (by decide) (hts _ mw_26) (fun _ h9 => h9) rfl hin rfl (by decide +kernel) rfl rfl (Nat.le_of_ble_eq_true rfl) dX1_init_37 (fun H locs hP hD hS => ?_)
  have hP : va_P D vwCl [(h0, .inr (1, [.int 0, .ref q1, .ref q2, .int 0, .ref q3, .ref q4, .null, .null])), (q1, .inl (cI, 3000, .inl (fun _ => 0))), (q2, .inl (cI, 3000, .inl (fun _ => 0))), (q3, .inl (cI, 3000, .inl (fun _ => 0))), (q4, .inl (cJ, 9000, .inr (.inl (fun _ => 0))))] H := hP
  have hD : va_D A [(h0, .inr (1, [.int 0, .ref q1, .ref q2, .int 0, .ref q3, .ref q4, .null, .null])), (q1, .inl (cI, 3000, .inl (fun _ => 0))), (q2, .inl (cI, 3000, .inl (fun _ => 0))), (q3, .inl (cI, 3000, .inl (fun _ => 0))), (q4, .inl (cJ, 9000, .inr (.inl (fun _ => 0))))] := hD
  refine lv_aload_n hx hb dX1_init_40 rfl (lv_at hl 0 rfl) ?_
  refine lv_sipush (v := 600) hx hb dX1_init_41 (by decide) ?_
  refine newI F (hts _ mw_618) hK hP hD hS hA 600 (by decide) (by decide) (by decide) (Nat.le_of_ble_eq_true rfl) (Nat.le_of_ble_eq_true rfl) dX1_init_44 (fun q5 H hP hD hS => ?_)
  refine W.widen (k := 5) (n := 18600) (Nat.le_refl _) (Nat.le_refl _) ?_
  refine va_putF (D := D) (ci := 1) (v := .ref q5) (ty := .array .int) (C := RX1) (T := TX1) (N := 8) hx hb hts iw_X1 tyX1 tyX1_ok nmX1 hown hK hP hD hS 0 rfl rfl 6 (by decide) (hts _ mw_17) (fun _ h9 => h9) rfl hin rfl (by decide +kernel) rfl rfl (Nat.le_of_ble_eq_true rfl) dX1_init_46 (fun H locs hP hD hS => ?_)
  have hP : va_P D vwCl [(h0, .inr (1, [.int 0, .ref q1, .ref q2, .int 0, .ref q3, .ref q4, .ref q5, .null])), (q1, .inl (cI, 3000, .inl (fun _ => 0))), (q2, .inl (cI, 3000, .inl (fun _ => 0))), (q3, .inl (cI, 3000, .inl (fun _ => 0))), (q4, .inl (cJ, 9000, .inr (.inl (fun _ => 0)))), (q5, .inl (cI, 600, .inl (fun _ => 0)))] H := hP
  have hD : va_D A [(h0, .inr (1, [.int 0, .ref q1, .ref q2, .int 0, .ref q3, .ref q4, .ref q5, .null])), (q1, .inl (cI, 3000, .inl (fun _ => 0))), (q2, .inl (cI, 3000, .inl (fun _ => 0))), (q3, .inl (cI, 3000, .inl (fun _ => 0))), (q4, .inl (cJ, 9000, .inr (.inl (fun _ => 0)))), (q5, .inl (cI, 600, .inl (fun _ => 0)))] := hD
  refine lv_aload_n hx hb dX1_init_49 rfl (lv_at hl 0 rfl) ?_
  refine lv_sipush (v := 3000) hx hb dX1_init_50 (by decide) ?_
  refine newI F (hts _ mw_618) hK hP hD hS hA 3000 (by decide) (by decide) (by decide) (Nat.le_of_ble_eq_true rfl) (Nat.le_of_ble_eq_true rfl) dX1_init_53 (fun q6 H hP hD hS => ?_)
  refine W.widen (k := 6) (n := 21600) (Nat.le_refl _) (Nat.le_refl _) ?_
  refine va_putF (D := D) (ci := 1) (v := .ref q6) (ty := .array .int) (C := RX1) (T := TX1) (N := 8) hx hb hts iw_X1 tyX1 tyX1_ok nmX1 hown hK hP hD hS 0 rfl rfl 7 (by decide) (hts _ mw_23) (fun _ h9 => h9) rfl hin rfl (by decide +kernel) rfl rfl (Nat.le_of_ble_eq_true rfl) dX1_init_55 (fun H locs hP hD hS => ?_)
  have hP : va_P D vwCl [(h0, .inr (1, [.int 0, .ref q1, .ref q2, .int 0, .ref q3, .ref q4, .ref q5, .ref q6])), (q1, .inl (cI, 3000, .inl (fun _ => 0))), (q2, .inl (cI, 3000, .inl (fun _ => 0))), (q3, .inl (cI, 3000, .inl (fun _ => 0))), (q4, .inl (cJ, 9000, .inr (.inl (fun _ => 0)))), (q5, .inl (cI, 600, .inl (fun _ => 0))), (q6, .inl (cI, 3000, .inl (fun _ => 0)))] H := hP
  have hD : va_D A [(h0, .inr (1, [.int 0, .ref q1, .ref q2, .int 0, .ref q3, .ref q4, .ref q5, .ref q6])), (q1, .inl (cI, 3000, .inl (fun _ => 0))), (q2, .inl (cI, 3000, .inl (fun _ => 0))), (q3, .inl (cI, 3000, .inl (fun _ => 0))), (q4, .inl (cJ, 9000, .inr (.inl (fun _ => 0)))), (q5, .inl (cI, 600, .inl (fun _ => 0))), (q6, .inl (cI, 3000, .inl (fun _ => 0)))] := hD
  have hP9 : va_P D vwCl (wP_X1_init cI cJ h0 (fun k => [h0, q1, q2, q3, q4, q5, q6].getD k 0)) H := hP
  have hD9 : va_D A (wP_X1_init cI cJ h0 (fun k => [h0, q1, q2, q3, q4, q5, q6].getD k 0)) := hD
  exact W.vret hx hb hr (fun t ht hW => ⟨⟨fun k => [h0, q1, q2, q3, q4, q5, q6].getD k 0, rfl, trivial, by show va_P D vwCl _ t.heap; rw [ht]; exact hP9, hD9⟩, hS.F ht⟩) hS.2.2 dX1_init_58 hlocks

abbrev rm_X5_init : Room := { frames := 1, cells := 1, slots := 3000, locals := 12 }
def wP_X5_init (cI cJ : ClassId) (h0 : Nat) (u : Nat → Nat) : va_W := [(h0, .inr (4, [.ref (u 1), .int 0, .int 0])), ((u 1), .inl (cI, 3000, .inl (fun _ => 0)))]
set_option maxHeartbeats 4000000 in
set_option maxRecDepth 100000 in
theorem c_X5_init (l : Launch) (D : va_G) (cI cJ : ClassId) (h0 sz : Nat) : Met l yX5_init wU_X5_init rm_X5_init (va_Pc [.ref h0] (fun U => U.heap.size = sz ∧ va_P D vwCl [(h0, .inr (4, [.null, .int 0, .int 0]))] U.heap ∧ va_K D vwCl [(cI, .int), (cJ, .long)] U ∧ va_D (fun _ => True) [(h0, .inr (4, [.null, .int 0, .int 0]))])) (va_Qv (fun _ : Nat → Nat => True) (fun u t => va_P D vwCl (wP_X5_init cI cJ h0 u) t.heap ∧ va_D (va_A [(h0, .inr (4, [.null, .int 0, .int 0]))] sz) (wP_X5_init cI cJ h0 u)) (va_A [(h0, .inr (4, [.null, .int 0, .int 0]))] sz)) 1 3000 (va_A [(h0, .inr (4, [.null, .int 0, .int 0]))] sz) := by
  refine Met.ofW (cc := cX5_init) (maxL := 1) (ret := none) (by decide) rfl ?_
  intro p e s m args below meth c s₁ B hml hv
  obtain ⟨rfl, hsz, hP, hK, hD0⟩ := hv
  have F : CallFix p m c cX5_init 1 s ([.ref h0] : List Value).toArray lw_U RX5 := ⟨B.exec, B.bytes, hml, findClass_of_methodNamed B.named, fun w h => atoms_spec (ws := wU_X5_init) B.pre w (List.mem_cons_of_mem _ h)⟩
  have hx := F.1
  have hb := F.2.1
  have hown := F.2.2.2.1
  have hts := F.2.2.2.2
  have hr := B.returns
  have hlocks := B.notSynchronized
  have hin : meth.name = "<init>" := (name_of_methodNamed B.named B.method).1
  subst hsz
  have hD := hD0.self (sz := s.heap.size)
  generalize hAe : va_A [(h0, .inr (4, [.null, .int 0, .int 0]))] s.heap.size = A at hD ⊢
  have hA : ∀ q : Nat, s.heap.size ≤ q → A q := fun q h => by rw [← hAe]; exact Or.inr h
  have hS : va_S A s.heap s.heap [] := va_S.rf
  have hl := lv_entry ([.ref h0]) (n := 1) (Nat.le_of_ble_eq_true rfl)
  rw [lg_entry_eq]
  generalize (lg_sl ([.ref h0]) ++ List.replicate (1 - (lg_sl ([.ref h0])).length) Slot.unset).toArray = ls at hl ⊢
  have hl : lv_has ls 1 [(0, .ref h0)] := hl
  refine lv_aload_n hx hb dX5_init_0 rfl (lv_at hl 0 rfl) ?_
  refine W.objInit hx hb hown (hts _ mw_621) (hts _ mw_616) (hts _ mw_617) rfl (by rw [hml]; exact hl.1) rfl dX5_init_1 (Nat.le_of_ble_eq_true rfl) (Nat.le_of_ble_eq_true rfl) ?_
  refine W.eq (g2 := F0 m 4 ls []) rfl ?_
  refine lv_aload_n hx hb dX5_init_4 rfl (lv_at hl 0 rfl) ?_
  refine lv_sipush (v := 3000) hx hb dX5_init_5 (by decide) ?_
  refine newI F (hts _ mw_618) hK hP hD hS hA 3000 (by decide) (by decide) (by decide) (Nat.le_of_ble_eq_true rfl) (Nat.le_of_ble_eq_true rfl) dX5_init_8 (fun q1 H hP hD hS => ?_)
  refine W.widen (k := 1) (n := 3000) (Nat.le_refl _) (Nat.le_refl _) ?_
  refine va_putF (D := D) (ci := 4) (v := .ref q1) (ty := .array .int) (C := RX5) (T := TX5) (N := 3) hx hb hts iw_X5 tyX5 tyX5_ok nmX5 hown hK hP hD hS 0 rfl rfl 0 (by decide) (hts _ mw_85) (fun _ h9 => h9) rfl hin rfl (by decide +kernel) rfl rfl (Nat.le_of_ble_eq_true rfl) dX5_init_10 (fun H locs hP hD hS => ?_)
  have hP : va_P D vwCl [(h0, .inr (4, [.ref q1, .int 0, .int 0])), (q1, .inl (cI, 3000, .inl (fun _ => 0)))] H := hP
  have hD : va_D A [(h0, .inr (4, [.ref q1, .int 0, .int 0])), (q1, .inl (cI, 3000, .inl (fun _ => 0)))] := hD
  have hP9 : va_P D vwCl (wP_X5_init cI cJ h0 (fun k => [h0, q1].getD k 0)) H := hP
  have hD9 : va_D A (wP_X5_init cI cJ h0 (fun k => [h0, q1].getD k 0)) := hD
  exact W.vret hx hb hr (fun t ht hW => ⟨⟨fun k => [h0, q1].getD k 0, rfl, trivial, by show va_P D vwCl _ t.heap; rw [ht]; exact hP9, hD9⟩, hS.F ht⟩) hS.2.2 dX5_init_13 hlocks

abbrev rm_X6_init : Room := { frames := 1, cells := 7, slots := 9680, locals := 12 }
def wP_X6_init (cI cJ : ClassId) (h0 : Nat) (u : Nat → Nat) : va_W := [(h0, .inr (5, [.int 0, .ref (u 1), .ref (u 2), .int 0, .int 0, .ref (u 3), .ref (u 4), .ref (u 5), .ref (u 6), .ref (u 7)])), ((u 1), .inl (cI, 80, .inl (fun _ => 0))), ((u 2), .inl (cJ, 2000, .inr (.inl (fun _ => 0)))), ((u 3), .inl (cI, 300, .inl (fun _ => 0))), ((u 4), .inl (cI, 300, .inl (fun _ => 0))), ((u 5), .inl (cI, 2000, .inl (fun _ => 0))), ((u 6), .inl (cI, 2000, .inl (fun _ => 0))), ((u 7), .inl (cI, 3000, .inl (fun _ => 0)))]
set_option maxHeartbeats 4000000 in
set_option maxRecDepth 100000 in
theorem c_X6_init (l : Launch) (D : va_G) (cI cJ : ClassId) (h0 sz : Nat) : Met l yX6_init wU_X6_init rm_X6_init (va_Pc [.ref h0] (fun U => U.heap.size = sz ∧ va_P D vwCl [(h0, .inr (5, [.int 0, .null, .null, .int 0, .int 0, .null, .null, .null, .null, .null]))] U.heap ∧ va_K D vwCl [(cI, .int), (cJ, .long)] U ∧ va_D (fun _ => True) [(h0, .inr (5, [.int 0, .null, .null, .int 0, .int 0, .null, .null, .null, .null, .null]))])) (va_Qv (fun _ : Nat → Nat => True) (fun u t => va_P D vwCl (wP_X6_init cI cJ h0 u) t.heap ∧ va_D (va_A [(h0, .inr (5, [.int 0, .null, .null, .int 0, .int 0, .null, .null, .null, .null, .null]))] sz) (wP_X6_init cI cJ h0 u)) (va_A [(h0, .inr (5, [.int 0, .null, .null, .int 0, .int 0, .null, .null, .null, .null, .null]))] sz)) 7 9680 (va_A [(h0, .inr (5, [.int 0, .null, .null, .int 0, .int 0, .null, .null, .null, .null, .null]))] sz) := by
  refine Met.ofW (cc := cX6_init) (maxL := 1) (ret := none) (by decide) rfl ?_
  intro p e s m args below meth c s₁ B hml hv
  obtain ⟨rfl, hsz, hP, hK, hD0⟩ := hv
  have F : CallFix p m c cX6_init 1 s ([.ref h0] : List Value).toArray lw_U RX6 := ⟨B.exec, B.bytes, hml, findClass_of_methodNamed B.named, fun w h => atoms_spec (ws := wU_X6_init) B.pre w (List.mem_cons_of_mem _ h)⟩
  have hx := F.1
  have hb := F.2.1
  have hown := F.2.2.2.1
  have hts := F.2.2.2.2
  have hr := B.returns
  have hlocks := B.notSynchronized
  have hin : meth.name = "<init>" := (name_of_methodNamed B.named B.method).1
  subst hsz
  have hD := hD0.self (sz := s.heap.size)
  generalize hAe : va_A [(h0, .inr (5, [.int 0, .null, .null, .int 0, .int 0, .null, .null, .null, .null, .null]))] s.heap.size = A at hD ⊢
  have hA : ∀ q : Nat, s.heap.size ≤ q → A q := fun q h => by rw [← hAe]; exact Or.inr h
  have hS : va_S A s.heap s.heap [] := va_S.rf
  have hl := lv_entry ([.ref h0]) (n := 1) (Nat.le_of_ble_eq_true rfl)
  rw [lg_entry_eq]
  generalize (lg_sl ([.ref h0]) ++ List.replicate (1 - (lg_sl ([.ref h0])).length) Slot.unset).toArray = ls at hl ⊢
  have hl : lv_has ls 1 [(0, .ref h0)] := hl
  refine lv_aload_n hx hb dX6_init_0 rfl (lv_at hl 0 rfl) ?_
  refine W.objInit hx hb hown (hts _ mw_622) (hts _ mw_616) (hts _ mw_617) rfl (by rw [hml]; exact hl.1) rfl dX6_init_1 (Nat.le_of_ble_eq_true rfl) (Nat.le_of_ble_eq_true rfl) ?_
  refine W.eq (g2 := F0 m 4 ls []) rfl ?_
  refine lv_aload_n hx hb dX6_init_4 rfl (lv_at hl 0 rfl) ?_
  refine lv_bipush (v := 80) hx hb dX6_init_5 (by decide) ?_
  refine newI F (hts _ mw_618) hK hP hD hS hA 80 (by decide) (by decide) (by decide) (Nat.le_of_ble_eq_true rfl) (Nat.le_of_ble_eq_true rfl) dX6_init_7 (fun q1 H hP hD hS => ?_)
  refine W.widen (k := 1) (n := 80) (Nat.le_refl _) (Nat.le_refl _) ?_
  refine va_putF (D := D) (ci := 5) (v := .ref q1) (ty := .array .int) (C := RX6) (T := TX6) (N := 10) hx hb hts iw_X6 tyX6 tyX6_ok nmX6 hown hK hP hD hS 0 rfl rfl 1 (by decide) (hts _ mw_79) (fun _ h9 => h9) rfl hin rfl (by decide +kernel) rfl rfl (Nat.le_of_ble_eq_true rfl) dX6_init_9 (fun H locs hP hD hS => ?_)
  have hP : va_P D vwCl [(h0, .inr (5, [.int 0, .ref q1, .null, .int 0, .int 0, .null, .null, .null, .null, .null])), (q1, .inl (cI, 80, .inl (fun _ => 0)))] H := hP
  have hD : va_D A [(h0, .inr (5, [.int 0, .ref q1, .null, .int 0, .int 0, .null, .null, .null, .null, .null])), (q1, .inl (cI, 80, .inl (fun _ => 0)))] := hD
  refine lv_aload_n hx hb dX6_init_12 rfl (lv_at hl 0 rfl) ?_
  refine lv_sipush (v := 2000) hx hb dX6_init_13 (by decide) ?_
  refine newL F (hts _ mw_620) hK hP hD hS hA 2000 (by decide) (by decide) (by decide) (Nat.le_of_ble_eq_true rfl) (Nat.le_of_ble_eq_true rfl) dX6_init_16 (fun q2 H hP hD hS => ?_)
  refine W.widen (k := 2) (n := 2080) (Nat.le_refl _) (Nat.le_refl _) ?_
  refine va_putF (D := D) (ci := 5) (v := .ref q2) (ty := .array .long) (C := RX6) (T := TX6) (N := 10) hx hb hts iw_X6 tyX6 tyX6_ok nmX6 hown hK hP hD hS 0 rfl rfl 2 (by decide) (hts _ mw_218) (fun _ h9 => h9) rfl hin rfl (by decide +kernel) rfl rfl (Nat.le_of_ble_eq_true rfl) dX6_init_18 (fun H locs hP hD hS => ?_)
  have hP : va_P D vwCl [(h0, .inr (5, [.int 0, .ref q1, .ref q2, .int 0, .int 0, .null, .null, .null, .null, .null])), (q1, .inl (cI, 80, .inl (fun _ => 0))), (q2, .inl (cJ, 2000, .inr (.inl (fun _ => 0))))] H := hP
  have hD : va_D A [(h0, .inr (5, [.int 0, .ref q1, .ref q2, .int 0, .int 0, .null, .null, .null, .null, .null])), (q1, .inl (cI, 80, .inl (fun _ => 0))), (q2, .inl (cJ, 2000, .inr (.inl (fun _ => 0))))] := hD
  refine lv_aload_n hx hb dX6_init_21 rfl (lv_at hl 0 rfl) ?_
  refine lv_sipush (v := 300) hx hb dX6_init_22 (by decide) ?_
  refine newI F (hts _ mw_618) hK hP hD hS hA 300 (by decide) (by decide) (by decide) (Nat.le_of_ble_eq_true rfl) (Nat.le_of_ble_eq_true rfl) dX6_init_25 (fun q3 H hP hD hS => ?_)
  refine W.widen (k := 3) (n := 2380) (Nat.le_refl _) (Nat.le_refl _) ?_
  refine va_putF (D := D) (ci := 5) (v := .ref q3) (ty := .array .int) (C := RX6) (T := TX6) (N := 10) hx hb hts iw_X6 tyX6 tyX6_ok nmX6 hown hK hP hD hS 0 rfl rfl 5 (by decide) (hts _ mw_221) (fun _ h9 => h9) rfl hin rfl (by decide +kernel) rfl rfl (Nat.le_of_ble_eq_true rfl) dX6_init_27 (fun H locs hP hD hS => ?_)
  have hP : va_P D vwCl [(h0, .inr (5, [.int 0, .ref q1, .ref q2, .int 0, .int 0, .ref q3, .null, .null, .null, .null])), (q1, .inl (cI, 80, .inl (fun _ => 0))), (q2, .inl (cJ, 2000, .inr (.inl (fun _ => 0)))), (q3, .inl (cI, 300, .inl (fun _ => 0)))] H := hP
  have hD : va_D A [(h0, .inr (5, [.int 0, .ref q1, .ref q2, .int 0, .int 0, .ref q3, .null, .null, .null, .null])), (q1, .inl (cI, 80, .inl (fun _ => 0))), (q2, .inl (cJ, 2000, .inr (.inl (fun _ => 0)))), (q3, .inl (cI, 300, .inl (fun _ => 0)))] := hD
  refine lv_aload_n hx hb dX6_init_30 rfl (lv_at hl 0 rfl) ?_
  refine lv_sipush (v := 300) hx hb dX6_init_31 (by decide) ?_
  refine newI F (hts _ mw_618) hK hP hD hS hA 300 (by decide) (by decide) (by decide) (Nat.le_of_ble_eq_true rfl) (Nat.le_of_ble_eq_true rfl) dX6_init_34 (fun q4 H hP hD hS => ?_)
  refine W.widen (k := 4) (n := 2680) (Nat.le_refl _) (Nat.le_refl _) ?_
  refine va_putF (D := D) (ci := 5) (v := .ref q4) (ty := .array .int) (C := RX6) (T := TX6) (N := 10) hx hb hts iw_X6 tyX6 tyX6_ok nmX6 hown hK hP hD hS 0 rfl rfl 6 (by decide) (hts _ mw_222) (fun _ h9 => h9) rfl hin rfl (by decide +kernel) rfl rfl (Nat.le_of_ble_eq_true rfl) dX6_init_36 (fun H locs hP hD hS => ?_)
  have hP : va_P D vwCl [(h0, .inr (5, [.int 0, .ref q1, .ref q2, .int 0, .int 0, .ref q3, .ref q4, .null, .null, .null])), (q1, .inl (cI, 80, .inl (fun _ => 0))), (q2, .inl (cJ, 2000, .inr (.inl (fun _ => 0)))), (q3, .inl (cI, 300, .inl (fun _ => 0))), (q4, .inl (cI, 300, .inl (fun _ => 0)))] H := hP
  have hD : va_D A [(h0, .inr (5, [.int 0, .ref q1, .ref q2, .int 0, .int 0, .ref q3, .ref q4, .null, .null, .null])), (q1, .inl (cI, 80, .inl (fun _ => 0))), (q2, .inl (cJ, 2000, .inr (.inl (fun _ => 0)))), (q3, .inl (cI, 300, .inl (fun _ => 0))), (q4, .inl (cI, 300, .inl (fun _ => 0)))] := hD
  refine lv_aload_n hx hb dX6_init_39 rfl (lv_at hl 0 rfl) ?_
  refine lv_sipush (v := 2000) hx hb dX6_init_40 (by decide) ?_
  refine newI F (hts _ mw_618) hK hP hD hS hA 2000 (by decide) (by decide) (by decide) (Nat.le_of_ble_eq_true rfl) (Nat.le_of_ble_eq_true rfl) dX6_init_43 (fun q5 H hP hD hS => ?_)
  refine W.widen (k := 5) (n := 4680) (Nat.le_refl _) (Nat.le_refl _) ?_
  refine va_putF (D := D) (ci := 5) (v := .ref q5) (ty := .array .int) (C := RX6) (T := TX6) (N := 10) hx hb hts iw_X6 tyX6 tyX6_ok nmX6 hown hK hP hD hS 0 rfl rfl 7 (by decide) (hts _ mw_219) (fun _ h9 => h9) rfl hin rfl (by decide +kernel) rfl rfl (Nat.le_of_ble_eq_true rfl) dX6_init_45 (fun H locs hP hD hS => ?_)
  have hP : va_P D vwCl [(h0, .inr (5, [.int 0, .ref q1, .ref q2, .int 0, .int 0, .ref q3, .ref q4, .ref q5, .null, .null])), (q1, .inl (cI, 80, .inl (fun _ => 0))), (q2, .inl (cJ, 2000, .inr (.inl (fun _ => 0)))), (q3, .inl (cI, 300, .inl (fun _ => 0))), (q4, .inl (cI, 300, .inl (fun _ => 0))), (q5, .inl (cI, 2000, .inl (fun _ => 0)))] H := hP
  have hD : va_D A [(h0, .inr (5, [.int 0, .ref q1, .ref q2, .int 0, .int 0, .ref q3, .ref q4, .ref q5, .null, .null])), (q1, .inl (cI, 80, .inl (fun _ => 0))), (q2, .inl (cJ, 2000, .inr (.inl (fun _ => 0)))), (q3, .inl (cI, 300, .inl (fun _ => 0))), (q4, .inl (cI, 300, .inl (fun _ => 0))), (q5, .inl (cI, 2000, .inl (fun _ => 0)))] := hD
  refine lv_aload_n hx hb dX6_init_48 rfl (lv_at hl 0 rfl) ?_
  refine lv_sipush (v := 2000) hx hb dX6_init_49 (by decide) ?_
  refine newI F (hts _ mw_618) hK hP hD hS hA 2000 (by decide) (by decide) (by decide) (Nat.le_of_ble_eq_true rfl) (Nat.le_of_ble_eq_true rfl) dX6_init_52 (fun q6 H hP hD hS => ?_)
  refine W.widen (k := 6) (n := 6680) (Nat.le_refl _) (Nat.le_refl _) ?_
  refine va_putF (D := D) (ci := 5) (v := .ref q6) (ty := .array .int) (C := RX6) (T := TX6) (N := 10) hx hb hts iw_X6 tyX6 tyX6_ok nmX6 hown hK hP hD hS 0 rfl rfl 8 (by decide) (hts _ mw_220) (fun _ h9 => h9) rfl hin rfl (by decide +kernel) rfl rfl (Nat.le_of_ble_eq_true rfl) dX6_init_54 (fun H locs hP hD hS => ?_)
  have hP : va_P D vwCl [(h0, .inr (5, [.int 0, .ref q1, .ref q2, .int 0, .int 0, .ref q3, .ref q4, .ref q5, .ref q6, .null])), (q1, .inl (cI, 80, .inl (fun _ => 0))), (q2, .inl (cJ, 2000, .inr (.inl (fun _ => 0)))), (q3, .inl (cI, 300, .inl (fun _ => 0))), (q4, .inl (cI, 300, .inl (fun _ => 0))), (q5, .inl (cI, 2000, .inl (fun _ => 0))), (q6, .inl (cI, 2000, .inl (fun _ => 0)))] H := hP
  have hD : va_D A [(h0, .inr (5, [.int 0, .ref q1, .ref q2, .int 0, .int 0, .ref q3, .ref q4, .ref q5, .ref q6, .null])), (q1, .inl (cI, 80, .inl (fun _ => 0))), (q2, .inl (cJ, 2000, .inr (.inl (fun _ => 0)))), (q3, .inl (cI, 300, .inl (fun _ => 0))), (q4, .inl (cI, 300, .inl (fun _ => 0))), (q5, .inl (cI, 2000, .inl (fun _ => 0))), (q6, .inl (cI, 2000, .inl (fun _ => 0)))] := hD
  refine lv_aload_n hx hb dX6_init_57 rfl (lv_at hl 0 rfl) ?_
  refine lv_sipush (v := 3000) hx hb dX6_init_58 (by decide) ?_
  refine newI F (hts _ mw_618) hK hP hD hS hA 3000 (by decide) (by decide) (by decide) (Nat.le_of_ble_eq_true rfl) (Nat.le_of_ble_eq_true rfl) dX6_init_61 (fun q7 H hP hD hS => ?_)
  refine W.widen (k := 7) (n := 9680) (Nat.le_refl _) (Nat.le_refl _) ?_
  refine va_putF (D := D) (ci := 5) (v := .ref q7) (ty := .array .int) (C := RX6) (T := TX6) (N := 10) hx hb hts iw_X6 tyX6 tyX6_ok nmX6 hown hK hP hD hS 0 rfl rfl 9 (by decide) (hts _ mw_246) (fun _ h9 => h9) rfl hin rfl (by decide +kernel) rfl rfl (Nat.le_of_ble_eq_true rfl) dX6_init_63 (fun H locs hP hD hS => ?_)
  have hP : va_P D vwCl [(h0, .inr (5, [.int 0, .ref q1, .ref q2, .int 0, .int 0, .ref q3, .ref q4, .ref q5, .ref q6, .ref q7])), (q1, .inl (cI, 80, .inl (fun _ => 0))), (q2, .inl (cJ, 2000, .inr (.inl (fun _ => 0)))), (q3, .inl (cI, 300, .inl (fun _ => 0))), (q4, .inl (cI, 300, .inl (fun _ => 0))), (q5, .inl (cI, 2000, .inl (fun _ => 0))), (q6, .inl (cI, 2000, .inl (fun _ => 0))), (q7, .inl (cI, 3000, .inl (fun _ => 0)))] H := hP
  have hD : va_D A [(h0, .inr (5, [.int 0, .ref q1, .ref q2, .int 0, .int 0, .ref q3, .ref q4, .ref q5, .ref q6, .ref q7])), (q1, .inl (cI, 80, .inl (fun _ => 0))), (q2, .inl (cJ, 2000, .inr (.inl (fun _ => 0)))), (q3, .inl (cI, 300, .inl (fun _ => 0))), (q4, .inl (cI, 300, .inl (fun _ => 0))), (q5, .inl (cI, 2000, .inl (fun _ => 0))), (q6, .inl (cI, 2000, .inl (fun _ => 0))), (q7, .inl (cI, 3000, .inl (fun _ => 0)))] := hD
  have hP9 : va_P D vwCl (wP_X6_init cI cJ h0 (fun k => [h0, q1, q2, q3, q4, q5, q6, q7].getD k 0)) H := hP
  have hD9 : va_D A (wP_X6_init cI cJ h0 (fun k => [h0, q1, q2, q3, q4, q5, q6, q7].getD k 0)) := hD
  exact W.vret hx hb hr (fun t ht hW => ⟨⟨fun k => [h0, q1, q2, q3, q4, q5, q6, q7].getD k 0, rfl, trivial, by show va_P D vwCl _ t.heap; rw [ht]; exact hP9, hD9⟩, hS.F ht⟩) hS.2.2 dX6_init_66 hlocks

abbrev rm_X2_init : Room := { frames := 1, cells := 12, slots := 1680, locals := 23 }
def wP_X2_init (cI cJ : ClassId) (h0 : Nat) (u : Nat → Nat) : va_W := [(h0, .inr (2, [.int 0, .ref (u 1), .ref (u 2), .ref (u 3), .ref (u 4), .int 0, .ref (u 5), .ref (u 6), .ref (u 7), .ref (u 8), .ref (u 9), .int 0, .ref (u 10), .ref (u 11), .ref (u 12)])), ((u 1), .inl (cI, 80, .inl (fun _ => 0))), ((u 2), .inl (cI, 80, .inl (fun _ => 0))), ((u 3), .inl (cI, 80, .inl (fun _ => 0))), ((u 4), .inl (cI, 100, .inl (jfill (fun _ => 0) 100 (-1)))), ((u 5), .inl (cI, 300, .inl (fun _ => 0))), ((u 6), .inl (cI, 300, .inl (fun _ => 0))), ((u 7), .inl (cI, 300, .inl (fun _ => 0))), ((u 8), .inl (cI, 160, .inl (jfill (fun _ => 0) 160 (-1)))), ((u 9), .inl (cI, 160, .inl (jfill (fun _ => 0) 160 (-1)))), ((u 10), .inl (cI, 40, .inl (fun _ => 0))), ((u 11), .inl (cI, 40, .inl (fun _ => 0))), ((u 12), .inl (cI, 40, .inl (fun _ => 0)))]
set_option maxHeartbeats 4000000 in
set_option maxRecDepth 100000 in
theorem c_X2_init (l : Launch) (D : va_G) (cI cJ : ClassId) (h0 sz : Nat) : Met l yX2_init wU_X2_init rm_X2_init (va_Pc [.ref h0] (fun U => U.heap.size = sz ∧ va_P D vwCl [(h0, .inr (2, [.int 0, .null, .null, .null, .null, .int 0, .null, .null, .null, .null, .null, .int 0, .null, .null, .null]))] U.heap ∧ va_K D vwCl [(cI, .int), (cJ, .long)] U ∧ va_D (fun _ => True) [(h0, .inr (2, [.int 0, .null, .null, .null, .null, .int 0, .null, .null, .null, .null, .null, .int 0, .null, .null, .null]))])) (va_Qv (fun _ : Nat → Nat => True) (fun u t => va_P D vwCl (wP_X2_init cI cJ h0 u) t.heap ∧ va_D (va_A [(h0, .inr (2, [.int 0, .null, .null, .null, .null, .int 0, .null, .null, .null, .null, .null, .int 0, .null, .null, .null]))] sz) (wP_X2_init cI cJ h0 u)) (va_A [(h0, .inr (2, [.int 0, .null, .null, .null, .null, .int 0, .null, .null, .null, .null, .null, .int 0, .null, .null, .null]))] sz)) 12 1680 (va_A [(h0, .inr (2, [.int 0, .null, .null, .null, .null, .int 0, .null, .null, .null, .null, .null, .int 0, .null, .null, .null]))] sz) := by
  refine Met.ofW (cc := cX2_init) (maxL := 1) (ret := none) (by decide) rfl ?_
  intro p e s m args below meth c s₁ B hml hv
  obtain ⟨rfl, hsz, hP, hK, hD0⟩ := hv
  have F : CallFix p m c cX2_init 1 s ([.ref h0] : List Value).toArray lw_U RX2 := ⟨B.exec, B.bytes, hml, findClass_of_methodNamed B.named, fun w h => atoms_spec (ws := wU_X2_init) B.pre w (List.mem_cons_of_mem _ h)⟩
  have hx := F.1
  have hb := F.2.1
  have hown := F.2.2.2.1
  have hts := F.2.2.2.2
  have hr := B.returns
  have hlocks := B.notSynchronized
  have hin : meth.name = "<init>" := (name_of_methodNamed B.named B.method).1
  subst hsz
  have hD := hD0.self (sz := s.heap.size)
  generalize hAe : va_A [(h0, .inr (2, [.int 0, .null, .null, .null, .null, .int 0, .null, .null, .null, .null, .null, .int 0, .null, .null, .null]))] s.heap.size = A at hD ⊢
  have hA : ∀ q : Nat, s.heap.size ≤ q → A q := fun q h => by rw [← hAe]; exact Or.inr h
  have hS : va_S A s.heap s.heap [] := va_S.rf
  have hl := lv_entry ([.ref h0]) (n := 1) (Nat.le_of_ble_eq_true rfl)
  rw [lg_entry_eq]
  generalize (lg_sl ([.ref h0]) ++ List.replicate (1 - (lg_sl ([.ref h0])).length) Slot.unset).toArray = ls at hl ⊢
  have hl : lv_has ls 1 [(0, .ref h0)] := hl
  refine lv_aload_n hx hb dX2_init_0 rfl (lv_at hl 0 rfl) ?_
  refine W.objInit hx hb hown (hts _ mw_623) (hts _ mw_616) (hts _ mw_617) rfl (by rw [hml]; exact hl.1) rfl dX2_init_1 (Nat.le_of_ble_eq_true rfl) (Nat.le_of_ble_eq_true rfl) ?_
  refine W.eq (g2 := F0 m 4 ls []) rfl ?_
  refine lv_aload_n hx hb dX2_init_4 rfl (lv_at hl 0 rfl) ?_
  refine lv_bipush (v := 80) hx hb dX2_init_5 (by decide) ?_
  refine newI F (hts _ mw_618) hK hP hD hS hA 80 (by decide) (by decide) (by decide) (Nat.le_of_ble_eq_true rfl) (Nat.le_of_ble_eq_true rfl) dX2_init_7 (fun q1 H hP hD hS => ?_)
  refine W.widen (k := 1) (n := 80) (Nat.le_refl _) (Nat.le_refl _) ?_
  refine va_putF (D := D) (ci := 2) (v := .ref q1) (ty := .array .int) (C := RX2) (T := TX2) (N := 15) hx hb hts iw_X2 tyX2 tyX2_ok nmX2 hown hK hP hD hS 0 rfl rfl 1 (by decide) (hts _ mw_39) (fun _ h9 => h9) rfl hin rfl (by decide +kernel) rfl rfl (Nat.le_of_ble_eq_true rfl) dX2_init_9 (fun H locs hP hD hS => ?_)
  have hP : va_P D vwCl [(h0, .inr (2, [.int 0, .ref q1, .null, .null, .null, .int 0, .null, .null, .null, .null, .null, .int 0, .null, .null, .null])), (q1, .inl (cI, 80, .inl (fun _ => 0)))] H := hP
  have hD : va_D A [(h0, .inr (2, [.int 0, .ref q1, .null, .null, .null, .int 0, .null, .null, .null, .null, .null, .int 0, .null, .null, .null])), (q1, .inl (cI, 80, .inl (fun _ => 0)))] := hD
  refine lv_aload_n hx hb dX2_init_12 rfl (lv_at hl 0 rfl) ?_
  refine lv_bipush (v := 80) hx hb dX2_init_13 (by decide) ?_
  refine newI F (hts _ mw_618) hK hP hD hS hA 80 (by decide) (by decide) (by decide) (Nat.le_of_ble_eq_true rfl) (Nat.le_of_ble_eq_true rfl) dX2_init_15 (fun q2 H hP hD hS => ?_)
  refine W.widen (k := 2) (n := 160) (Nat.le_refl _) (Nat.le_refl _) ?_
  refine va_putF (D := D) (ci := 2) (v := .ref q2) (ty := .array .int) (C := RX2) (T := TX2) (N := 15) hx hb hts iw_X2 tyX2 tyX2_ok nmX2 hown hK hP hD hS 0 rfl rfl 2 (by decide) (hts _ mw_40) (fun _ h9 => h9) rfl hin rfl (by decide +kernel) rfl rfl (Nat.le_of_ble_eq_true rfl) dX2_init_17 (fun H locs hP hD hS => ?_)
  have hP : va_P D vwCl [(h0, .inr (2, [.int 0, .ref q1, .ref q2, .null, .null, .int 0, .null, .null, .null, .null, .null, .int 0, .null, .null, .null])), (q1, .inl (cI, 80, .inl (fun _ => 0))), (q2, .inl (cI, 80, .inl (fun _ => 0)))] H := hP
  have hD : va_D A [(h0, .inr (2, [.int 0, .ref q1, .ref q2, .null, .null, .int 0, .null, .null, .null, .null, .null, .int 0, .null, .null, .null])), (q1, .inl (cI, 80, .inl (fun _ => 0))), (q2, .inl (cI, 80, .inl (fun _ => 0)))] := hD
  refine lv_aload_n hx hb dX2_init_20 rfl (lv_at hl 0 rfl) ?_
  refine lv_bipush (v := 80) hx hb dX2_init_21 (by decide) ?_
  refine newI F (hts _ mw_618) hK hP hD hS hA 80 (by decide) (by decide) (by decide) (Nat.le_of_ble_eq_true rfl) (Nat.le_of_ble_eq_true rfl) dX2_init_23 (fun q3 H hP hD hS => ?_)
  refine W.widen (k := 3) (n := 240) (Nat.le_refl _) (Nat.le_refl _) ?_
  refine va_putF (D := D) (ci := 2) (v := .ref q3) (ty := .array .int) (C := RX2) (T := TX2) (N := 15) hx hb hts iw_X2 tyX2 tyX2_ok nmX2 hown hK hP hD hS 0 rfl rfl 3 (by decide) (hts _ mw_33) (fun _ h9 => h9) rfl hin rfl (by decide +kernel) rfl rfl (Nat.le_of_ble_eq_true rfl) dX2_init_25 (fun H locs hP hD hS => ?_)
  have hP : va_P D vwCl [(h0, .inr (2, [.int 0, .ref q1, .ref q2, .ref q3, .null, .int 0, .null, .null, .null, .null, .null, .int 0, .null, .null, .null])), (q1, .inl (cI, 80, .inl (fun _ => 0))), (q2, .inl (cI, 80, .inl (fun _ => 0))), (q3, .inl (cI, 80, .inl (fun _ => 0)))] H := hP
  have hD : va_D A [(h0, .inr (2, [.int 0, .ref q1, .ref q2, .ref q3, .null, .int 0, .null, .null, .null, .null, .null, .int 0, .null, .null, .null])), (q1, .inl (cI, 80, .inl (fun _ => 0))), (q2, .inl (cI, 80, .inl (fun _ => 0))), (q3, .inl (cI, 80, .inl (fun _ => 0)))] := hD
  refine lv_aload_n hx hb dX2_init_28 rfl (lv_at hl 0 rfl) ?_
  refine lv_bipush (v := 100) hx hb dX2_init_29 (by decide) ?_
  refine newI F (hts _ mw_618) hK hP hD hS hA 100 (by decide) (by decide) (by decide) (Nat.le_of_ble_eq_true rfl) (Nat.le_of_ble_eq_true rfl) dX2_init_31 (fun q4 H hP hD hS => ?_)
  refine W.widen (k := 4) (n := 340) (Nat.le_refl _) (Nat.le_refl _) ?_
  refine va_putF (D := D) (ci := 2) (v := .ref q4) (ty := .array .int) (C := RX2) (T := TX2) (N := 15) hx hb hts iw_X2 tyX2 tyX2_ok nmX2 hown hK hP hD hS 0 rfl rfl 4 (by decide) (hts _ mw_44) (fun _ h9 => h9) rfl hin rfl (by decide +kernel) rfl rfl (Nat.le_of_ble_eq_true rfl) dX2_init_33 (fun H locs hP hD hS => ?_)
  have hP : va_P D vwCl [(h0, .inr (2, [.int 0, .ref q1, .ref q2, .ref q3, .ref q4, .int 0, .null, .null, .null, .null, .null, .int 0, .null, .null, .null])), (q1, .inl (cI, 80, .inl (fun _ => 0))), (q2, .inl (cI, 80, .inl (fun _ => 0))), (q3, .inl (cI, 80, .inl (fun _ => 0))), (q4, .inl (cI, 100, .inl (fun _ => 0)))] H := hP
  have hD : va_D A [(h0, .inr (2, [.int 0, .ref q1, .ref q2, .ref q3, .ref q4, .int 0, .null, .null, .null, .null, .null, .int 0, .null, .null, .null])), (q1, .inl (cI, 80, .inl (fun _ => 0))), (q2, .inl (cI, 80, .inl (fun _ => 0))), (q3, .inl (cI, 80, .inl (fun _ => 0))), (q4, .inl (cI, 100, .inl (fun _ => 0)))] := hD
  refine lv_aload_n hx hb dX2_init_36 rfl (lv_at hl 0 rfl) ?_
  refine lv_sipush (v := 300) hx hb dX2_init_37 (by decide) ?_
  refine newI F (hts _ mw_618) hK hP hD hS hA 300 (by decide) (by decide) (by decide) (Nat.le_of_ble_eq_true rfl) (Nat.le_of_ble_eq_true rfl) dX2_init_40 (fun q5 H hP hD hS => ?_)
  refine W.widen (k := 5) (n := 640) (Nat.le_refl _) (Nat.le_refl _) ?_
  refine va_putF (D := D) (ci := 2) (v := .ref q5) (ty := .array .int) (C := RX2) (T := TX2) (N := 15) hx hb hts iw_X2 tyX2 tyX2_ok nmX2 hown hK hP hD hS 0 rfl rfl 6 (by decide) (hts _ mw_60) (fun _ h9 => h9) rfl hin rfl (by decide +kernel) rfl rfl (Nat.le_of_ble_eq_true rfl) dX2_init_42 (fun H locs hP hD hS => ?_)
  have hP : va_P D vwCl [(h0, .inr (2, [.int 0, .ref q1, .ref q2, .ref q3, .ref q4, .int 0, .ref q5, .null, .null, .null, .null, .int 0, .null, .null, .null])), (q1, .inl (cI, 80, .inl (fun _ => 0))), (q2, .inl (cI, 80, .inl (fun _ => 0))), (q3, .inl (cI, 80, .inl (fun _ => 0))), (q4, .inl (cI, 100, .inl (fun _ => 0))), (q5, .inl (cI, 300, .inl (fun _ => 0)))] H := hP
  have hD : va_D A [(h0, .inr (2, [.int 0, .ref q1, .ref q2, .ref q3, .ref q4, .int 0, .ref q5, .null, .null, .null, .null, .int 0, .null, .null, .null])), (q1, .inl (cI, 80, .inl (fun _ => 0))), (q2, .inl (cI, 80, .inl (fun _ => 0))), (q3, .inl (cI, 80, .inl (fun _ => 0))), (q4, .inl (cI, 100, .inl (fun _ => 0))), (q5, .inl (cI, 300, .inl (fun _ => 0)))] := hD
  refine lv_aload_n hx hb dX2_init_45 rfl (lv_at hl 0 rfl) ?_
  refine lv_sipush (v := 300) hx hb dX2_init_46 (by decide) ?_
  refine newI F (hts _ mw_618) hK hP hD hS hA 300 (by decide) (by decide) (by decide) (Nat.le_of_ble_eq_true rfl) (Nat.le_of_ble_eq_true rfl) dX2_init_49 (fun q6 H hP hD hS => ?_)
  refine W.widen (k := 6) (n := 940) (Nat.le_refl _) (Nat.le_refl _) ?_
  refine va_putF (D := D) (ci := 2) (v := .ref q6) (ty := .array .int) (C := RX2) (T := TX2) (N := 15) hx hb hts iw_X2 tyX2 tyX2_ok nmX2 hown hK hP hD hS 0 rfl rfl 7 (by decide) (hts _ mw_61) (fun _ h9 => h9) rfl hin rfl (by decide +kernel) rfl rfl (Nat.le_of_ble_eq_true rfl) dX2_init_51 (fun H locs hP hD hS => ?_)
  have hP : va_P D vwCl [(h0, .inr (2, [.int 0, .ref q1, .ref q2, .ref q3, .ref q4, .int 0, .ref q5, .ref q6, .null, .null, .null, .int 0, .null, .null, .null])), (q1, .inl (cI, 80, .inl (fun _ => 0))), (q2, .inl (cI, 80, .inl (fun _ => 0))), (q3, .inl (cI, 80, .inl (fun _ => 0))), (q4, .inl (cI, 100, .inl (fun _ => 0))), (q5, .inl (cI, 300, .inl (fun _ => 0))), (q6, .inl (cI, 300, .inl (fun _ => 0)))] H := hP
  have hD : va_D A [(h0, .inr (2, [.int 0, .ref q1, .ref q2, .ref q3, .ref q4, .int 0, .ref q5, .ref q6, .null, .null, .null, .int 0, .null, .null, .null])), (q1, .inl (cI, 80, .inl (fun _ => 0))), (q2, .inl (cI, 80, .inl (fun _ => 0))), (q3, .inl (cI, 80, .inl (fun _ => 0))), (q4, .inl (cI, 100, .inl (fun _ => 0))), (q5, .inl (cI, 300, .inl (fun _ => 0))), (q6, .inl (cI, 300, .inl (fun _ => 0)))] := hD
  refine lv_aload_n hx hb dX2_init_54 rfl (lv_at hl 0 rfl) ?_
  refine lv_sipush (v := 300) hx hb dX2_init_55 (by decide) ?_
  refine newI F (hts _ mw_618) hK hP hD hS hA 300 (by decide) (by decide) (by decide) (Nat.le_of_ble_eq_true rfl) (Nat.le_of_ble_eq_true rfl) dX2_init_58 (fun q7 H hP hD hS => ?_)
  refine W.widen (k := 7) (n := 1240) (Nat.le_refl _) (Nat.le_refl _) ?_
  refine va_putF (D := D) (ci := 2) (v := .ref q7) (ty := .array .int) (C := RX2) (T := TX2) (N := 15) hx hb hts iw_X2 tyX2 tyX2_ok nmX2 hown hK hP hD hS 0 rfl rfl 8 (by decide) (hts _ mw_62) (fun _ h9 => h9) rfl hin rfl (by decide +kernel) rfl rfl (Nat.le_of_ble_eq_true rfl) dX2_init_60 (fun H locs hP hD hS => ?_)
  have hP : va_P D vwCl [(h0, .inr (2, [.int 0, .ref q1, .ref q2, .ref q3, .ref q4, .int 0, .ref q5, .ref q6, .ref q7, .null, .null, .int 0, .null, .null, .null])), (q1, .inl (cI, 80, .inl (fun _ => 0))), (q2, .inl (cI, 80, .inl (fun _ => 0))), (q3, .inl (cI, 80, .inl (fun _ => 0))), (q4, .inl (cI, 100, .inl (fun _ => 0))), (q5, .inl (cI, 300, .inl (fun _ => 0))), (q6, .inl (cI, 300, .inl (fun _ => 0))), (q7, .inl (cI, 300, .inl (fun _ => 0)))] H := hP
  have hD : va_D A [(h0, .inr (2, [.int 0, .ref q1, .ref q2, .ref q3, .ref q4, .int 0, .ref q5, .ref q6, .ref q7, .null, .null, .int 0, .null, .null, .null])), (q1, .inl (cI, 80, .inl (fun _ => 0))), (q2, .inl (cI, 80, .inl (fun _ => 0))), (q3, .inl (cI, 80, .inl (fun _ => 0))), (q4, .inl (cI, 100, .inl (fun _ => 0))), (q5, .inl (cI, 300, .inl (fun _ => 0))), (q6, .inl (cI, 300, .inl (fun _ => 0))), (q7, .inl (cI, 300, .inl (fun _ => 0)))] := hD
  refine lv_aload_n hx hb dX2_init_63 rfl (lv_at hl 0 rfl) ?_
  refine lv_sipush (v := 160) hx hb dX2_init_64 (by decide) ?_
  refine newI F (hts _ mw_618) hK hP hD hS hA 160 (by decide) (by decide) (by decide) (Nat.le_of_ble_eq_true rfl) (Nat.le_of_ble_eq_true rfl) dX2_init_67 (fun q8 H hP hD hS => ?_)
  refine W.widen (k := 8) (n := 1400) (Nat.le_refl _) (Nat.le_refl _) ?_
  refine va_putF (D := D) (ci := 2) (v := .ref q8) (ty := .array .int) (C := RX2) (T := TX2) (N := 15) hx hb hts iw_X2 tyX2 tyX2_ok nmX2 hown hK hP hD hS 0 rfl rfl 9 (by decide) (hts _ mw_64) (fun _ h9 => h9) rfl hin rfl (by decide +kernel) rfl rfl (Nat.le_of_ble_eq_true rfl) dX2_init_69 (fun H locs hP hD hS => ?_)
  have hP : va_P D vwCl [(h0, .inr (2, [.int 0, .ref q1, .ref q2, .ref q3, .ref q4, .int 0, .ref q5, .ref q6, .ref q7, .ref q8, .null, .int 0, .null, .null, .null])), (q1, .inl (cI, 80, .inl (fun _ => 0))), (q2, .inl (cI, 80, .inl (fun _ => 0))), (q3, .inl (cI, 80, .inl (fun _ => 0))), (q4, .inl (cI, 100, .inl (fun _ => 0))), (q5, .inl (cI, 300, .inl (fun _ => 0))), (q6, .inl (cI, 300, .inl (fun _ => 0))), (q7, .inl (cI, 300, .inl (fun _ => 0))), (q8, .inl (cI, 160, .inl (fun _ => 0)))] H := hP
  have hD : va_D A [(h0, .inr (2, [.int 0, .ref q1, .ref q2, .ref q3, .ref q4, .int 0, .ref q5, .ref q6, .ref q7, .ref q8, .null, .int 0, .null, .null, .null])), (q1, .inl (cI, 80, .inl (fun _ => 0))), (q2, .inl (cI, 80, .inl (fun _ => 0))), (q3, .inl (cI, 80, .inl (fun _ => 0))), (q4, .inl (cI, 100, .inl (fun _ => 0))), (q5, .inl (cI, 300, .inl (fun _ => 0))), (q6, .inl (cI, 300, .inl (fun _ => 0))), (q7, .inl (cI, 300, .inl (fun _ => 0))), (q8, .inl (cI, 160, .inl (fun _ => 0)))] := hD
  refine lv_aload_n hx hb dX2_init_72 rfl (lv_at hl 0 rfl) ?_
  refine lv_sipush (v := 160) hx hb dX2_init_73 (by decide) ?_
  refine newI F (hts _ mw_618) hK hP hD hS hA 160 (by decide) (by decide) (by decide) (Nat.le_of_ble_eq_true rfl) (Nat.le_of_ble_eq_true rfl) dX2_init_76 (fun q9 H hP hD hS => ?_)
  refine W.widen (k := 9) (n := 1560) (Nat.le_refl _) (Nat.le_refl _) ?_
  refine va_putF (D := D) (ci := 2) (v := .ref q9) (ty := .array .int) (C := RX2) (T := TX2) (N := 15) hx hb hts iw_X2 tyX2 tyX2_ok nmX2 hown hK hP hD hS 0 rfl rfl 10 (by decide) (hts _ mw_63) (fun _ h9 => h9) rfl hin rfl (by decide +kernel) rfl rfl (Nat.le_of_ble_eq_true rfl) dX2_init_78 (fun H locs hP hD hS => ?_)
  have hP : va_P D vwCl [(h0, .inr (2, [.int 0, .ref q1, .ref q2, .ref q3, .ref q4, .int 0, .ref q5, .ref q6, .ref q7, .ref q8, .ref q9, .int 0, .null, .null, .null])), (q1, .inl (cI, 80, .inl (fun _ => 0))), (q2, .inl (cI, 80, .inl (fun _ => 0))), (q3, .inl (cI, 80, .inl (fun _ => 0))), (q4, .inl (cI, 100, .inl (fun _ => 0))), (q5, .inl (cI, 300, .inl (fun _ => 0))), (q6, .inl (cI, 300, .inl (fun _ => 0))), (q7, .inl (cI, 300, .inl (fun _ => 0))), (q8, .inl (cI, 160, .inl (fun _ => 0))), (q9, .inl (cI, 160, .inl (fun _ => 0)))] H := hP
  have hD : va_D A [(h0, .inr (2, [.int 0, .ref q1, .ref q2, .ref q3, .ref q4, .int 0, .ref q5, .ref q6, .ref q7, .ref q8, .ref q9, .int 0, .null, .null, .null])), (q1, .inl (cI, 80, .inl (fun _ => 0))), (q2, .inl (cI, 80, .inl (fun _ => 0))), (q3, .inl (cI, 80, .inl (fun _ => 0))), (q4, .inl (cI, 100, .inl (fun _ => 0))), (q5, .inl (cI, 300, .inl (fun _ => 0))), (q6, .inl (cI, 300, .inl (fun _ => 0))), (q7, .inl (cI, 300, .inl (fun _ => 0))), (q8, .inl (cI, 160, .inl (fun _ => 0))), (q9, .inl (cI, 160, .inl (fun _ => 0)))] := hD
  refine lv_aload_n hx hb dX2_init_81 rfl (lv_at hl 0 rfl) ?_
  refine lv_bipush (v := 40) hx hb dX2_init_82 (by decide) ?_
  refine newI F (hts _ mw_618) hK hP hD hS hA 40 (by decide) (by decide) (by decide) (Nat.le_of_ble_eq_true rfl) (Nat.le_of_ble_eq_true rfl) dX2_init_84 (fun q10 H hP hD hS => ?_)
  refine W.widen (k := 10) (n := 1600) (Nat.le_refl _) (Nat.le_refl _) ?_
  refine va_putF (D := D) (ci := 2) (v := .ref q10) (ty := .array .int) (C := RX2) (T := TX2) (N := 15) hx hb hts iw_X2 tyX2 tyX2_ok nmX2 hown hK hP hD hS 0 rfl rfl 12 (by decide) (hts _ mw_66) (fun _ h9 => h9) rfl hin rfl (by decide +kernel) rfl rfl (Nat.le_of_ble_eq_true rfl) dX2_init_86 (fun H locs hP hD hS => ?_)
  have hP : va_P D vwCl [(h0, .inr (2, [.int 0, .ref q1, .ref q2, .ref q3, .ref q4, .int 0, .ref q5, .ref q6, .ref q7, .ref q8, .ref q9, .int 0, .ref q10, .null, .null])), (q1, .inl (cI, 80, .inl (fun _ => 0))), (q2, .inl (cI, 80, .inl (fun _ => 0))), (q3, .inl (cI, 80, .inl (fun _ => 0))), (q4, .inl (cI, 100, .inl (fun _ => 0))), (q5, .inl (cI, 300, .inl (fun _ => 0))), (q6, .inl (cI, 300, .inl (fun _ => 0))), (q7, .inl (cI, 300, .inl (fun _ => 0))), (q8, .inl (cI, 160, .inl (fun _ => 0))), (q9, .inl (cI, 160, .inl (fun _ => 0))), (q10, .inl (cI, 40, .inl (fun _ => 0)))] H := hP
  have hD : va_D A [(h0, .inr (2, [.int 0, .ref q1, .ref q2, .ref q3, .ref q4, .int 0, .ref q5, .ref q6, .ref q7, .ref q8, .ref q9, .int 0, .ref q10, .null, .null])), (q1, .inl (cI, 80, .inl (fun _ => 0))), (q2, .inl (cI, 80, .inl (fun _ => 0))), (q3, .inl (cI, 80, .inl (fun _ => 0))), (q4, .inl (cI, 100, .inl (fun _ => 0))), (q5, .inl (cI, 300, .inl (fun _ => 0))), (q6, .inl (cI, 300, .inl (fun _ => 0))), (q7, .inl (cI, 300, .inl (fun _ => 0))), (q8, .inl (cI, 160, .inl (fun _ => 0))), (q9, .inl (cI, 160, .inl (fun _ => 0))), (q10, .inl (cI, 40, .inl (fun _ => 0)))] := hD
  refine lv_aload_n hx hb dX2_init_89 rfl (lv_at hl 0 rfl) ?_
  refine lv_bipush (v := 40) hx hb dX2_init_90 (by decide) ?_
  refine newI F (hts _ mw_618) hK hP hD hS hA 40 (by decide) (by decide) (by decide) (Nat.le_of_ble_eq_true rfl) (Nat.le_of_ble_eq_true rfl) dX2_init_92 (fun q11 H hP hD hS => ?_)
  refine W.widen (k := 11) (n := 1640) (Nat.le_refl _) (Nat.le_refl _) ?_
  refine va_putF (D := D) (ci := 2) (v := .ref q11) (ty := .array .int) (C := RX2) (T := TX2) (N := 15) hx hb hts iw_X2 tyX2 tyX2_ok nmX2 hown hK hP hD hS 0 rfl rfl 13 (by decide) (hts _ mw_67) (fun _ h9 => h9) rfl hin rfl (by decide +kernel) rfl rfl (Nat.le_of_ble_eq_true rfl) dX2_init_94 (fun H locs hP hD hS => ?_)
  have hP : va_P D vwCl [(h0, .inr (2, [.int 0, .ref q1, .ref q2, .ref q3, .ref q4, .int 0, .ref q5, .ref q6, .ref q7, .ref q8, .ref q9, .int 0, .ref q10, .ref q11, .null])), (q1, .inl (cI, 80, .inl (fun _ => 0))), (q2, .inl (cI, 80, .inl (fun _ => 0))), (q3, .inl (cI, 80, .inl (fun _ => 0))), (q4, .inl (cI, 100, .inl (fun _ => 0))), (q5, .inl (cI, 300, .inl (fun _ => 0))), (q6, .inl (cI, 300, .inl (fun _ => 0))), (q7, .inl (cI, 300, .inl (fun _ => 0))), (q8, .inl (cI, 160, .inl (fun _ => 0))), (q9, .inl (cI, 160, .inl (fun _ => 0))), (q10, .inl (cI, 40, .inl (fun _ => 0))), (q11, .inl (cI, 40, .inl (fun _ => 0)))] H := hP
  have hD : va_D A [(h0, .inr (2, [.int 0, .ref q1, .ref q2, .ref q3, .ref q4, .int 0, .ref q5, .ref q6, .ref q7, .ref q8, .ref q9, .int 0, .ref q10, .ref q11, .null])), (q1, .inl (cI, 80, .inl (fun _ => 0))), (q2, .inl (cI, 80, .inl (fun _ => 0))), (q3, .inl (cI, 80, .inl (fun _ => 0))), (q4, .inl (cI, 100, .inl (fun _ => 0))), (q5, .inl (cI, 300, .inl (fun _ => 0))), (q6, .inl (cI, 300, .inl (fun _ => 0))), (q7, .inl (cI, 300, .inl (fun _ => 0))), (q8, .inl (cI, 160, .inl (fun _ => 0))), (q9, .inl (cI, 160, .inl (fun _ => 0))), (q10, .inl (cI, 40, .inl (fun _ => 0))), (q11, .inl (cI, 40, .inl (fun _ => 0)))] := hD
  refine lv_aload_n hx hb dX2_init_97 rfl (lv_at hl 0 rfl) ?_
  refine lv_bipush (v := 40) hx hb dX2_init_98 (by decide) ?_
  refine newI F (hts _ mw_618) hK hP hD hS hA 40 (by decide) (by decide) (by decide) (Nat.le_of_ble_eq_true rfl) (Nat.le_of_ble_eq_true rfl) dX2_init_100 (fun q12 H hP hD hS => ?_)
  refine W.widen (k := 12) (n := 1680) (Nat.le_refl _) (Nat.le_refl _) ?_
  refine va_putF (D := D) (ci := 2) (v := .ref q12) (ty := .array .int) (C := RX2) (T := TX2) (N := 15) hx hb hts iw_X2 tyX2 tyX2_ok nmX2 hown hK hP hD hS 0 rfl rfl 14 (by decide) (hts _ mw_68) (fun _ h9 => h9) rfl hin rfl (by decide +kernel) rfl rfl (Nat.le_of_ble_eq_true rfl) dX2_init_102 (fun H locs hP hD hS => ?_)
  have hP : va_P D vwCl [(h0, .inr (2, [.int 0, .ref q1, .ref q2, .ref q3, .ref q4, .int 0, .ref q5, .ref q6, .ref q7, .ref q8, .ref q9, .int 0, .ref q10, .ref q11, .ref q12])), (q1, .inl (cI, 80, .inl (fun _ => 0))), (q2, .inl (cI, 80, .inl (fun _ => 0))), (q3, .inl (cI, 80, .inl (fun _ => 0))), (q4, .inl (cI, 100, .inl (fun _ => 0))), (q5, .inl (cI, 300, .inl (fun _ => 0))), (q6, .inl (cI, 300, .inl (fun _ => 0))), (q7, .inl (cI, 300, .inl (fun _ => 0))), (q8, .inl (cI, 160, .inl (fun _ => 0))), (q9, .inl (cI, 160, .inl (fun _ => 0))), (q10, .inl (cI, 40, .inl (fun _ => 0))), (q11, .inl (cI, 40, .inl (fun _ => 0))), (q12, .inl (cI, 40, .inl (fun _ => 0)))] H := hP
  have hD : va_D A [(h0, .inr (2, [.int 0, .ref q1, .ref q2, .ref q3, .ref q4, .int 0, .ref q5, .ref q6, .ref q7, .ref q8, .ref q9, .int 0, .ref q10, .ref q11, .ref q12])), (q1, .inl (cI, 80, .inl (fun _ => 0))), (q2, .inl (cI, 80, .inl (fun _ => 0))), (q3, .inl (cI, 80, .inl (fun _ => 0))), (q4, .inl (cI, 100, .inl (fun _ => 0))), (q5, .inl (cI, 300, .inl (fun _ => 0))), (q6, .inl (cI, 300, .inl (fun _ => 0))), (q7, .inl (cI, 300, .inl (fun _ => 0))), (q8, .inl (cI, 160, .inl (fun _ => 0))), (q9, .inl (cI, 160, .inl (fun _ => 0))), (q10, .inl (cI, 40, .inl (fun _ => 0))), (q11, .inl (cI, 40, .inl (fun _ => 0))), (q12, .inl (cI, 40, .inl (fun _ => 0)))] := hD
  refine lv_aload_n hx hb dX2_init_105 rfl (lv_at hl 0 rfl) ?_
  refine va_get (D := D) (ci := 2) (v := .ref q4) (C := RX2) (T := TX2) (N := 15) hx hb hts iw_X2 hown hK hP 0 rfl rfl 4 (by decide) (hts _ mw_44) (fun _ h9 => h9) rfl dX2_init_106 ?_
  refine lv_iconst (v := (-1)) hx hb dX2_init_109 (by decide) ?_
  refine fillI (rest := []) F hK hP hD hS 4 rfl (Nat.le_of_ble_eq_true rfl) (va_cwS 2 hts gU_X2_48 rfl rfl rfl (by decide +kernel) ⟨Nat.le_of_ble_eq_true rfl, Nat.le_of_ble_eq_true rfl⟩) hl.1 rfl (Nat.le_of_ble_eq_true rfl) dX2_init_110 ⟨Nat.le_of_ble_eq_true rfl, Nat.le_of_ble_eq_true rfl⟩ hA (fun H locs hP hS => ?_)
  have hD : va_D A [(h0, .inr (2, [.int 0, .ref q1, .ref q2, .ref q3, .ref q4, .int 0, .ref q5, .ref q6, .ref q7, .ref q8, .ref q9, .int 0, .ref q10, .ref q11, .ref q12])), (q1, .inl (cI, 80, .inl (fun _ => 0))), (q2, .inl (cI, 80, .inl (fun _ => 0))), (q3, .inl (cI, 80, .inl (fun _ => 0))), (q4, .inl (cI, 100, .inl (jfill (fun _ => 0) 100 (-1)))), (q5, .inl (cI, 300, .inl (fun _ => 0))), (q6, .inl (cI, 300, .inl (fun _ => 0))), (q7, .inl (cI, 300, .inl (fun _ => 0))), (q8, .inl (cI, 160, .inl (fun _ => 0))), (q9, .inl (cI, 160, .inl (fun _ => 0))), (q10, .inl (cI, 40, .inl (fun _ => 0))), (q11, .inl (cI, 40, .inl (fun _ => 0))), (q12, .inl (cI, 40, .inl (fun _ => 0)))] := hD.same rfl
  have hP : va_P D vwCl [(h0, .inr (2, [.int 0, .ref q1, .ref q2, .ref q3, .ref q4, .int 0, .ref q5, .ref q6, .ref q7, .ref q8, .ref q9, .int 0, .ref q10, .ref q11, .ref q12])), (q1, .inl (cI, 80, .inl (fun _ => 0))), (q2, .inl (cI, 80, .inl (fun _ => 0))), (q3, .inl (cI, 80, .inl (fun _ => 0))), (q4, .inl (cI, 100, .inl (jfill (fun _ => 0) 100 (-1)))), (q5, .inl (cI, 300, .inl (fun _ => 0))), (q6, .inl (cI, 300, .inl (fun _ => 0))), (q7, .inl (cI, 300, .inl (fun _ => 0))), (q8, .inl (cI, 160, .inl (fun _ => 0))), (q9, .inl (cI, 160, .inl (fun _ => 0))), (q10, .inl (cI, 40, .inl (fun _ => 0))), (q11, .inl (cI, 40, .inl (fun _ => 0))), (q12, .inl (cI, 40, .inl (fun _ => 0)))] H := hP
  have hD : va_D A [(h0, .inr (2, [.int 0, .ref q1, .ref q2, .ref q3, .ref q4, .int 0, .ref q5, .ref q6, .ref q7, .ref q8, .ref q9, .int 0, .ref q10, .ref q11, .ref q12])), (q1, .inl (cI, 80, .inl (fun _ => 0))), (q2, .inl (cI, 80, .inl (fun _ => 0))), (q3, .inl (cI, 80, .inl (fun _ => 0))), (q4, .inl (cI, 100, .inl (jfill (fun _ => 0) 100 (-1)))), (q5, .inl (cI, 300, .inl (fun _ => 0))), (q6, .inl (cI, 300, .inl (fun _ => 0))), (q7, .inl (cI, 300, .inl (fun _ => 0))), (q8, .inl (cI, 160, .inl (fun _ => 0))), (q9, .inl (cI, 160, .inl (fun _ => 0))), (q10, .inl (cI, 40, .inl (fun _ => 0))), (q11, .inl (cI, 40, .inl (fun _ => 0))), (q12, .inl (cI, 40, .inl (fun _ => 0)))] := hD
  refine lv_aload_n hx hb dX2_init_113 rfl (lv_at hl 0 rfl) ?_
  refine va_get (D := D) (ci := 2) (v := .ref q8) (C := RX2) (T := TX2) (N := 15) hx hb hts iw_X2 hown hK hP 0 rfl rfl 9 (by decide) (hts _ mw_64) (fun _ h9 => h9) rfl dX2_init_114 ?_
  refine lv_iconst (v := (-1)) hx hb dX2_init_117 (by decide) ?_
  refine fillI (rest := []) F hK hP hD hS 8 rfl (Nat.le_of_ble_eq_true rfl) (va_cwS 2 hts gU_X2_48 rfl rfl rfl (by decide +kernel) ⟨Nat.le_of_ble_eq_true rfl, Nat.le_of_ble_eq_true rfl⟩) hl.1 rfl (Nat.le_of_ble_eq_true rfl) dX2_init_118 ⟨Nat.le_of_ble_eq_true rfl, Nat.le_of_ble_eq_true rfl⟩ hA (fun H locs hP hS => ?_)
  have hD : va_D A [(h0, .inr (2, [.int 0, .ref q1, .ref q2, .ref q3, .ref q4, .int 0, .ref q5, .ref q6, .ref q7, .ref q8, .ref q9, .int 0, .ref q10, .ref q11, .ref q12])), (q1, .inl (cI, 80, .inl (fun _ => 0))), (q2, .inl (cI, 80, .inl (fun _ => 0))), (q3, .inl (cI, 80, .inl (fun _ => 0))), (q4, .inl (cI, 100, .inl (jfill (fun _ => 0) 100 (-1)))), (q5, .inl (cI, 300, .inl (fun _ => 0))), (q6, .inl (cI, 300, .inl (fun _ => 0))), (q7, .inl (cI, 300, .inl (fun _ => 0))), (q8, .inl (cI, 160, .inl (jfill (fun _ => 0) 160 (-1)))), (q9, .inl (cI, 160, .inl (fun _ => 0))), (q10, .inl (cI, 40, .inl (fun _ => 0))), (q11, .inl (cI, 40, .inl (fun _ => 0))), (q12, .inl (cI, 40, .inl (fun _ => 0)))] := hD.same rfl
  have hP : va_P D vwCl [(h0, .inr (2, [.int 0, .ref q1, .ref q2, .ref q3, .ref q4, .int 0, .ref q5, .ref q6, .ref q7, .ref q8, .ref q9, .int 0, .ref q10, .ref q11, .ref q12])), (q1, .inl (cI, 80, .inl (fun _ => 0))), (q2, .inl (cI, 80, .inl (fun _ => 0))), (q3, .inl (cI, 80, .inl (fun _ => 0))), (q4, .inl (cI, 100, .inl (jfill (fun _ => 0) 100 (-1)))), (q5, .inl (cI, 300, .inl (fun _ => 0))), (q6, .inl (cI, 300, .inl (fun _ => 0))), (q7, .inl (cI, 300, .inl (fun _ => 0))), (q8, .inl (cI, 160, .inl (jfill (fun _ => 0) 160 (-1)))), (q9, .inl (cI, 160, .inl (fun _ => 0))), (q10, .inl (cI, 40, .inl (fun _ => 0))), (q11, .inl (cI, 40, .inl (fun _ => 0))), (q12, .inl (cI, 40, .inl (fun _ => 0)))] H := hP
  have hD : va_D A [(h0, .inr (2, [.int 0, .ref q1, .ref q2, .ref q3, .ref q4, .int 0, .ref q5, .ref q6, .ref q7, .ref q8, .ref q9, .int 0, .ref q10, .ref q11, .ref q12])), (q1, .inl (cI, 80, .inl (fun _ => 0))), (q2, .inl (cI, 80, .inl (fun _ => 0))), (q3, .inl (cI, 80, .inl (fun _ => 0))), (q4, .inl (cI, 100, .inl (jfill (fun _ => 0) 100 (-1)))), (q5, .inl (cI, 300, .inl (fun _ => 0))), (q6, .inl (cI, 300, .inl (fun _ => 0))), (q7, .inl (cI, 300, .inl (fun _ => 0))), (q8, .inl (cI, 160, .inl (jfill (fun _ => 0) 160 (-1)))), (q9, .inl (cI, 160, .inl (fun _ => 0))), (q10, .inl (cI, 40, .inl (fun _ => 0))), (q11, .inl (cI, 40, .inl (fun _ => 0))), (q12, .inl (cI, 40, .inl (fun _ => 0)))] := hD
  refine lv_aload_n hx hb dX2_init_121 rfl (lv_at hl 0 rfl) ?_
  refine va_get (D := D) (ci := 2) (v := .ref q9) (C := RX2) (T := TX2) (N := 15) hx hb hts iw_X2 hown hK hP 0 rfl rfl 10 (by decide) (hts _ mw_63) (fun _ h9 => h9) rfl dX2_init_122 ?_
  refine lv_iconst (v := (-1)) hx hb dX2_init_125 (by decide) ?_
  refine fillI (rest := []) F hK hP hD hS 9 rfl (Nat.le_of_ble_eq_true rfl) (va_cwS 2 hts gU_X2_48 rfl rfl rfl (by decide +kernel) ⟨Nat.le_of_ble_eq_true rfl, Nat.le_of_ble_eq_true rfl⟩) hl.1 rfl (Nat.le_of_ble_eq_true rfl) dX2_init_126 ⟨Nat.le_of_ble_eq_true rfl, Nat.le_of_ble_eq_true rfl⟩ hA (fun H locs hP hS => ?_)
  have hD : va_D A [(h0, .inr (2, [.int 0, .ref q1, .ref q2, .ref q3, .ref q4, .int 0, .ref q5, .ref q6, .ref q7, .ref q8, .ref q9, .int 0, .ref q10, .ref q11, .ref q12])), (q1, .inl (cI, 80, .inl (fun _ => 0))), (q2, .inl (cI, 80, .inl (fun _ => 0))), (q3, .inl (cI, 80, .inl (fun _ => 0))), (q4, .inl (cI, 100, .inl (jfill (fun _ => 0) 100 (-1)))), (q5, .inl (cI, 300, .inl (fun _ => 0))), (q6, .inl (cI, 300, .inl (fun _ => 0))), (q7, .inl (cI, 300, .inl (fun _ => 0))), (q8, .inl (cI, 160, .inl (jfill (fun _ => 0) 160 (-1)))), (q9, .inl (cI, 160, .inl (jfill (fun _ => 0) 160 (-1)))), (q10, .inl (cI, 40, .inl (fun _ => 0))), (q11, .inl (cI, 40, .inl (fun _ => 0))), (q12, .inl (cI, 40, .inl (fun _ => 0)))] := hD.same rfl
  have hP : va_P D vwCl [(h0, .inr (2, [.int 0, .ref q1, .ref q2, .ref q3, .ref q4, .int 0, .ref q5, .ref q6, .ref q7, .ref q8, .ref q9, .int 0, .ref q10, .ref q11, .ref q12])), (q1, .inl (cI, 80, .inl (fun _ => 0))), (q2, .inl (cI, 80, .inl (fun _ => 0))), (q3, .inl (cI, 80, .inl (fun _ => 0))), (q4, .inl (cI, 100, .inl (jfill (fun _ => 0) 100 (-1)))), (q5, .inl (cI, 300, .inl (fun _ => 0))), (q6, .inl (cI, 300, .inl (fun _ => 0))), (q7, .inl (cI, 300, .inl (fun _ => 0))), (q8, .inl (cI, 160, .inl (jfill (fun _ => 0) 160 (-1)))), (q9, .inl (cI, 160, .inl (jfill (fun _ => 0) 160 (-1)))), (q10, .inl (cI, 40, .inl (fun _ => 0))), (q11, .inl (cI, 40, .inl (fun _ => 0))), (q12, .inl (cI, 40, .inl (fun _ => 0)))] H := hP
  have hD : va_D A [(h0, .inr (2, [.int 0, .ref q1, .ref q2, .ref q3, .ref q4, .int 0, .ref q5, .ref q6, .ref q7, .ref q8, .ref q9, .int 0, .ref q10, .ref q11, .ref q12])), (q1, .inl (cI, 80, .inl (fun _ => 0))), (q2, .inl (cI, 80, .inl (fun _ => 0))), (q3, .inl (cI, 80, .inl (fun _ => 0))), (q4, .inl (cI, 100, .inl (jfill (fun _ => 0) 100 (-1)))), (q5, .inl (cI, 300, .inl (fun _ => 0))), (q6, .inl (cI, 300, .inl (fun _ => 0))), (q7, .inl (cI, 300, .inl (fun _ => 0))), (q8, .inl (cI, 160, .inl (jfill (fun _ => 0) 160 (-1)))), (q9, .inl (cI, 160, .inl (jfill (fun _ => 0) 160 (-1)))), (q10, .inl (cI, 40, .inl (fun _ => 0))), (q11, .inl (cI, 40, .inl (fun _ => 0))), (q12, .inl (cI, 40, .inl (fun _ => 0)))] := hD
  have hP9 : va_P D vwCl (wP_X2_init cI cJ h0 (fun k => [h0, q1, q2, q3, q4, q5, q6, q7, q8, q9, q10, q11, q12].getD k 0)) H := hP
  have hD9 : va_D A (wP_X2_init cI cJ h0 (fun k => [h0, q1, q2, q3, q4, q5, q6, q7, q8, q9, q10, q11, q12].getD k 0)) := hD
  exact W.vret hx hb hr (fun t ht hW => ⟨⟨fun k => [h0, q1, q2, q3, q4, q5, q6, q7, q8, q9, q10, q11, q12].getD k 0, rfl, trivial, by show va_P D vwCl _ t.heap; rw [ht]; exact hP9, hD9⟩, hS.F ht⟩) hS.2.2 dX2_init_129 hlocks
