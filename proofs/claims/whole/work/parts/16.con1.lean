abbrev rm_X0_add : Room := { frames := 0, cells := 0, slots := 0, locals := 0 }
set_option maxHeartbeats 4000000 in
set_option maxRecDepth 100000 in
theorem c_X0_add (l : Launch) (D : va_G) (ad : Nat → Nat) (cI cJ : ClassId) (hap : apart ad 42) (sz : Nat) (σ : St) (a1 : Int32) (a2 : Int32) (a3 : Int32) (K : Int32 → St → Prop) (hw : w_X0_add σ a1 a2 a3 K) : Met l yX0_add wU_X0_add rm_X0_add (va_Pc [.ref (ad 4), .int a1, .int a2, .int a3] (fun U => U.heap.size = sz ∧ inW D (wdC ad cI cJ) [(cI, .int), (cJ, .long)] σ U)) (va_Qi K (inW D (wdC ad cI cJ) [(cI, .int), (cJ, .long)]) (AW ad 42 sz)) 0 0 (AW ad 42 sz) := by
  refine Met.ofW (cc := cX0_add) (maxL := 5) (ret := (some .int)) (by decide) rfl ?_
  intro p e s m args below meth c s₁ B hml hv
  obtain ⟨rfl, hsz, ⟨hP, hK⟩⟩ := hv
  have F : CallFix p m c cX0_add 5 s ([.ref (ad 4), .int a1, .int a2, .int a3] : List Value).toArray lw_U RX0 := ⟨B.exec, B.bytes, hml, findClass_of_methodNamed B.named, fun w h => atoms_spec (ws := wU_X0_add) B.pre w (List.mem_cons_of_mem _ h)⟩
  have hx := F.1
  have hb := F.2.1
  have hown := F.2.2.2.1
  have hts := F.2.2.2.2
  have hr := B.returns
  have hlocks := B.notSynchronized
  subst hsz
  have hDs : ∀ σ, va_D (AW ad 42 s.heap.size) ((wdC ad cI cJ) σ) := fun σ => wdC_D hap σ
  have hS : va_S (AW ad 42 s.heap.size) s.heap s.heap [] := va_S.rf
  have hl := lv_entry ([.ref (ad 4), .int a1, .int a2, .int a3]) (n := 5) (Nat.le_of_ble_eq_true rfl)
  rw [lg_entry_eq]
  generalize (lg_sl ([.ref (ad 4), .int a1, .int a2, .int a3]) ++ List.replicate (5 - (lg_sl ([.ref (ad 4), .int a1, .int a2, .int a3])).length) Slot.unset).toArray = ls at hl ⊢
  have hl : lv_has ls 5 [(0, .ref (ad 4)), (1, .int a1), (2, .int a2), (3, .int a3)] := hl
  have key : ∀ (H : Heap) (locs : List Loc), va_P D vwCl ((wdC ad cI cJ) σ) H → va_S (AW ad 42 s.heap.size) s.heap H locs → W p l e (headSpec wU_X0_add rm_X0_add).room s m ([.ref (ad 4), .int a1, .int a2, .int a3] : List Value).toArray below meth c H locs 0 0 (MQ below (va_Qi K (inW D (wdC ad cI cJ) [(cI, .int), (cJ, .long)]) (AW ad 42 s.heap.size)) ([.ref (ad 4), .int a1, .int a2, .int a3] : List Value).toArray s 0 0 (AW ad 42 s.heap.size)) (F0 m 0 ls []) := by
    intro H locs hP hS
    unfold w_X0_add at hw
    refine lv_aload_n hx hb dX0_add_0 rfl (lv_at hl 0 rfl) ?_
    refine gC_X0_count F hK hP (hts _ mw_0) dX0_add_1 ?_
    refine lv_istore (lv' := [(4, .int (gS σ 14)), (0, .ref (ad 4)), (1, .int a1), (2, .int a2), (3, .int a3)]) hx hb dX0_add_4 hl (by decide) rfl (fun ls hl => ?_)
    refine lv_aload_n hx hb dX0_add_6 rfl (lv_at hl 1 rfl) ?_
    refine lv_dup hx hb dX0_add_7 rfl ?_
    refine gC_X0_count F hK hP (hts _ mw_0) dX0_add_8 ?_
    refine lv_iconst (v := 1) hx hb dX0_add_11 (by decide) ?_
    refine lv_iadd hx hb dX0_add_12 ?_
    refine pC_X0_count F hK hP hDs hS (hts _ mw_0) dX0_add_13 (fun H locs hP hS => ?_)
    refine lv_aload_n hx hb dX0_add_16 rfl (lv_at hl 1 rfl) ?_
    refine gC_X0_key F hK hP (hts _ mw_1) dX0_add_17 ?_
    refine lv_iload hx hb dX0_add_20 (lv_at hl 0 rfl) ?_
    refine lv_iload_n hx hb dX0_add_22 rfl (lv_at hl 2 rfl) ?_
    obtain ⟨i_5, hw⟩ := hw
    refine sC_X0_key F hK hP hDs hS i_5 dX0_add_23 (fun H locs hP hS => ?_)
    refine lv_aload_n hx hb dX0_add_24 rfl (lv_at hl 1 rfl) ?_
    refine gC_X0_origin F hK hP (hts _ mw_2) dX0_add_25 ?_
    refine lv_iload hx hb dX0_add_28 (lv_at hl 0 rfl) ?_
    refine lv_iload_n hx hb dX0_add_30 rfl (lv_at hl 3 rfl) ?_
    obtain ⟨i_4, hw⟩ := hw
    refine sC_X0_origin F hK hP hDs hS i_4 dX0_add_31 (fun H locs hP hS => ?_)
    refine lv_aload_n hx hb dX0_add_32 rfl (lv_at hl 1 rfl) ?_
    refine gC_X0_outer F hK hP (hts _ mw_3) dX0_add_33 ?_
    refine lv_iload hx hb dX0_add_36 (lv_at hl 0 rfl) ?_
    refine lv_iload_n hx hb dX0_add_38 rfl (lv_at hl 4 rfl) ?_
    obtain ⟨i_3, hw⟩ := hw
    refine sC_X0_outer F hK hP hDs hS i_3 dX0_add_39 (fun H locs hP hS => ?_)
    refine lv_aload_n hx hb dX0_add_40 rfl (lv_at hl 1 rfl) ?_
    refine gC_X0_firstReached F hK hP (hts _ mw_4) dX0_add_41 ?_
    refine lv_iload hx hb dX0_add_44 (lv_at hl 0 rfl) ?_
    refine lv_iconst (v := (-1)) hx hb dX0_add_46 (by decide) ?_
    obtain ⟨i_2, hw⟩ := hw
    refine sC_X0_firstReached F hK hP hDs hS i_2 dX0_add_47 (fun H locs hP hS => ?_)
    refine lv_aload_n hx hb dX0_add_48 rfl (lv_at hl 1 rfl) ?_
    refine gC_X0_nextReached F hK hP (hts _ mw_5) dX0_add_49 ?_
    refine lv_iload hx hb dX0_add_52 (lv_at hl 0 rfl) ?_
    refine lv_iconst (v := (-1)) hx hb dX0_add_54 (by decide) ?_
    obtain ⟨i_1, hw⟩ := hw
    refine sC_X0_nextReached F hK hP hDs hS i_1 dX0_add_55 (fun H locs hP hS => ?_)
    refine lv_iload hx hb dX0_add_56 (lv_at hl 0 rfl) ?_
    exact rtI F hr hlocks hK hw hP hS dX0_add_58
  exact key s.heap [] hP hS

abbrev rm_X0_reset : Room := { frames := 1, cells := 0, slots := 0, locals := 24 }
set_option maxHeartbeats 4000000 in
set_option maxRecDepth 100000 in
theorem c_X0_reset (l : Launch) (D : va_G) (ad : Nat → Nat) (cI cJ : ClassId) (hap : apart ad 42) (sz : Nat) (σ : St) (K : St → Prop) (hw : w_X0_reset σ K) : Met l yX0_reset wU_X0_reset rm_X0_reset (va_Pc [.ref (ad 4)] (fun U => U.heap.size = sz ∧ inW D (wdC ad cI cJ) [(cI, .int), (cJ, .long)] σ U)) (va_Qv K (inW D (wdC ad cI cJ) [(cI, .int), (cJ, .long)]) (AW ad 42 sz)) 0 0 (AW ad 42 sz) := by
  refine Met.ofW (cc := cX0_reset) (maxL := 1) (ret := none) (by decide) rfl ?_
  intro p e s m args below meth c s₁ B hml hv
  obtain ⟨rfl, hsz, ⟨hP, hK⟩⟩ := hv
  have F : CallFix p m c cX0_reset 1 s ([.ref (ad 4)] : List Value).toArray lw_U RX0 := ⟨B.exec, B.bytes, hml, findClass_of_methodNamed B.named, fun w h => atoms_spec (ws := wU_X0_reset) B.pre w (List.mem_cons_of_mem _ h)⟩
  have hx := F.1
  have hb := F.2.1
  have hown := F.2.2.2.1
  have hts := F.2.2.2.2
  have hr := B.returns
  have hlocks := B.notSynchronized
  subst hsz
  have hDs : ∀ σ, va_D (AW ad 42 s.heap.size) ((wdC ad cI cJ) σ) := fun σ => wdC_D hap σ
  have hS : va_S (AW ad 42 s.heap.size) s.heap s.heap [] := va_S.rf
  have hl := lv_entry ([.ref (ad 4)]) (n := 1) (Nat.le_of_ble_eq_true rfl)
  rw [lg_entry_eq]
  generalize (lg_sl ([.ref (ad 4)]) ++ List.replicate (1 - (lg_sl ([.ref (ad 4)])).length) Slot.unset).toArray = ls at hl ⊢
  have hl : lv_has ls 1 [(0, .ref (ad 4))] := hl
  have key : ∀ (H : Heap) (locs : List Loc), va_P D vwCl ((wdC ad cI cJ) σ) H → va_S (AW ad 42 s.heap.size) s.heap H locs → W p l e (headSpec wU_X0_reset rm_X0_reset).room s m ([.ref (ad 4)] : List Value).toArray below meth c H locs 0 0 (MQ below (va_Qv K (inW D (wdC ad cI cJ) [(cI, .int), (cJ, .long)]) (AW ad 42 s.heap.size)) ([.ref (ad 4)] : List Value).toArray s 0 0 (AW ad 42 s.heap.size)) (F0 m 0 ls []) := by
    intro H locs hP hS
    unfold w_X0_reset at hw
    refine lv_aload_n hx hb dX0_reset_0 rfl (lv_at hl 0 rfl) ?_
    refine lv_iconst (v := 0) hx hb dX0_reset_1 (by decide) ?_
    refine pC_X0_count F hK hP hDs hS (hts _ mw_0) dX0_reset_2 (fun H locs hP hS => ?_)
    refine lv_aload_n hx hb dX0_reset_5 rfl (lv_at hl 0 rfl) ?_
    refine lv_iconst (v := (-1)) hx hb dX0_reset_6 (by decide) ?_
    refine lv_iconst (v := (-1)) hx hb dX0_reset_7 (by decide) ?_
    refine lv_iconst (v := (-1)) hx hb dX0_reset_8 (by decide) ?_
    refine cvI (As := [.int (-1), .int (-1), .int (-1)]) (rest := []) F hK hP hS (c_X0_add l D ad cI cJ hap H.size _ _ _ _ _ hw) (cwV 3 hts gU_X0_31 rfl rfl rfl (by decide +kernel) ⟨Nat.le_of_ble_eq_true rfl, Nat.le_of_ble_eq_true rfl⟩) (va_recv hK hP (ci := 0) (q0 := 4) rfl rfl) rfl hl.1 rfl (Nat.le_of_ble_eq_true rfl) dX0_reset_9 ⟨Nat.zero_le _, Nat.zero_le _⟩ (fun r_2 u_1 H locs hw hP hS => ?_)
    refine lv_pop hx hb dX0_reset_12 rfl ?_
    exact rtV F hr hlocks hK hw hP hS dX0_reset_13
  exact key s.heap [] hP hS

abbrev rm_X0_reach : Room := { frames := 1, cells := 0, slots := 0, locals := 24 }
set_option maxHeartbeats 4000000 in
set_option maxRecDepth 100000 in
theorem c_X0_reach (l : Launch) (D : va_G) (ad : Nat → Nat) (cI cJ : ClassId) (hap : apart ad 42) (sz : Nat) (σ : St) (a1 : Int32) (a2 : Int32) (a3 : Int32) (a4 : Int32) (K : Int32 → St → Prop) (hw : w_X0_reach σ a1 a2 a3 a4 K) : Met l yX0_reach wU_X0_reach rm_X0_reach (va_Pc [.ref (ad 4), .int a1, .int a2, .int a3, .int a4] (fun U => U.heap.size = sz ∧ inW D (wdC ad cI cJ) [(cI, .int), (cJ, .long)] σ U)) (va_Qi K (inW D (wdC ad cI cJ) [(cI, .int), (cJ, .long)]) (AW ad 42 sz)) 0 0 (AW ad 42 sz) := by
  refine Met.ofW (cc := cX0_reach) (maxL := 7) (ret := (some .int)) (by decide) rfl ?_
  intro p e s m args below meth c s₁ B hml hv
  obtain ⟨rfl, hsz, ⟨hP, hK⟩⟩ := hv
  have F : CallFix p m c cX0_reach 7 s ([.ref (ad 4), .int a1, .int a2, .int a3, .int a4] : List Value).toArray lw_U RX0 := ⟨B.exec, B.bytes, hml, findClass_of_methodNamed B.named, fun w h => atoms_spec (ws := wU_X0_reach) B.pre w (List.mem_cons_of_mem _ h)⟩
  have hx := F.1
  have hb := F.2.1
  have hown := F.2.2.2.1
  have hts := F.2.2.2.2
  have hr := B.returns
  have hlocks := B.notSynchronized
  subst hsz
  have hDs : ∀ σ, va_D (AW ad 42 s.heap.size) ((wdC ad cI cJ) σ) := fun σ => wdC_D hap σ
  have hS : va_S (AW ad 42 s.heap.size) s.heap s.heap [] := va_S.rf
  have lab_54 : ∀ (σ : St) (x1 : Int32) (x2 : Int32) (x3 : Int32) (x4 : Int32) (H : Heap) (locs : List Loc) (ls : Array Slot), b_X0_reach_54 K σ x1 x2 x3 x4 → va_P D vwCl ((wdC ad cI cJ) σ) H → va_S (AW ad 42 s.heap.size) s.heap H locs → lv_has ls 7 [(0, .ref (ad 4)), (1, .int x1), (2, .int x2), (3, .int x3), (4, .int x4)] → W p l e (headSpec wU_X0_reach rm_X0_reach).room s m ([.ref (ad 4), .int a1, .int a2, .int a3, .int a4] : List Value).toArray below meth c H locs 0 0 (MQ below (va_Qi K (inW D (wdC ad cI cJ) [(cI, .int), (cJ, .long)]) (AW ad 42 s.heap.size)) ([.ref (ad 4), .int a1, .int a2, .int a3, .int a4] : List Value).toArray s 0 0 (AW ad 42 s.heap.size)) (F0 m 54 ls []) := by
    intro σ x1 x2 x3 x4 H locs ls hw hP hS hl
    unfold b_X0_reach_54 at hw
    refine lv_aload_n hx hb dX0_reach_54 rfl (lv_at hl 0 rfl) ?_
    refine gC_X0_count F hK hP (hts _ mw_0) dX0_reach_55 ?_
    refine lv_sipush (v := 600) hx hb dX0_reach_58 (by decide) ?_
    refine lv_icmp_lt (tgt := 66) hx hb dX0_reach_61 (by decide) (fun c_6 => ?_) (fun c_6 => ?_)
    · have hw := hw.1 c_6
      refine lv_aload_n hx hb dX0_reach_66 rfl (lv_at hl 0 rfl) ?_
      refine lv_iload_n hx hb dX0_reach_67 rfl (lv_at hl 2 rfl) ?_
      refine lv_iload_n hx hb dX0_reach_68 rfl (lv_at hl 3 rfl) ?_
      refine lv_iload hx hb dX0_reach_69 (lv_at hl 4 rfl) ?_
      refine cvI (As := [.int x2, .int x3, .int x4]) (rest := []) F hK hP hS (c_X0_add l D ad cI cJ hap H.size _ _ _ _ _ hw) (cwV 3 hts gU_X0_31 rfl rfl rfl (by decide +kernel) ⟨Nat.le_of_ble_eq_true rfl, Nat.le_of_ble_eq_true rfl⟩) (va_recv hK hP (ci := 0) (q0 := 4) rfl rfl) rfl hl.1 rfl (Nat.le_of_ble_eq_true rfl) dX0_reach_71 ⟨Nat.zero_le _, Nat.zero_le _⟩ (fun r_2 u_1 H locs hw hP hS => ?_)
      refine lv_istore (lv' := [(6, .int r_2), (0, .ref (ad 4)), (1, .int x1), (2, .int x2), (3, .int x3), (4, .int x4)]) hx hb dX0_reach_74 hl (by decide) rfl (fun ls hl => ?_)
      refine lv_aload_n hx hb dX0_reach_76 rfl (lv_at hl 1 rfl) ?_
      refine gC_X0_nextReached F hK hP (hts _ mw_5) dX0_reach_77 ?_
      refine lv_iload hx hb dX0_reach_80 (lv_at hl 0 rfl) ?_
      refine lv_aload_n hx hb dX0_reach_82 rfl (lv_at hl 1 rfl) ?_
      refine gC_X0_firstReached F hK hP (hts _ mw_4) dX0_reach_83 ?_
      refine lv_iload_n hx hb dX0_reach_86 rfl (lv_at hl 2 rfl) ?_
      obtain ⟨i_5, hw⟩ := hw
      refine lC_X0_firstReached F hK hP i_5 dX0_reach_87 ?_
      obtain ⟨i_4, hw⟩ := hw
      refine sC_X0_nextReached F hK hP hDs hS i_4 dX0_reach_88 (fun H locs hP hS => ?_)
      refine lv_aload_n hx hb dX0_reach_89 rfl (lv_at hl 1 rfl) ?_
      refine gC_X0_firstReached F hK hP (hts _ mw_4) dX0_reach_90 ?_
      refine lv_iload_n hx hb dX0_reach_93 rfl (lv_at hl 2 rfl) ?_
      refine lv_iload hx hb dX0_reach_94 (lv_at hl 0 rfl) ?_
      obtain ⟨i_3, hw⟩ := hw
      refine sC_X0_firstReached F hK hP hDs hS i_3 dX0_reach_96 (fun H locs hP hS => ?_)
      refine lv_iload hx hb dX0_reach_97 (lv_at hl 0 rfl) ?_
      exact rtI F hr hlocks hK hw hP hS dX0_reach_99
    · have hw := hw.2 c_6
      refine lv_iconst (v := (-1)) hx hb dX0_reach_64 (by decide) ?_
      exact rtI F hr hlocks hK hw hP hS dX0_reach_65
  have lab_11 : ∀ (n : Nat), ∀ (σ : St) (x1 : Int32) (x2 : Int32) (x3 : Int32) (x4 : Int32) (x5 : Int32) (x6 : Int32) (H : Heap) (locs : List Loc) (ls : Array Slot), w_X0_reach_11 K n σ x1 x2 x3 x4 x5 x6 → va_P D vwCl ((wdC ad cI cJ) σ) H → va_S (AW ad 42 s.heap.size) s.heap H locs → lv_has ls 7 [(0, .ref (ad 4)), (1, .int x1), (2, .int x2), (3, .int x3), (4, .int x4), (5, .int x5), (6, .int x6)] → W p l e (headSpec wU_X0_reach rm_X0_reach).room s m ([.ref (ad 4), .int a1, .int a2, .int a3, .int a4] : List Value).toArray below meth c H locs 0 0 (MQ below (va_Qi K (inW D (wdC ad cI cJ) [(cI, .int), (cJ, .long)]) (AW ad 42 s.heap.size)) ([.ref (ad 4), .int a1, .int a2, .int a3, .int a4] : List Value).toArray s 0 0 (AW ad 42 s.heap.size)) (F0 m 11 ls []) := by
    intro n
    induction n with
    | zero =>
      intro σ x1 x2 x3 x4 x5 x6 H locs ls hw
      exact hw.elim
    | succ n hL11 =>
      intro σ x1 x2 x3 x4 x5 x6 H locs ls hw hP hS hl
      have hw : b_X0_reach_11 (w_X0_reach_11 K n) K σ x1 x2 x3 x4 x5 x6 := hw
      unfold b_X0_reach_11 at hw
      generalize w_X0_reach_11 K n = L11 at hw hL11
      refine lv_iload hx hb dX0_reach_11 (lv_at hl 6 rfl) ?_
      refine lv_sipush (v := 600) hx hb dX0_reach_13 (by decide) ?_
      refine lv_icmp_ge (tgt := 54) hx hb dX0_reach_16 (by decide) (fun c_11 => ?_) (fun c_11 => ?_)
      · have hw := hw.1 c_11
        exact lab_54 _ _ _ _ _ _ _ _ hw hP hS (lv_sub hl [0, 1, 2, 3, 4] rfl)
      · have hw := hw.2 c_11
        refine lv_iload hx hb dX0_reach_19 (lv_at hl 5 rfl) ?_
        refine lv_iconst (v := (-1)) hx hb dX0_reach_21 (by decide) ?_
        refine lv_icmp_eq (tgt := 54) hx hb dX0_reach_22 (by decide) (fun c_10 => ?_) (fun c_10 => ?_)
        · have hw := hw.1 c_10
          exact lab_54 _ _ _ _ _ _ _ _ hw hP hS (lv_sub hl [0, 1, 2, 3, 4] rfl)
        · have hw := hw.2 c_10
          refine lv_aload_n hx hb dX0_reach_25 rfl (lv_at hl 0 rfl) ?_
          refine gC_X0_key F hK hP (hts _ mw_1) dX0_reach_26 ?_
          refine lv_iload hx hb dX0_reach_29 (lv_at hl 5 rfl) ?_
          obtain ⟨i_9, hw⟩ := hw
          refine lC_X0_key F hK hP i_9 dX0_reach_31 ?_
          refine lv_iload_n hx hb dX0_reach_32 rfl (lv_at hl 2 rfl) ?_
          refine lv_icmp_ne (tgt := 39) hx hb dX0_reach_33 (by decide) (fun c_8 => ?_) (fun c_8 => ?_)
          · have hw := hw.1 c_8
            refine lv_aload_n hx hb dX0_reach_39 rfl (lv_at hl 0 rfl) ?_
            refine gC_X0_nextReached F hK hP (hts _ mw_5) dX0_reach_40 ?_
            refine lv_iload hx hb dX0_reach_43 (lv_at hl 5 rfl) ?_
            obtain ⟨i_7, hw⟩ := hw
            refine lC_X0_nextReached F hK hP i_7 dX0_reach_45 ?_
            refine lv_istore (lv' := [(5, .int (gA σ 23 (x5).toNatClampNeg)), (0, .ref (ad 4)), (1, .int x1), (2, .int x2), (3, .int x3), (4, .int x4), (6, .int x6)]) hx hb dX0_reach_46 hl (by decide) rfl (fun ls hl => ?_)
            refine lv_iinc (v := (x6 + 1)) (lv' := [(6, .int (x6 + 1)), (5, .int (gA σ 23 (x5).toNatClampNeg)), (0, .ref (ad 4)), (1, .int x1), (2, .int x2), (3, .int x3), (4, .int x4)]) hx hb dX0_reach_48 hl (k := 6) rfl rfl (by decide) rfl (fun ls hl => ?_)
            refine lv_goto (tgt := 11) hx hb dX0_reach_51 (by decide) ?_
            exact hL11 _ _ _ _ _ _ _ _ _ _ hw hP hS (lv_sub hl [2, 3, 4, 5, 6, 1, 0] rfl)
          · have hw := hw.2 c_8
            refine lv_iload hx hb dX0_reach_36 (lv_at hl 5 rfl) ?_
            exact rtI F hr hlocks hK hw hP hS dX0_reach_38
  have hl := lv_entry ([.ref (ad 4), .int a1, .int a2, .int a3, .int a4]) (n := 7) (Nat.le_of_ble_eq_true rfl)
  rw [lg_entry_eq]
  generalize (lg_sl ([.ref (ad 4), .int a1, .int a2, .int a3, .int a4]) ++ List.replicate (7 - (lg_sl ([.ref (ad 4), .int a1, .int a2, .int a3, .int a4])).length) Slot.unset).toArray = ls at hl ⊢
  have hl : lv_has ls 7 [(0, .ref (ad 4)), (1, .int a1), (2, .int a2), (3, .int a3), (4, .int a4)] := hl
  have key : ∀ (H : Heap) (locs : List Loc), va_P D vwCl ((wdC ad cI cJ) σ) H → va_S (AW ad 42 s.heap.size) s.heap H locs → W p l e (headSpec wU_X0_reach rm_X0_reach).room s m ([.ref (ad 4), .int a1, .int a2, .int a3, .int a4] : List Value).toArray below meth c H locs 0 0 (MQ below (va_Qi K (inW D (wdC ad cI cJ) [(cI, .int), (cJ, .long)]) (AW ad 42 s.heap.size)) ([.ref (ad 4), .int a1, .int a2, .int a3, .int a4] : List Value).toArray s 0 0 (AW ad 42 s.heap.size)) (F0 m 0 ls []) := by
    intro H locs hP hS
    unfold w_X0_reach at hw
    refine lv_aload_n hx hb dX0_reach_0 rfl (lv_at hl 0 rfl) ?_
    refine gC_X0_firstReached F hK hP (hts _ mw_4) dX0_reach_1 ?_
    refine lv_iload_n hx hb dX0_reach_4 rfl (lv_at hl 1 rfl) ?_
    obtain ⟨i_13, hw⟩ := hw
    refine lC_X0_firstReached F hK hP i_13 dX0_reach_5 ?_
    refine lv_istore (lv' := [(5, .int (gA σ 22 (a1).toNatClampNeg)), (0, .ref (ad 4)), (1, .int a1), (2, .int a2), (3, .int a3), (4, .int a4)]) hx hb dX0_reach_6 hl (by decide) rfl (fun ls hl => ?_)
    refine lv_iconst (v := 0) hx hb dX0_reach_8 (by decide) ?_
    refine lv_istore (lv' := [(6, .int 0), (5, .int (gA σ 22 (a1).toNatClampNeg)), (0, .ref (ad 4)), (1, .int a1), (2, .int a2), (3, .int a3), (4, .int a4)]) hx hb dX0_reach_9 hl (by decide) rfl (fun ls hl => ?_)
    obtain ⟨n_12, hw⟩ := hw
    exact lab_11 n_12 _ _ _ _ _ _ _ _ _ _ hw hP hS (lv_sub hl [2, 3, 4, 5, 6, 1, 0] rfl)
  exact key s.heap [] hP hS

abbrev rm_X0_enter : Room := { frames := 2, cells := 0, slots := 0, locals := 50 }
set_option maxHeartbeats 4000000 in
set_option maxRecDepth 100000 in
theorem c_X0_enter (l : Launch) (D : va_G) (ad : Nat → Nat) (cI cJ : ClassId) (hap : apart ad 42) (sz : Nat) (σ : St) (a1 : Int32) (a2 : Int32) (K : Int32 → St → Prop) (hw : w_X0_enter σ a1 a2 K) : Met l yX0_enter wU_X0_enter rm_X0_enter (va_Pc [.ref (ad 4), .int a1, .int a2] (fun U => U.heap.size = sz ∧ inW D (wdC ad cI cJ) [(cI, .int), (cJ, .long)] σ U)) (va_Qi K (inW D (wdC ad cI cJ) [(cI, .int), (cJ, .long)]) (AW ad 42 sz)) 0 0 (AW ad 42 sz) := by
  refine Met.ofW (cc := cX0_enter) (maxL := 3) (ret := (some .int)) (by decide) rfl ?_
  intro p e s m args below meth c s₁ B hml hv
  obtain ⟨rfl, hsz, ⟨hP, hK⟩⟩ := hv
  have F : CallFix p m c cX0_enter 3 s ([.ref (ad 4), .int a1, .int a2] : List Value).toArray lw_U RX0 := ⟨B.exec, B.bytes, hml, findClass_of_methodNamed B.named, fun w h => atoms_spec (ws := wU_X0_enter) B.pre w (List.mem_cons_of_mem _ h)⟩
  have hx := F.1
  have hb := F.2.1
  have hown := F.2.2.2.1
  have hts := F.2.2.2.2
  have hr := B.returns
  have hlocks := B.notSynchronized
  subst hsz
  have hDs : ∀ σ, va_D (AW ad 42 s.heap.size) ((wdC ad cI cJ) σ) := fun σ => wdC_D hap σ
  have hS : va_S (AW ad 42 s.heap.size) s.heap s.heap [] := va_S.rf
  have hl := lv_entry ([.ref (ad 4), .int a1, .int a2]) (n := 3) (Nat.le_of_ble_eq_true rfl)
  rw [lg_entry_eq]
  generalize (lg_sl ([.ref (ad 4), .int a1, .int a2]) ++ List.replicate (3 - (lg_sl ([.ref (ad 4), .int a1, .int a2])).length) Slot.unset).toArray = ls at hl ⊢
  have hl : lv_has ls 3 [(0, .ref (ad 4)), (1, .int a1), (2, .int a2)] := hl
  have key : ∀ (H : Heap) (locs : List Loc), va_P D vwCl ((wdC ad cI cJ) σ) H → va_S (AW ad 42 s.heap.size) s.heap H locs → W p l e (headSpec wU_X0_enter rm_X0_enter).room s m ([.ref (ad 4), .int a1, .int a2] : List Value).toArray below meth c H locs 0 0 (MQ below (va_Qi K (inW D (wdC ad cI cJ) [(cI, .int), (cJ, .long)]) (AW ad 42 s.heap.size)) ([.ref (ad 4), .int a1, .int a2] : List Value).toArray s 0 0 (AW ad 42 s.heap.size)) (F0 m 0 ls []) := by
    intro H locs hP hS
    unfold w_X0_enter at hw
    refine lv_aload_n hx hb dX0_enter_0 rfl (lv_at hl 0 rfl) ?_
    refine lv_iload_n hx hb dX0_enter_1 rfl (lv_at hl 1 rfl) ?_
    refine lv_iload_n hx hb dX0_enter_2 rfl (lv_at hl 2 rfl) ?_
    refine lv_iload_n hx hb dX0_enter_3 rfl (lv_at hl 2 rfl) ?_
    refine lv_iload_n hx hb dX0_enter_4 rfl (lv_at hl 1 rfl) ?_
    refine cvI (As := [.int a1, .int a2, .int a2, .int a1]) (rest := []) F hK hP hS (c_X0_reach l D ad cI cJ hap H.size _ _ _ _ _ _ hw) (cwV 4 hts gU_X0_35 rfl rfl rfl (by decide +kernel) ⟨Nat.le_of_ble_eq_true rfl, Nat.le_of_ble_eq_true rfl⟩) (va_recv hK hP (ci := 0) (q0 := 4) rfl rfl) rfl hl.1 rfl (Nat.le_of_ble_eq_true rfl) dX0_enter_5 ⟨Nat.zero_le _, Nat.zero_le _⟩ (fun r_2 u_1 H locs hw hP hS => ?_)
    exact rtI F hr hlocks hK hw hP hS dX0_enter_8
  exact key s.heap [] hP hS

abbrev rm_X0_nextTurn : Room := { frames := 2, cells := 0, slots := 0, locals := 50 }
set_option maxHeartbeats 4000000 in
set_option maxRecDepth 100000 in
theorem c_X0_nextTurn (l : Launch) (D : va_G) (ad : Nat → Nat) (cI cJ : ClassId) (hap : apart ad 42) (sz : Nat) (σ : St) (a1 : Int32) (K : Int32 → St → Prop) (hw : w_X0_nextTurn σ a1 K) : Met l yX0_nextTurn wU_X0_nextTurn rm_X0_nextTurn (va_Pc [.ref (ad 4), .int a1] (fun U => U.heap.size = sz ∧ inW D (wdC ad cI cJ) [(cI, .int), (cJ, .long)] σ U)) (va_Qi K (inW D (wdC ad cI cJ) [(cI, .int), (cJ, .long)]) (AW ad 42 sz)) 0 0 (AW ad 42 sz) := by
  refine Met.ofW (cc := cX0_nextTurn) (maxL := 2) (ret := (some .int)) (by decide) rfl ?_
  intro p e s m args below meth c s₁ B hml hv
  obtain ⟨rfl, hsz, ⟨hP, hK⟩⟩ := hv
  have F : CallFix p m c cX0_nextTurn 2 s ([.ref (ad 4), .int a1] : List Value).toArray lw_U RX0 := ⟨B.exec, B.bytes, hml, findClass_of_methodNamed B.named, fun w h => atoms_spec (ws := wU_X0_nextTurn) B.pre w (List.mem_cons_of_mem _ h)⟩
  have hx := F.1
  have hb := F.2.1
  have hown := F.2.2.2.1
  have hts := F.2.2.2.2
  have hr := B.returns
  have hlocks := B.notSynchronized
  subst hsz
  have hDs : ∀ σ, va_D (AW ad 42 s.heap.size) ((wdC ad cI cJ) σ) := fun σ => wdC_D hap σ
  have hS : va_S (AW ad 42 s.heap.size) s.heap s.heap [] := va_S.rf
  have hl := lv_entry ([.ref (ad 4), .int a1]) (n := 2) (Nat.le_of_ble_eq_true rfl)
  rw [lg_entry_eq]
  generalize (lg_sl ([.ref (ad 4), .int a1]) ++ List.replicate (2 - (lg_sl ([.ref (ad 4), .int a1])).length) Slot.unset).toArray = ls at hl ⊢
  have hl : lv_has ls 2 [(0, .ref (ad 4)), (1, .int a1)] := hl
  have key : ∀ (H : Heap) (locs : List Loc), va_P D vwCl ((wdC ad cI cJ) σ) H → va_S (AW ad 42 s.heap.size) s.heap H locs → W p l e (headSpec wU_X0_nextTurn rm_X0_nextTurn).room s m ([.ref (ad 4), .int a1] : List Value).toArray below meth c H locs 0 0 (MQ below (va_Qi K (inW D (wdC ad cI cJ) [(cI, .int), (cJ, .long)]) (AW ad 42 s.heap.size)) ([.ref (ad 4), .int a1] : List Value).toArray s 0 0 (AW ad 42 s.heap.size)) (F0 m 0 ls []) := by
    intro H locs hP hS
    unfold w_X0_nextTurn at hw
    refine lv_aload_n hx hb dX0_nextTurn_0 rfl (lv_at hl 0 rfl) ?_
    refine lv_iload_n hx hb dX0_nextTurn_1 rfl (lv_at hl 1 rfl) ?_
    refine lv_bipush (v := 90) hx hb dX0_nextTurn_2 (by decide) ?_
    refine lv_aload_n hx hb dX0_nextTurn_4 rfl (lv_at hl 0 rfl) ?_
    refine gC_X0_origin F hK hP (hts _ mw_2) dX0_nextTurn_5 ?_
    refine lv_iload_n hx hb dX0_nextTurn_8 rfl (lv_at hl 1 rfl) ?_
    obtain ⟨i_4, hw⟩ := hw
    refine lC_X0_origin F hK hP i_4 dX0_nextTurn_9 ?_
    refine lv_aload_n hx hb dX0_nextTurn_10 rfl (lv_at hl 0 rfl) ?_
    refine gC_X0_outer F hK hP (hts _ mw_3) dX0_nextTurn_11 ?_
    refine lv_iload_n hx hb dX0_nextTurn_14 rfl (lv_at hl 1 rfl) ?_
    obtain ⟨i_3, hw⟩ := hw
    refine lC_X0_outer F hK hP i_3 dX0_nextTurn_15 ?_
    refine cvI (As := [.int a1, .int 90, .int (gA σ 19 (a1).toNatClampNeg), .int (gA σ 20 (a1).toNatClampNeg)]) (rest := []) F hK hP hS (c_X0_reach l D ad cI cJ hap H.size _ _ _ _ _ _ hw) (cwV 4 hts gU_X0_35 rfl rfl rfl (by decide +kernel) ⟨Nat.le_of_ble_eq_true rfl, Nat.le_of_ble_eq_true rfl⟩) (va_recv hK hP (ci := 0) (q0 := 4) rfl rfl) rfl hl.1 rfl (Nat.le_of_ble_eq_true rfl) dX0_nextTurn_16 ⟨Nat.zero_le _, Nat.zero_le _⟩ (fun r_2 u_1 H locs hw hP hS => ?_)
    exact rtI F hr hlocks hK hw hP hS dX0_nextTurn_19
  exact key s.heap [] hP hS

abbrev rm_X0_callBy : Room := { frames := 2, cells := 0, slots := 0, locals := 50 }
set_option maxHeartbeats 4000000 in
set_option maxRecDepth 100000 in
theorem c_X0_callBy (l : Launch) (D : va_G) (ad : Nat → Nat) (cI cJ : ClassId) (hap : apart ad 42) (sz : Nat) (σ : St) (a1 : Int32) (a2 : Int32) (K : Int32 → St → Prop) (hw : w_X0_callBy σ a1 a2 K) : Met l yX0_callBy wU_X0_callBy rm_X0_callBy (va_Pc [.ref (ad 4), .int a1, .int a2] (fun U => U.heap.size = sz ∧ inW D (wdC ad cI cJ) [(cI, .int), (cJ, .long)] σ U)) (va_Qi K (inW D (wdC ad cI cJ) [(cI, .int), (cJ, .long)]) (AW ad 42 sz)) 0 0 (AW ad 42 sz) := by
  refine Met.ofW (cc := cX0_callBy) (maxL := 3) (ret := (some .int)) (by decide) rfl ?_
  intro p e s m args below meth c s₁ B hml hv
  obtain ⟨rfl, hsz, ⟨hP, hK⟩⟩ := hv
  have F : CallFix p m c cX0_callBy 3 s ([.ref (ad 4), .int a1, .int a2] : List Value).toArray lw_U RX0 := ⟨B.exec, B.bytes, hml, findClass_of_methodNamed B.named, fun w h => atoms_spec (ws := wU_X0_callBy) B.pre w (List.mem_cons_of_mem _ h)⟩
  have hx := F.1
  have hb := F.2.1
  have hown := F.2.2.2.1
  have hts := F.2.2.2.2
  have hr := B.returns
  have hlocks := B.notSynchronized
  subst hsz
  have hDs : ∀ σ, va_D (AW ad 42 s.heap.size) ((wdC ad cI cJ) σ) := fun σ => wdC_D hap σ
  have hS : va_S (AW ad 42 s.heap.size) s.heap s.heap [] := va_S.rf
  have hl := lv_entry ([.ref (ad 4), .int a1, .int a2]) (n := 3) (Nat.le_of_ble_eq_true rfl)
  rw [lg_entry_eq]
  generalize (lg_sl ([.ref (ad 4), .int a1, .int a2]) ++ List.replicate (3 - (lg_sl ([.ref (ad 4), .int a1, .int a2])).length) Slot.unset).toArray = ls at hl ⊢
  have hl : lv_has ls 3 [(0, .ref (ad 4)), (1, .int a1), (2, .int a2)] := hl
  have key : ∀ (H : Heap) (locs : List Loc), va_P D vwCl ((wdC ad cI cJ) σ) H → va_S (AW ad 42 s.heap.size) s.heap H locs → W p l e (headSpec wU_X0_callBy rm_X0_callBy).room s m ([.ref (ad 4), .int a1, .int a2] : List Value).toArray below meth c H locs 0 0 (MQ below (va_Qi K (inW D (wdC ad cI cJ) [(cI, .int), (cJ, .long)]) (AW ad 42 s.heap.size)) ([.ref (ad 4), .int a1, .int a2] : List Value).toArray s 0 0 (AW ad 42 s.heap.size)) (F0 m 0 ls []) := by
    intro H locs hP hS
    unfold w_X0_callBy at hw
    refine lv_aload_n hx hb dX0_callBy_0 rfl (lv_at hl 0 rfl) ?_
    refine lv_iload_n hx hb dX0_callBy_1 rfl (lv_at hl 1 rfl) ?_
    refine lv_bipush (v := 10) hx hb dX0_callBy_2 (by decide) ?_
    refine lv_iload_n hx hb dX0_callBy_4 rfl (lv_at hl 2 rfl) ?_
    refine lv_iadd hx hb dX0_callBy_5 ?_
    refine lv_bipush (v := 10) hx hb dX0_callBy_6 (by decide) ?_
    refine lv_iload_n hx hb dX0_callBy_8 rfl (lv_at hl 2 rfl) ?_
    refine lv_iadd hx hb dX0_callBy_9 ?_
    refine lv_iload_n hx hb dX0_callBy_10 rfl (lv_at hl 1 rfl) ?_
    refine cvI (As := [.int a1, .int (10 + a2), .int (10 + a2), .int a1]) (rest := []) F hK hP hS (c_X0_reach l D ad cI cJ hap H.size _ _ _ _ _ _ hw) (cwV 4 hts gU_X0_35 rfl rfl rfl (by decide +kernel) ⟨Nat.le_of_ble_eq_true rfl, Nat.le_of_ble_eq_true rfl⟩) (va_recv hK hP (ci := 0) (q0 := 4) rfl rfl) rfl hl.1 rfl (Nat.le_of_ble_eq_true rfl) dX0_callBy_11 ⟨Nat.zero_le _, Nat.zero_le _⟩ (fun r_2 u_1 H locs hw hP hS => ?_)
    exact rtI F hr hlocks hK hw hP hS dX0_callBy_14
  exact key s.heap [] hP hS

abbrev rm_X0_isTurnOf : Room := { frames := 0, cells := 0, slots := 0, locals := 0 }
set_option maxHeartbeats 4000000 in
set_option maxRecDepth 100000 in
theorem c_X0_isTurnOf (l : Launch) (D : va_G) (ad : Nat → Nat) (cI cJ : ClassId) (hap : apart ad 42) (sz : Nat) (σ : St) (a1 : Int32) (a2 : Int32) (K : Int32 → St → Prop) (hw : w_X0_isTurnOf σ a1 a2 K) : Met l yX0_isTurnOf wU_X0_isTurnOf rm_X0_isTurnOf (va_Pc [.ref (ad 4), .int a1, .int a2] (fun U => U.heap.size = sz ∧ inW D (wdC ad cI cJ) [(cI, .int), (cJ, .long)] σ U)) (va_Qi (fun r u => zb r ∧ K r u) (inW D (wdC ad cI cJ) [(cI, .int), (cJ, .long)]) (AW ad 42 sz)) 0 0 (AW ad 42 sz) := by
  refine Met.ofW (cc := cX0_isTurnOf) (maxL := 3) (ret := (some .boolean)) (by decide) rfl ?_
  intro p e s m args below meth c s₁ B hml hv
  obtain ⟨rfl, hsz, ⟨hP, hK⟩⟩ := hv
  have F : CallFix p m c cX0_isTurnOf 3 s ([.ref (ad 4), .int a1, .int a2] : List Value).toArray lw_U RX0 := ⟨B.exec, B.bytes, hml, findClass_of_methodNamed B.named, fun w h => atoms_spec (ws := wU_X0_isTurnOf) B.pre w (List.mem_cons_of_mem _ h)⟩
  have hx := F.1
  have hb := F.2.1
  have hown := F.2.2.2.1
  have hts := F.2.2.2.2
  have hr := B.returns
  have hlocks := B.notSynchronized
  subst hsz
  have hDs : ∀ σ, va_D (AW ad 42 s.heap.size) ((wdC ad cI cJ) σ) := fun σ => wdC_D hap σ
  have hS : va_S (AW ad 42 s.heap.size) s.heap s.heap [] := va_S.rf
  have hl := lv_entry ([.ref (ad 4), .int a1, .int a2]) (n := 3) (Nat.le_of_ble_eq_true rfl)
  rw [lg_entry_eq]
  generalize (lg_sl ([.ref (ad 4), .int a1, .int a2]) ++ List.replicate (3 - (lg_sl ([.ref (ad 4), .int a1, .int a2])).length) Slot.unset).toArray = ls at hl ⊢
  have hl : lv_has ls 3 [(0, .ref (ad 4)), (1, .int a1), (2, .int a2)] := hl
  have key : ∀ (H : Heap) (locs : List Loc), va_P D vwCl ((wdC ad cI cJ) σ) H → va_S (AW ad 42 s.heap.size) s.heap H locs → W p l e (headSpec wU_X0_isTurnOf rm_X0_isTurnOf).room s m ([.ref (ad 4), .int a1, .int a2] : List Value).toArray below meth c H locs 0 0 (MQ below (va_Qi (fun r u => zb r ∧ K r u) (inW D (wdC ad cI cJ) [(cI, .int), (cJ, .long)]) (AW ad 42 s.heap.size)) ([.ref (ad 4), .int a1, .int a2] : List Value).toArray s 0 0 (AW ad 42 s.heap.size)) (F0 m 0 ls []) := by
    intro H locs hP hS
    unfold w_X0_isTurnOf at hw
    refine lv_aload_n hx hb dX0_isTurnOf_0 rfl (lv_at hl 0 rfl) ?_
    refine gC_X0_origin F hK hP (hts _ mw_2) dX0_isTurnOf_1 ?_
    refine lv_iload_n hx hb dX0_isTurnOf_4 rfl (lv_at hl 1 rfl) ?_
    obtain ⟨i_2, hw⟩ := hw
    refine lC_X0_origin F hK hP i_2 dX0_isTurnOf_5 ?_
    refine lv_iload_n hx hb dX0_isTurnOf_6 rfl (lv_at hl 2 rfl) ?_
    refine lv_icmp_ne (tgt := 14) hx hb dX0_isTurnOf_7 (by decide) (fun c_1 => ?_) (fun c_1 => ?_)
    · have hw := hw.1 c_1
      refine lv_iconst (v := 0) hx hb dX0_isTurnOf_14 (by decide) ?_
      exact rtZ F hr hlocks hK hw (Or.inl rfl) hP hS dX0_isTurnOf_15
    · have hw := hw.2 c_1
      refine lv_iconst (v := 1) hx hb dX0_isTurnOf_10 (by decide) ?_
      refine lv_goto (tgt := 15) hx hb dX0_isTurnOf_11 (by decide) ?_
      exact rtZ F hr hlocks hK hw (Or.inr rfl) hP hS dX0_isTurnOf_15
  exact key s.heap [] hP hS

abbrev rm_X0_outerOf : Room := { frames := 0, cells := 0, slots := 0, locals := 0 }
set_option maxHeartbeats 4000000 in
set_option maxRecDepth 100000 in
theorem c_X0_outerOf (l : Launch) (D : va_G) (ad : Nat → Nat) (cI cJ : ClassId) (hap : apart ad 42) (sz : Nat) (σ : St) (a1 : Int32) (K : Int32 → St → Prop) (hw : w_X0_outerOf σ a1 K) : Met l yX0_outerOf wU_X0_outerOf rm_X0_outerOf (va_Pc [.ref (ad 4), .int a1] (fun U => U.heap.size = sz ∧ inW D (wdC ad cI cJ) [(cI, .int), (cJ, .long)] σ U)) (va_Qi K (inW D (wdC ad cI cJ) [(cI, .int), (cJ, .long)]) (AW ad 42 sz)) 0 0 (AW ad 42 sz) := by
  refine Met.ofW (cc := cX0_outerOf) (maxL := 2) (ret := (some .int)) (by decide) rfl ?_
  intro p e s m args below meth c s₁ B hml hv
  obtain ⟨rfl, hsz, ⟨hP, hK⟩⟩ := hv
  have F : CallFix p m c cX0_outerOf 2 s ([.ref (ad 4), .int a1] : List Value).toArray lw_U RX0 := ⟨B.exec, B.bytes, hml, findClass_of_methodNamed B.named, fun w h => atoms_spec (ws := wU_X0_outerOf) B.pre w (List.mem_cons_of_mem _ h)⟩
  have hx := F.1
  have hb := F.2.1
  have hown := F.2.2.2.1
  have hts := F.2.2.2.2
  have hr := B.returns
  have hlocks := B.notSynchronized
  subst hsz
  have hDs : ∀ σ, va_D (AW ad 42 s.heap.size) ((wdC ad cI cJ) σ) := fun σ => wdC_D hap σ
  have hS : va_S (AW ad 42 s.heap.size) s.heap s.heap [] := va_S.rf
  have hl := lv_entry ([.ref (ad 4), .int a1]) (n := 2) (Nat.le_of_ble_eq_true rfl)
  rw [lg_entry_eq]
  generalize (lg_sl ([.ref (ad 4), .int a1]) ++ List.replicate (2 - (lg_sl ([.ref (ad 4), .int a1])).length) Slot.unset).toArray = ls at hl ⊢
  have hl : lv_has ls 2 [(0, .ref (ad 4)), (1, .int a1)] := hl
  have key : ∀ (H : Heap) (locs : List Loc), va_P D vwCl ((wdC ad cI cJ) σ) H → va_S (AW ad 42 s.heap.size) s.heap H locs → W p l e (headSpec wU_X0_outerOf rm_X0_outerOf).room s m ([.ref (ad 4), .int a1] : List Value).toArray below meth c H locs 0 0 (MQ below (va_Qi K (inW D (wdC ad cI cJ) [(cI, .int), (cJ, .long)]) (AW ad 42 s.heap.size)) ([.ref (ad 4), .int a1] : List Value).toArray s 0 0 (AW ad 42 s.heap.size)) (F0 m 0 ls []) := by
    intro H locs hP hS
    unfold w_X0_outerOf at hw
    refine lv_aload_n hx hb dX0_outerOf_0 rfl (lv_at hl 0 rfl) ?_
    refine gC_X0_outer F hK hP (hts _ mw_3) dX0_outerOf_1 ?_
    refine lv_iload_n hx hb dX0_outerOf_4 rfl (lv_at hl 1 rfl) ?_
    obtain ⟨i_1, hw⟩ := hw
    refine lC_X0_outer F hK hP i_1 dX0_outerOf_5 ?_
    exact rtI F hr hlocks hK hw hP hS dX0_outerOf_6
  exact key s.heap [] hP hS

abbrev rm_X0_callerOf : Room := { frames := 0, cells := 0, slots := 0, locals := 0 }
set_option maxHeartbeats 4000000 in
set_option maxRecDepth 100000 in
theorem c_X0_callerOf (l : Launch) (D : va_G) (ad : Nat → Nat) (cI cJ : ClassId) (hap : apart ad 42) (sz : Nat) (σ : St) (a1 : Int32) (K : Int32 → St → Prop) (hw : w_X0_callerOf σ a1 K) : Met l yX0_callerOf wU_X0_callerOf rm_X0_callerOf (va_Pc [.ref (ad 4), .int a1] (fun U => U.heap.size = sz ∧ inW D (wdC ad cI cJ) [(cI, .int), (cJ, .long)] σ U)) (va_Qi K (inW D (wdC ad cI cJ) [(cI, .int), (cJ, .long)]) (AW ad 42 sz)) 0 0 (AW ad 42 sz) := by
  refine Met.ofW (cc := cX0_callerOf) (maxL := 2) (ret := (some .int)) (by decide) rfl ?_
  intro p e s m args below meth c s₁ B hml hv
  obtain ⟨rfl, hsz, ⟨hP, hK⟩⟩ := hv
  have F : CallFix p m c cX0_callerOf 2 s ([.ref (ad 4), .int a1] : List Value).toArray lw_U RX0 := ⟨B.exec, B.bytes, hml, findClass_of_methodNamed B.named, fun w h => atoms_spec (ws := wU_X0_callerOf) B.pre w (List.mem_cons_of_mem _ h)⟩
  have hx := F.1
  have hb := F.2.1
  have hown := F.2.2.2.1
  have hts := F.2.2.2.2
  have hr := B.returns
  have hlocks := B.notSynchronized
  subst hsz
  have hDs : ∀ σ, va_D (AW ad 42 s.heap.size) ((wdC ad cI cJ) σ) := fun σ => wdC_D hap σ
  have hS : va_S (AW ad 42 s.heap.size) s.heap s.heap [] := va_S.rf
  have hl := lv_entry ([.ref (ad 4), .int a1]) (n := 2) (Nat.le_of_ble_eq_true rfl)
  rw [lg_entry_eq]
  generalize (lg_sl ([.ref (ad 4), .int a1]) ++ List.replicate (2 - (lg_sl ([.ref (ad 4), .int a1])).length) Slot.unset).toArray = ls at hl ⊢
  have hl : lv_has ls 2 [(0, .ref (ad 4)), (1, .int a1)] := hl
  have key : ∀ (H : Heap) (locs : List Loc), va_P D vwCl ((wdC ad cI cJ) σ) H → va_S (AW ad 42 s.heap.size) s.heap H locs → W p l e (headSpec wU_X0_callerOf rm_X0_callerOf).room s m ([.ref (ad 4), .int a1] : List Value).toArray below meth c H locs 0 0 (MQ below (va_Qi K (inW D (wdC ad cI cJ) [(cI, .int), (cJ, .long)]) (AW ad 42 s.heap.size)) ([.ref (ad 4), .int a1] : List Value).toArray s 0 0 (AW ad 42 s.heap.size)) (F0 m 0 ls []) := by
    intro H locs hP hS
    unfold w_X0_callerOf at hw
    refine lv_aload_n hx hb dX0_callerOf_0 rfl (lv_at hl 0 rfl) ?_
    refine gC_X0_origin F hK hP (hts _ mw_2) dX0_callerOf_1 ?_
    refine lv_iload_n hx hb dX0_callerOf_4 rfl (lv_at hl 1 rfl) ?_
    obtain ⟨i_3, hw⟩ := hw
    refine lC_X0_origin F hK hP i_3 dX0_callerOf_5 ?_
    refine lv_bipush (v := 10) hx hb dX0_callerOf_6 (by decide) ?_
    refine lv_icmp_lt (tgt := 23) hx hb dX0_callerOf_8 (by decide) (fun c_2 => ?_) (fun c_2 => ?_)
    · have hw := hw.1 c_2
      refine lv_iconst (v := (-1)) hx hb dX0_callerOf_23 (by decide) ?_
      exact rtI F hr hlocks hK hw hP hS dX0_callerOf_24
    · have hw := hw.2 c_2
      refine lv_aload_n hx hb dX0_callerOf_11 rfl (lv_at hl 0 rfl) ?_
      refine gC_X0_origin F hK hP (hts _ mw_2) dX0_callerOf_12 ?_
      refine lv_iload_n hx hb dX0_callerOf_15 rfl (lv_at hl 1 rfl) ?_
      obtain ⟨i_1, hw⟩ := hw
      refine lC_X0_origin F hK hP i_1 dX0_callerOf_16 ?_
      refine lv_bipush (v := 10) hx hb dX0_callerOf_17 (by decide) ?_
      refine lv_isub hx hb dX0_callerOf_19 ?_
      refine lv_goto (tgt := 24) hx hb dX0_callerOf_20 (by decide) ?_
      exact rtI F hr hlocks hK hw hP hS dX0_callerOf_24
  exact key s.heap [] hP hS

abbrev rm_X1_reset : Room := { frames := 1, cells := 0, slots := 0, locals := 23 }
set_option maxHeartbeats 4000000 in
set_option maxRecDepth 100000 in
theorem c_X1_reset (l : Launch) (D : va_G) (ad : Nat → Nat) (cI cJ : ClassId) (hap : apart ad 42) (sz : Nat) (σ : St) (K : St → Prop) (hw : w_X1_reset σ K) : Met l yX1_reset wU_X1_reset rm_X1_reset (va_Pc [.ref (ad 5)] (fun U => U.heap.size = sz ∧ inW D (wdC ad cI cJ) [(cI, .int), (cJ, .long)] σ U)) (va_Qv K (inW D (wdC ad cI cJ) [(cI, .int), (cJ, .long)]) (AW ad 42 sz)) 0 0 (AW ad 42 sz) := by
  refine Met.ofW (cc := cX1_reset) (maxL := 1) (ret := none) (by decide) rfl ?_
  intro p e s m args below meth c s₁ B hml hv
  obtain ⟨rfl, hsz, ⟨hP, hK⟩⟩ := hv
  have F : CallFix p m c cX1_reset 1 s ([.ref (ad 5)] : List Value).toArray lw_U RX1 := ⟨B.exec, B.bytes, hml, findClass_of_methodNamed B.named, fun w h => atoms_spec (ws := wU_X1_reset) B.pre w (List.mem_cons_of_mem _ h)⟩
  have hx := F.1
  have hb := F.2.1
  have hown := F.2.2.2.1
  have hts := F.2.2.2.2
  have hr := B.returns
  have hlocks := B.notSynchronized
  subst hsz
  have hDs : ∀ σ, va_D (AW ad 42 s.heap.size) ((wdC ad cI cJ) σ) := fun σ => wdC_D hap σ
  have hS : va_S (AW ad 42 s.heap.size) s.heap s.heap [] := va_S.rf
  have hl := lv_entry ([.ref (ad 5)]) (n := 1) (Nat.le_of_ble_eq_true rfl)
  rw [lg_entry_eq]
  generalize (lg_sl ([.ref (ad 5)]) ++ List.replicate (1 - (lg_sl ([.ref (ad 5)])).length) Slot.unset).toArray = ls at hl ⊢
  have hl : lv_has ls 1 [(0, .ref (ad 5))] := hl
  have key : ∀ (H : Heap) (locs : List Loc), va_P D vwCl ((wdC ad cI cJ) σ) H → va_S (AW ad 42 s.heap.size) s.heap H locs → W p l e (headSpec wU_X1_reset rm_X1_reset).room s m ([.ref (ad 5)] : List Value).toArray below meth c H locs 0 0 (MQ below (va_Qv K (inW D (wdC ad cI cJ) [(cI, .int), (cJ, .long)]) (AW ad 42 s.heap.size)) ([.ref (ad 5)] : List Value).toArray s 0 0 (AW ad 42 s.heap.size)) (F0 m 0 ls []) := by
    intro H locs hP hS
    unfold w_X1_reset at hw
    refine lv_aload_n hx hb dX1_reset_0 rfl (lv_at hl 0 rfl) ?_
    refine lv_iconst (v := 0) hx hb dX1_reset_1 (by decide) ?_
    refine pC_X1_left F hK hP hDs hS (hts _ mw_15) dX1_reset_2 (fun H locs hP hS => ?_)
    refine lv_aload_n hx hb dX1_reset_5 rfl (lv_at hl 0 rfl) ?_
    refine lv_iconst (v := 0) hx hb dX1_reset_6 (by decide) ?_
    refine pC_X1_count F hK hP hDs hS (hts _ mw_16) dX1_reset_7 (fun H locs hP hS => ?_)
    refine lv_aload_n hx hb dX1_reset_10 rfl (lv_at hl 0 rfl) ?_
    refine gC_X1_firstPair F hK hP (hts _ mw_17) dX1_reset_11 ?_
    refine lv_iconst (v := (-1)) hx hb dX1_reset_14 (by decide) ?_
    refine fillI (rest := []) F hK hP (hDs _) hS 39 rfl (Nat.le_of_ble_eq_true rfl) (va_cwS 2 hts gU_X1_38 rfl rfl rfl (by decide +kernel) ⟨Nat.le_of_ble_eq_true rfl, Nat.le_of_ble_eq_true rfl⟩) hl.1 rfl (Nat.le_of_ble_eq_true rfl) dX1_reset_15 ⟨Nat.zero_le _, Nat.zero_le _⟩ (fun q h => AW.new h) (fun H locs hP hS => ?_)
    have hP : va_P D vwCl ((wdC ad cI cJ) (fA (sS (sS σ 15 0) 16 0) 27 (jfill (gA (sS (sS σ 15 0) 16 0) 27) 600 (-1)))) H := hP
    exact rtV F hr hlocks hK hw hP hS dX1_reset_18
  exact key s.heap [] hP hS

abbrev rm_X1_find : Room := { frames := 0, cells := 0, slots := 0, locals := 0 }
set_option maxHeartbeats 4000000 in
set_option maxRecDepth 100000 in
theorem c_X1_find (l : Launch) (D : va_G) (ad : Nat → Nat) (cI cJ : ClassId) (hap : apart ad 42) (sz : Nat) (σ : St) (a1 : Int32) (a2 : Int32) (K : Int32 → St → Prop) (hw : w_X1_find σ a1 a2 K) : Met l yX1_find wU_X1_find rm_X1_find (va_Pc [.ref (ad 5), .int a1, .int a2] (fun U => U.heap.size = sz ∧ inW D (wdC ad cI cJ) [(cI, .int), (cJ, .long)] σ U)) (va_Qi K (inW D (wdC ad cI cJ) [(cI, .int), (cJ, .long)]) (AW ad 42 sz)) 0 0 (AW ad 42 sz) := by
  refine Met.ofW (cc := cX1_find) (maxL := 5) (ret := (some .int)) (by decide) rfl ?_
  intro p e s m args below meth c s₁ B hml hv
  obtain ⟨rfl, hsz, ⟨hP, hK⟩⟩ := hv
  have F : CallFix p m c cX1_find 5 s ([.ref (ad 5), .int a1, .int a2] : List Value).toArray lw_U RX1 := ⟨B.exec, B.bytes, hml, findClass_of_methodNamed B.named, fun w h => atoms_spec (ws := wU_X1_find) B.pre w (List.mem_cons_of_mem _ h)⟩
  have hx := F.1
  have hb := F.2.1
  have hown := F.2.2.2.1
  have hts := F.2.2.2.2
  have hr := B.returns
  have hlocks := B.notSynchronized
  subst hsz
  have hDs : ∀ σ, va_D (AW ad 42 s.heap.size) ((wdC ad cI cJ) σ) := fun σ => wdC_D hap σ
  have hS : va_S (AW ad 42 s.heap.size) s.heap s.heap [] := va_S.rf
  have lab_10 : ∀ (n : Nat), ∀ (σ : St) (x1 : Int32) (x3 : Int32) (x4 : Int32) (H : Heap) (locs : List Loc) (ls : Array Slot), w_X1_find_10 K n σ x1 x3 x4 → va_P D vwCl ((wdC ad cI cJ) σ) H → va_S (AW ad 42 s.heap.size) s.heap H locs → lv_has ls 5 [(0, .ref (ad 5)), (1, .int x1), (3, .int x3), (4, .int x4)] → W p l e (headSpec wU_X1_find rm_X1_find).room s m ([.ref (ad 5), .int a1, .int a2] : List Value).toArray below meth c H locs 0 0 (MQ below (va_Qi K (inW D (wdC ad cI cJ) [(cI, .int), (cJ, .long)]) (AW ad 42 s.heap.size)) ([.ref (ad 5), .int a1, .int a2] : List Value).toArray s 0 0 (AW ad 42 s.heap.size)) (F0 m 10 ls []) := by
    intro n
    induction n with
    | zero =>
      intro σ x1 x3 x4 H locs ls hw
      exact hw.elim
    | succ n hL10 =>
      intro σ x1 x3 x4 H locs ls hw hP hS hl
      have hw : b_X1_find_10 (w_X1_find_10 K n) K σ x1 x3 x4 := hw
      unfold b_X1_find_10 at hw
      generalize w_X1_find_10 K n = L10 at hw hL10
      refine lv_iload hx hb dX1_find_10 (lv_at hl 3 rfl) ?_
      refine lv_bipush (v := 80) hx hb dX1_find_12 (by decide) ?_
      refine lv_icmp_ge (tgt := 47) hx hb dX1_find_14 (by decide) (fun c_5 => ?_) (fun c_5 => ?_)
      · have hw := hw.1 c_5
        refine lv_iconst (v := (-1)) hx hb dX1_find_47 (by decide) ?_
        exact rtI F hr hlocks hK hw hP hS dX1_find_48
      · have hw := hw.2 c_5
        refine lv_iload_n hx hb dX1_find_17 rfl (lv_at hl 2 rfl) ?_
        refine lv_iconst (v := (-1)) hx hb dX1_find_18 (by decide) ?_
        refine lv_icmp_eq (tgt := 47) hx hb dX1_find_19 (by decide) (fun c_4 => ?_) (fun c_4 => ?_)
        · have hw := hw.1 c_4
          refine lv_iconst (v := (-1)) hx hb dX1_find_47 (by decide) ?_
          exact rtI F hr hlocks hK hw hP hS dX1_find_48
        · have hw := hw.2 c_4
          refine lv_aload_n hx hb dX1_find_22 rfl (lv_at hl 0 rfl) ?_
          refine gC_X1_actOf F hK hP (hts _ mw_22) dX1_find_23 ?_
          refine lv_iload_n hx hb dX1_find_26 rfl (lv_at hl 2 rfl) ?_
          obtain ⟨i_3, hw⟩ := hw
          refine lC_X1_actOf F hK hP i_3 dX1_find_27 ?_
          refine lv_iload_n hx hb dX1_find_28 rfl (lv_at hl 1 rfl) ?_
          refine lv_icmp_ne (tgt := 34) hx hb dX1_find_29 (by decide) (fun c_2 => ?_) (fun c_2 => ?_)
          · have hw := hw.1 c_2
            refine lv_aload_n hx hb dX1_find_34 rfl (lv_at hl 0 rfl) ?_
            refine gC_X1_nextPair F hK hP (hts _ mw_23) dX1_find_35 ?_
            refine lv_iload_n hx hb dX1_find_38 rfl (lv_at hl 2 rfl) ?_
            obtain ⟨i_1, hw⟩ := hw
            refine lC_X1_nextPair F hK hP i_1 dX1_find_39 ?_
            refine lv_istore_n (lv' := [(3, .int (gA σ 28 (x3).toNatClampNeg)), (0, .ref (ad 5)), (1, .int x1), (4, .int x4)]) hx hb dX1_find_40 rfl hl (by decide) rfl (fun ls hl => ?_)
            refine lv_iinc (v := (x4 + 1)) (lv' := [(4, .int (x4 + 1)), (3, .int (gA σ 28 (x3).toNatClampNeg)), (0, .ref (ad 5)), (1, .int x1)]) hx hb dX1_find_41 hl (k := 3) rfl rfl (by decide) rfl (fun ls hl => ?_)
            refine lv_goto (tgt := 10) hx hb dX1_find_44 (by decide) ?_
            exact hL10 _ _ _ _ _ _ _ hw hP hS (lv_sub hl [2, 3, 1, 0] rfl)
          · have hw := hw.2 c_2
            refine lv_iload_n hx hb dX1_find_32 rfl (lv_at hl 2 rfl) ?_
            exact rtI F hr hlocks hK hw hP hS dX1_find_33
  have hl := lv_entry ([.ref (ad 5), .int a1, .int a2]) (n := 5) (Nat.le_of_ble_eq_true rfl)
  rw [lg_entry_eq]
  generalize (lg_sl ([.ref (ad 5), .int a1, .int a2]) ++ List.replicate (5 - (lg_sl ([.ref (ad 5), .int a1, .int a2])).length) Slot.unset).toArray = ls at hl ⊢
  have hl : lv_has ls 5 [(0, .ref (ad 5)), (1, .int a1), (2, .int a2)] := hl
  have key : ∀ (H : Heap) (locs : List Loc), va_P D vwCl ((wdC ad cI cJ) σ) H → va_S (AW ad 42 s.heap.size) s.heap H locs → W p l e (headSpec wU_X1_find rm_X1_find).room s m ([.ref (ad 5), .int a1, .int a2] : List Value).toArray below meth c H locs 0 0 (MQ below (va_Qi K (inW D (wdC ad cI cJ) [(cI, .int), (cJ, .long)]) (AW ad 42 s.heap.size)) ([.ref (ad 5), .int a1, .int a2] : List Value).toArray s 0 0 (AW ad 42 s.heap.size)) (F0 m 0 ls []) := by
    intro H locs hP hS
    unfold w_X1_find at hw
    refine lv_aload_n hx hb dX1_find_0 rfl (lv_at hl 0 rfl) ?_
    refine gC_X1_firstPair F hK hP (hts _ mw_17) dX1_find_1 ?_
    refine lv_iload_n hx hb dX1_find_4 rfl (lv_at hl 2 rfl) ?_
    obtain ⟨i_7, hw⟩ := hw
    refine lC_X1_firstPair F hK hP i_7 dX1_find_5 ?_
    refine lv_istore_n (lv' := [(3, .int (gA σ 27 (a2).toNatClampNeg)), (0, .ref (ad 5)), (1, .int a1), (2, .int a2)]) hx hb dX1_find_6 rfl hl (by decide) rfl (fun ls hl => ?_)
    refine lv_iconst (v := 0) hx hb dX1_find_7 (by decide) ?_
    refine lv_istore (lv' := [(4, .int 0), (3, .int (gA σ 27 (a2).toNatClampNeg)), (0, .ref (ad 5)), (1, .int a1), (2, .int a2)]) hx hb dX1_find_8 hl (by decide) rfl (fun ls hl => ?_)
    obtain ⟨n_6, hw⟩ := hw
    exact lab_10 n_6 _ _ _ _ _ _ _ hw hP hS (lv_sub hl [2, 3, 1, 0] rfl)
  exact key s.heap [] hP hS

abbrev rm_X1_add : Room := { frames := 0, cells := 0, slots := 0, locals := 0 }
set_option maxHeartbeats 4000000 in
set_option maxRecDepth 100000 in
theorem c_X1_add (l : Launch) (D : va_G) (ad : Nat → Nat) (cI cJ : ClassId) (hap : apart ad 42) (sz : Nat) (σ : St) (a1 : Int32) (a2 : Int32) (K : Int32 → St → Prop) (hw : w_X1_add σ a1 a2 K) : Met l yX1_add wU_X1_add rm_X1_add (va_Pc [.ref (ad 5), .int a1, .int a2] (fun U => U.heap.size = sz ∧ inW D (wdC ad cI cJ) [(cI, .int), (cJ, .long)] σ U)) (va_Qi K (inW D (wdC ad cI cJ) [(cI, .int), (cJ, .long)]) (AW ad 42 sz)) 0 0 (AW ad 42 sz) := by
  refine Met.ofW (cc := cX1_add) (maxL := 4) (ret := (some .int)) (by decide) rfl ?_
  intro p e s m args below meth c s₁ B hml hv
  obtain ⟨rfl, hsz, ⟨hP, hK⟩⟩ := hv
  have F : CallFix p m c cX1_add 4 s ([.ref (ad 5), .int a1, .int a2] : List Value).toArray lw_U RX1 := ⟨B.exec, B.bytes, hml, findClass_of_methodNamed B.named, fun w h => atoms_spec (ws := wU_X1_add) B.pre w (List.mem_cons_of_mem _ h)⟩
  have hx := F.1
  have hb := F.2.1
  have hown := F.2.2.2.1
  have hts := F.2.2.2.2
  have hr := B.returns
  have hlocks := B.notSynchronized
  subst hsz
  have hDs : ∀ σ, va_D (AW ad 42 s.heap.size) ((wdC ad cI cJ) σ) := fun σ => wdC_D hap σ
  have hS : va_S (AW ad 42 s.heap.size) s.heap s.heap [] := va_S.rf
  have hl := lv_entry ([.ref (ad 5), .int a1, .int a2]) (n := 4) (Nat.le_of_ble_eq_true rfl)
  rw [lg_entry_eq]
  generalize (lg_sl ([.ref (ad 5), .int a1, .int a2]) ++ List.replicate (4 - (lg_sl ([.ref (ad 5), .int a1, .int a2])).length) Slot.unset).toArray = ls at hl ⊢
  have hl : lv_has ls 4 [(0, .ref (ad 5)), (1, .int a1), (2, .int a2)] := hl
  have key : ∀ (H : Heap) (locs : List Loc), va_P D vwCl ((wdC ad cI cJ) σ) H → va_S (AW ad 42 s.heap.size) s.heap H locs → W p l e (headSpec wU_X1_add rm_X1_add).room s m ([.ref (ad 5), .int a1, .int a2] : List Value).toArray below meth c H locs 0 0 (MQ below (va_Qi K (inW D (wdC ad cI cJ) [(cI, .int), (cJ, .long)]) (AW ad 42 s.heap.size)) ([.ref (ad 5), .int a1, .int a2] : List Value).toArray s 0 0 (AW ad 42 s.heap.size)) (F0 m 0 ls []) := by
    intro H locs hP hS
    unfold w_X1_add at hw
    refine lv_aload_n hx hb dX1_add_0 rfl (lv_at hl 0 rfl) ?_
    refine gC_X1_count F hK hP (hts _ mw_16) dX1_add_1 ?_
    refine lv_sipush (v := 3000) hx hb dX1_add_4 (by decide) ?_
    refine lv_icmp_lt (tgt := 12) hx hb dX1_add_7 (by decide) (fun c_7 => ?_) (fun c_7 => ?_)
    · have hw := hw.1 c_7
      refine lv_aload_n hx hb dX1_add_12 rfl (lv_at hl 0 rfl) ?_
      refine gC_X1_count F hK hP (hts _ mw_16) dX1_add_13 ?_
      refine lv_istore_n (lv' := [(3, .int (gS σ 16)), (0, .ref (ad 5)), (1, .int a1), (2, .int a2)]) hx hb dX1_add_16 rfl hl (by decide) rfl (fun ls hl => ?_)
      refine lv_aload_n hx hb dX1_add_17 rfl (lv_at hl 1 rfl) ?_
      refine lv_dup hx hb dX1_add_18 rfl ?_
      refine gC_X1_count F hK hP (hts _ mw_16) dX1_add_19 ?_
      refine lv_iconst (v := 1) hx hb dX1_add_22 (by decide) ?_
      refine lv_iadd hx hb dX1_add_23 ?_
      refine pC_X1_count F hK hP hDs hS (hts _ mw_16) dX1_add_24 (fun H locs hP hS => ?_)
      refine lv_aload_n hx hb dX1_add_27 rfl (lv_at hl 1 rfl) ?_
      refine gC_X1_actOf F hK hP (hts _ mw_22) dX1_add_28 ?_
      refine lv_iload_n hx hb dX1_add_31 rfl (lv_at hl 0 rfl) ?_
      refine lv_iload_n hx hb dX1_add_32 rfl (lv_at hl 2 rfl) ?_
      obtain ⟨i_6, hw⟩ := hw
      refine sC_X1_actOf F hK hP hDs hS i_6 dX1_add_33 (fun H locs hP hS => ?_)
      refine lv_aload_n hx hb dX1_add_34 rfl (lv_at hl 1 rfl) ?_
      refine gC_X1_colourOf F hK hP (hts _ mw_24) dX1_add_35 ?_
      refine lv_iload_n hx hb dX1_add_38 rfl (lv_at hl 0 rfl) ?_
      refine lv_iload_n hx hb dX1_add_39 rfl (lv_at hl 3 rfl) ?_
      obtain ⟨i_5, hw⟩ := hw
      refine sC_X1_colourOf F hK hP hDs hS i_5 dX1_add_40 (fun H locs hP hS => ?_)
      refine lv_aload_n hx hb dX1_add_41 rfl (lv_at hl 1 rfl) ?_
      refine gC_X1_had F hK hP (hts _ mw_25) dX1_add_42 ?_
      refine lv_iload_n hx hb dX1_add_45 rfl (lv_at hl 0 rfl) ?_
      refine lv_iconst (v := 0) hx hb dX1_add_46 (by decide) ?_
      obtain ⟨i_4, hw⟩ := hw
      refine sC_X1_had F hK hP hDs hS i_4 dX1_add_47 (fun H locs hP hS => ?_)
      refine lv_aload_n hx hb dX1_add_48 rfl (lv_at hl 1 rfl) ?_
      refine gC_X1_nextPair F hK hP (hts _ mw_23) dX1_add_49 ?_
      refine lv_iload_n hx hb dX1_add_52 rfl (lv_at hl 0 rfl) ?_
      refine lv_aload_n hx hb dX1_add_53 rfl (lv_at hl 1 rfl) ?_
      refine gC_X1_firstPair F hK hP (hts _ mw_17) dX1_add_54 ?_
      refine lv_iload_n hx hb dX1_add_57 rfl (lv_at hl 3 rfl) ?_
      obtain ⟨i_3, hw⟩ := hw
      refine lC_X1_firstPair F hK hP i_3 dX1_add_58 ?_
      refine jvi (y := (gA σ 27 (a2).toNatClampNeg)) (by simp only [gS_sS, gS_sA, gS_sL, gS_fA, gS_fL, gA_sS, gA_sA, gA_sL, gA_fA, gA_fL, gL_sS, gL_sA, gL_sL, gL_fA, gL_fL, reduceIte, Nat.reduceEqDiff]) ?_
      obtain ⟨i_2, hw⟩ := hw
      refine sC_X1_nextPair F hK hP hDs hS i_2 dX1_add_59 (fun H locs hP hS => ?_)
      refine lv_aload_n hx hb dX1_add_60 rfl (lv_at hl 1 rfl) ?_
      refine gC_X1_firstPair F hK hP (hts _ mw_17) dX1_add_61 ?_
      refine lv_iload_n hx hb dX1_add_64 rfl (lv_at hl 3 rfl) ?_
      refine lv_iload_n hx hb dX1_add_65 rfl (lv_at hl 0 rfl) ?_
      obtain ⟨i_1, hw⟩ := hw
      refine sC_X1_firstPair F hK hP hDs hS i_1 dX1_add_66 (fun H locs hP hS => ?_)
      refine lv_iload_n hx hb dX1_add_67 rfl (lv_at hl 0 rfl) ?_
      exact rtI F hr hlocks hK hw hP hS dX1_add_68
    · have hw := hw.2 c_7
      refine lv_iconst (v := (-1)) hx hb dX1_add_10 (by decide) ?_
      exact rtI F hr hlocks hK hw hP hS dX1_add_11
  exact key s.heap [] hP hS

abbrev rm_X1_hadToken : Room := { frames := 0, cells := 0, slots := 0, locals := 0 }
set_option maxHeartbeats 4000000 in
set_option maxRecDepth 100000 in
theorem c_X1_hadToken (l : Launch) (D : va_G) (ad : Nat → Nat) (cI cJ : ClassId) (hap : apart ad 42) (sz : Nat) (σ : St) (a1 : Int32) (a2 : Int32) (K : Int32 → St → Prop) (hw : w_X1_hadToken σ a1 a2 K) : Met l yX1_hadToken wU_X1_hadToken rm_X1_hadToken (va_Pc [.ref (ad 5), .int a1, .int a2] (fun U => U.heap.size = sz ∧ inW D (wdC ad cI cJ) [(cI, .int), (cJ, .long)] σ U)) (va_Qi (fun r u => zb r ∧ K r u) (inW D (wdC ad cI cJ) [(cI, .int), (cJ, .long)]) (AW ad 42 sz)) 0 0 (AW ad 42 sz) := by
  refine Met.ofW (cc := cX1_hadToken) (maxL := 3) (ret := (some .boolean)) (by decide) rfl ?_
  intro p e s m args below meth c s₁ B hml hv
  obtain ⟨rfl, hsz, ⟨hP, hK⟩⟩ := hv
  have F : CallFix p m c cX1_hadToken 3 s ([.ref (ad 5), .int a1, .int a2] : List Value).toArray lw_U RX1 := ⟨B.exec, B.bytes, hml, findClass_of_methodNamed B.named, fun w h => atoms_spec (ws := wU_X1_hadToken) B.pre w (List.mem_cons_of_mem _ h)⟩
  have hx := F.1
  have hb := F.2.1
  have hown := F.2.2.2.1
  have hts := F.2.2.2.2
  have hr := B.returns
  have hlocks := B.notSynchronized
  subst hsz
  have hDs : ∀ σ, va_D (AW ad 42 s.heap.size) ((wdC ad cI cJ) σ) := fun σ => wdC_D hap σ
  have hS : va_S (AW ad 42 s.heap.size) s.heap s.heap [] := va_S.rf
  have hl := lv_entry ([.ref (ad 5), .int a1, .int a2]) (n := 3) (Nat.le_of_ble_eq_true rfl)
  rw [lg_entry_eq]
  generalize (lg_sl ([.ref (ad 5), .int a1, .int a2]) ++ List.replicate (3 - (lg_sl ([.ref (ad 5), .int a1, .int a2])).length) Slot.unset).toArray = ls at hl ⊢
  have hl : lv_has ls 3 [(0, .ref (ad 5)), (1, .int a1), (2, .int a2)] := hl
  have key : ∀ (H : Heap) (locs : List Loc), va_P D vwCl ((wdC ad cI cJ) σ) H → va_S (AW ad 42 s.heap.size) s.heap H locs → W p l e (headSpec wU_X1_hadToken rm_X1_hadToken).room s m ([.ref (ad 5), .int a1, .int a2] : List Value).toArray below meth c H locs 0 0 (MQ below (va_Qi (fun r u => zb r ∧ K r u) (inW D (wdC ad cI cJ) [(cI, .int), (cJ, .long)]) (AW ad 42 s.heap.size)) ([.ref (ad 5), .int a1, .int a2] : List Value).toArray s 0 0 (AW ad 42 s.heap.size)) (F0 m 0 ls []) := by
    intro H locs hP hS
    unfold w_X1_hadToken at hw
    refine lv_aload_n hx hb dX1_hadToken_0 rfl (lv_at hl 0 rfl) ?_
    refine gC_X1_had F hK hP (hts _ mw_25) dX1_hadToken_1 ?_
    refine lv_iload_n hx hb dX1_hadToken_4 rfl (lv_at hl 1 rfl) ?_
    obtain ⟨i_2, hw⟩ := hw
    refine lC_X1_had F hK hP i_2 dX1_hadToken_5 ?_
    refine lv_iload_n hx hb dX1_hadToken_6 rfl (lv_at hl 2 rfl) ?_
    refine lv_ishr hx hb dX1_hadToken_7 ?_
    refine lv_iconst (v := 1) hx hb dX1_hadToken_8 (by decide) ?_
    refine lv_iand hx hb dX1_hadToken_9 ?_
    refine lv_iconst (v := 1) hx hb dX1_hadToken_10 (by decide) ?_
    refine lv_icmp_ne (tgt := 18) hx hb dX1_hadToken_11 (by decide) (fun c_1 => ?_) (fun c_1 => ?_)
    · have hw := hw.1 c_1
      refine lv_iconst (v := 0) hx hb dX1_hadToken_18 (by decide) ?_
      exact rtZ F hr hlocks hK hw (Or.inl rfl) hP hS dX1_hadToken_19
    · have hw := hw.2 c_1
      refine lv_iconst (v := 1) hx hb dX1_hadToken_14 (by decide) ?_
      refine lv_goto (tgt := 19) hx hb dX1_hadToken_15 (by decide) ?_
      exact rtZ F hr hlocks hK hw (Or.inr rfl) hP hS dX1_hadToken_19
  exact key s.heap [] hP hS

abbrev rm_X1_put : Room := { frames := 0, cells := 0, slots := 0, locals := 0 }
set_option maxHeartbeats 4000000 in
set_option maxRecDepth 100000 in
theorem c_X1_put (l : Launch) (D : va_G) (ad : Nat → Nat) (cI cJ : ClassId) (hap : apart ad 42) (sz : Nat) (σ : St) (a1 : Int32) (a2 : Int32) (a3 : Int64) (a4 : Int32) (K : Int32 → St → Prop) (hw : w_X1_put σ a1 a2 a3 a4 K) : Met l yX1_put wU_X1_put rm_X1_put (va_Pc [.ref (ad 5), .int a1, .int a2, .long a3, .int a4] (fun U => U.heap.size = sz ∧ inW D (wdC ad cI cJ) [(cI, .int), (cJ, .long)] σ U)) (va_Qi (fun r u => zb r ∧ K r u) (inW D (wdC ad cI cJ) [(cI, .int), (cJ, .long)]) (AW ad 42 sz)) 0 0 (AW ad 42 sz) := by
  refine Met.ofW (cc := cX1_put) (maxL := 7) (ret := (some .boolean)) (by decide) rfl ?_
  intro p e s m args below meth c s₁ B hml hv
  obtain ⟨rfl, hsz, ⟨hP, hK⟩⟩ := hv
  have F : CallFix p m c cX1_put 7 s ([.ref (ad 5), .int a1, .int a2, .long a3, .int a4] : List Value).toArray lw_U RX1 := ⟨B.exec, B.bytes, hml, findClass_of_methodNamed B.named, fun w h => atoms_spec (ws := wU_X1_put) B.pre w (List.mem_cons_of_mem _ h)⟩
  have hx := F.1
  have hb := F.2.1
  have hown := F.2.2.2.1
  have hts := F.2.2.2.2
  have hr := B.returns
  have hlocks := B.notSynchronized
  subst hsz
  have hDs : ∀ σ, va_D (AW ad 42 s.heap.size) ((wdC ad cI cJ) σ) := fun σ => wdC_D hap σ
  have hS : va_S (AW ad 42 s.heap.size) s.heap s.heap [] := va_S.rf
  have lab_53 : ∀ (σ : St) (x5 : Int32) (t0 : Int32) (H : Heap) (locs : List Loc) (ls : Array Slot), b_X1_put_53 K σ x5 t0 → va_P D vwCl ((wdC ad cI cJ) σ) H → va_S (AW ad 42 s.heap.size) s.heap H locs → lv_has ls 7 [(0, .ref (ad 5)), (5, .int x5)] → W p l e (headSpec wU_X1_put rm_X1_put).room s m ([.ref (ad 5), .int a1, .int a2, .long a3, .int a4] : List Value).toArray below meth c H locs 0 0 (MQ below (va_Qi (fun r u => zb r ∧ K r u) (inW D (wdC ad cI cJ) [(cI, .int), (cJ, .long)]) (AW ad 42 s.heap.size)) ([.ref (ad 5), .int a1, .int a2, .long a3, .int a4] : List Value).toArray s 0 0 (AW ad 42 s.heap.size)) (F0 m 53 ls [.int t0]) := by
    intro σ x5 t0 H locs ls hw hP hS hl
    unfold b_X1_put_53 at hw
    refine lv_istore (lv' := [(6, .int t0), (0, .ref (ad 5)), (5, .int x5)]) hx hb dX1_put_53 hl (by decide) rfl (fun ls hl => ?_)
    refine lv_iload hx hb dX1_put_55 (lv_at hl 0 rfl) ?_
    refine lv_if_eq (tgt := 71) hx hb dX1_put_57 (by decide) (fun c_1 => ?_) (fun c_1 => ?_)
    · have hw := hw.1 c_1
      refine lv_iload hx hb dX1_put_71 (lv_at hl 0 rfl) ?_
      exact rtZ F hr hlocks hK hw.2 hw.1 hP hS dX1_put_73
    · have hw := hw.2 c_1
      refine lv_aload_n hx hb dX1_put_60 rfl (lv_at hl 1 rfl) ?_
      refine lv_dup hx hb dX1_put_61 rfl ?_
      refine gC_X1_left F hK hP (hts _ mw_15) dX1_put_62 ?_
      refine lv_iload hx hb dX1_put_65 (lv_at hl 2 rfl) ?_
      refine lv_isub hx hb dX1_put_67 ?_
      refine pC_X1_left F hK hP hDs hS (hts _ mw_15) dX1_put_68 (fun H locs hP hS => ?_)
      refine lv_iload hx hb dX1_put_71 (lv_at hl 0 rfl) ?_
      exact rtZ F hr hlocks hK hw.2 hw.1 hP hS dX1_put_73
  have hl := lv_entry ([.ref (ad 5), .int a1, .int a2, .long a3, .int a4]) (n := 7) (Nat.le_of_ble_eq_true rfl)
  rw [lg_entry_eq]
  generalize (lg_sl ([.ref (ad 5), .int a1, .int a2, .long a3, .int a4]) ++ List.replicate (7 - (lg_sl ([.ref (ad 5), .int a1, .int a2, .long a3, .int a4])).length) Slot.unset).toArray = ls at hl ⊢
  have hl : lv_has ls 7 [(0, .ref (ad 5)), (1, .int a1), (2, .int a2), (3, .long a3), (5, .int a4)] := hl
  have key : ∀ (H : Heap) (locs : List Loc), va_P D vwCl ((wdC ad cI cJ) σ) H → va_S (AW ad 42 s.heap.size) s.heap H locs → W p l e (headSpec wU_X1_put rm_X1_put).room s m ([.ref (ad 5), .int a1, .int a2, .long a3, .int a4] : List Value).toArray below meth c H locs 0 0 (MQ below (va_Qi (fun r u => zb r ∧ K r u) (inW D (wdC ad cI cJ) [(cI, .int), (cJ, .long)]) (AW ad 42 s.heap.size)) ([.ref (ad 5), .int a1, .int a2, .long a3, .int a4] : List Value).toArray s 0 0 (AW ad 42 s.heap.size)) (F0 m 0 ls []) := by
    intro H locs hP hS
    unfold w_X1_put at hw
    refine lv_aload_n hx hb dX1_put_0 rfl (lv_at hl 0 rfl) ?_
    refine gC_X1_had F hK hP (hts _ mw_25) dX1_put_1 ?_
    refine lv_iload_n hx hb dX1_put_4 rfl (lv_at hl 1 rfl) ?_
    refine lv_dup2_11 hx hb dX1_put_5 rfl rfl ?_
    obtain ⟨i_6, hw⟩ := hw
    refine lC_X1_had F hK hP i_6 dX1_put_6 ?_
    refine lv_iconst (v := 1) hx hb dX1_put_7 (by decide) ?_
    refine lv_iload_n hx hb dX1_put_8 rfl (lv_at hl 2 rfl) ?_
    refine lv_ishl hx hb dX1_put_9 ?_
    refine lv_ior hx hb dX1_put_10 ?_
    obtain ⟨i_5, hw⟩ := hw
    refine sC_X1_had F hK hP hDs hS i_5 dX1_put_11 (fun H locs hP hS => ?_)
    refine lv_aload_n hx hb dX1_put_12 rfl (lv_at hl 0 rfl) ?_
    refine gC_X1_came F hK hP (hts _ mw_26) dX1_put_13 ?_
    refine lv_iconst (v := 3) hx hb dX1_put_16 (by decide) ?_
    refine lv_iload_n hx hb dX1_put_17 rfl (lv_at hl 1 rfl) ?_
    refine lv_imul hx hb dX1_put_18 ?_
    refine lv_iload_n hx hb dX1_put_19 rfl (lv_at hl 2 rfl) ?_
    refine lv_iadd hx hb dX1_put_20 ?_
    refine lv_lload_n hx hb dX1_put_21 rfl (lv_at hl 3 rfl) ?_
    obtain ⟨i_4, hw⟩ := hw
    refine sC_X1_came F hK hP hDs hS i_4 dX1_put_22 (fun H locs hP hS => ?_)
    refine lv_aload_n hx hb dX1_put_23 rfl (lv_at hl 0 rfl) ?_
    refine lv_dup hx hb dX1_put_24 rfl ?_
    refine gC_X1_left F hK hP (hts _ mw_15) dX1_put_25 ?_
    refine jvi (y := (gS σ 15)) (by simp only [gS_sS, gS_sA, gS_sL, gS_fA, gS_fL, gA_sS, gA_sA, gA_sL, gA_fA, gA_fL, gL_sS, gL_sA, gL_sL, gL_fA, gL_fL, reduceIte, Nat.reduceEqDiff]) ?_
    refine lv_iconst (v := 1) hx hb dX1_put_28 (by decide) ?_
    refine lv_iadd hx hb dX1_put_29 ?_
    refine pC_X1_left F hK hP hDs hS (hts _ mw_15) dX1_put_30 (fun H locs hP hS => ?_)
    refine lv_aload_n hx hb dX1_put_33 rfl (lv_at hl 0 rfl) ?_
    refine gC_X1_had F hK hP (hts _ mw_25) dX1_put_34 ?_
    refine lv_iload_n hx hb dX1_put_37 rfl (lv_at hl 1 rfl) ?_
    obtain ⟨i_3, hw⟩ := hw
    refine lC_X1_had F hK hP i_3 dX1_put_38 ?_
    refine jvi (y := (gA (sA σ 26 (a1).toNatClampNeg ((gA σ 26 (a1).toNatClampNeg) ||| (1 <<< (a2 &&& 31)))) 26 (a1).toNatClampNeg)) (by simp only [gS_sS, gS_sA, gS_sL, gS_fA, gS_fL, gA_sS, gA_sA, gA_sL, gA_fA, gA_fL, gL_sS, gL_sA, gL_sL, gL_fA, gL_fL, reduceIte, Nat.reduceEqDiff]) ?_
    refine lv_iconst (v := 1) hx hb dX1_put_39 (by decide) ?_
    refine lv_iload hx hb dX1_put_40 (lv_at hl 4 rfl) ?_
    refine lv_ishl hx hb dX1_put_42 ?_
    refine lv_iconst (v := 1) hx hb dX1_put_43 (by decide) ?_
    refine lv_isub hx hb dX1_put_44 ?_
    refine lv_icmp_ne (tgt := 52) hx hb dX1_put_45 (by decide) (fun c_2 => ?_) (fun c_2 => ?_)
    · have hw := hw.1 c_2
      refine lv_iconst (v := 0) hx hb dX1_put_52 (by decide) ?_
      exact lab_53 _ _ _ _ _ _ hw hP hS (lv_sub hl [0, 4] rfl)
    · have hw := hw.2 c_2
      refine lv_iconst (v := 1) hx hb dX1_put_48 (by decide) ?_
      refine lv_goto (tgt := 53) hx hb dX1_put_49 (by decide) ?_
      exact lab_53 _ _ _ _ _ _ hw hP hS (lv_sub hl [0, 4] rfl)
  exact key s.heap [] hP hS

abbrev rm_X1_cameTo : Room := { frames := 0, cells := 0, slots := 0, locals := 0 }
set_option maxHeartbeats 4000000 in
set_option maxRecDepth 100000 in
theorem c_X1_cameTo (l : Launch) (D : va_G) (ad : Nat → Nat) (cI cJ : ClassId) (hap : apart ad 42) (sz : Nat) (σ : St) (a1 : Int32) (a2 : Int32) (K : Int64 → St → Prop) (hw : w_X1_cameTo σ a1 a2 K) : Met l yX1_cameTo wU_X1_cameTo rm_X1_cameTo (va_Pc [.ref (ad 5), .int a1, .int a2] (fun U => U.heap.size = sz ∧ inW D (wdC ad cI cJ) [(cI, .int), (cJ, .long)] σ U)) (va_Ql K (inW D (wdC ad cI cJ) [(cI, .int), (cJ, .long)]) (AW ad 42 sz)) 0 0 (AW ad 42 sz) := by
  refine Met.ofW (cc := cX1_cameTo) (maxL := 3) (ret := (some .long)) (by decide) rfl ?_
  intro p e s m args below meth c s₁ B hml hv
  obtain ⟨rfl, hsz, ⟨hP, hK⟩⟩ := hv
  have F : CallFix p m c cX1_cameTo 3 s ([.ref (ad 5), .int a1, .int a2] : List Value).toArray lw_U RX1 := ⟨B.exec, B.bytes, hml, findClass_of_methodNamed B.named, fun w h => atoms_spec (ws := wU_X1_cameTo) B.pre w (List.mem_cons_of_mem _ h)⟩
  have hx := F.1
  have hb := F.2.1
  have hown := F.2.2.2.1
  have hts := F.2.2.2.2
  have hr := B.returns
  have hlocks := B.notSynchronized
  subst hsz
  have hDs : ∀ σ, va_D (AW ad 42 s.heap.size) ((wdC ad cI cJ) σ) := fun σ => wdC_D hap σ
  have hS : va_S (AW ad 42 s.heap.size) s.heap s.heap [] := va_S.rf
  have hl := lv_entry ([.ref (ad 5), .int a1, .int a2]) (n := 3) (Nat.le_of_ble_eq_true rfl)
  rw [lg_entry_eq]
  generalize (lg_sl ([.ref (ad 5), .int a1, .int a2]) ++ List.replicate (3 - (lg_sl ([.ref (ad 5), .int a1, .int a2])).length) Slot.unset).toArray = ls at hl ⊢
  have hl : lv_has ls 3 [(0, .ref (ad 5)), (1, .int a1), (2, .int a2)] := hl
  have key : ∀ (H : Heap) (locs : List Loc), va_P D vwCl ((wdC ad cI cJ) σ) H → va_S (AW ad 42 s.heap.size) s.heap H locs → W p l e (headSpec wU_X1_cameTo rm_X1_cameTo).room s m ([.ref (ad 5), .int a1, .int a2] : List Value).toArray below meth c H locs 0 0 (MQ below (va_Ql K (inW D (wdC ad cI cJ) [(cI, .int), (cJ, .long)]) (AW ad 42 s.heap.size)) ([.ref (ad 5), .int a1, .int a2] : List Value).toArray s 0 0 (AW ad 42 s.heap.size)) (F0 m 0 ls []) := by
    intro H locs hP hS
    unfold w_X1_cameTo at hw
    refine lv_aload_n hx hb dX1_cameTo_0 rfl (lv_at hl 0 rfl) ?_
    refine gC_X1_came F hK hP (hts _ mw_26) dX1_cameTo_1 ?_
    refine lv_iconst (v := 3) hx hb dX1_cameTo_4 (by decide) ?_
    refine lv_iload_n hx hb dX1_cameTo_5 rfl (lv_at hl 1 rfl) ?_
    refine lv_imul hx hb dX1_cameTo_6 ?_
    refine lv_iload_n hx hb dX1_cameTo_7 rfl (lv_at hl 2 rfl) ?_
    refine lv_iadd hx hb dX1_cameTo_8 ?_
    obtain ⟨i_1, hw⟩ := hw
    refine lC_X1_came F hK hP i_1 dX1_cameTo_9 ?_
    exact rtL F hr hlocks hK hw hP hS dX1_cameTo_10
  exact key s.heap [] hP hS

abbrev rm_X2_hasAct : Room := { frames := 0, cells := 0, slots := 0, locals := 0 }
set_option maxHeartbeats 4000000 in
set_option maxRecDepth 100000 in
theorem c_X2_hasAct (l : Launch) (D : va_G) (ad : Nat → Nat) (cI cJ : ClassId) (hap : apart ad 42) (sz : Nat) (σ : St) (a1 : Int32) (K : Int32 → St → Prop) (hw : w_X2_hasAct σ a1 K) : Met l yX2_hasAct wU_X2_hasAct rm_X2_hasAct (va_Pc [.ref (ad 1), .int a1] (fun U => U.heap.size = sz ∧ inW D (wdC ad cI cJ) [(cI, .int), (cJ, .long)] σ U)) (va_Qi (fun r u => zb r ∧ K r u) (inW D (wdC ad cI cJ) [(cI, .int), (cJ, .long)]) (AW ad 42 sz)) 0 0 (AW ad 42 sz) := by
  refine Met.ofW (cc := cX2_hasAct) (maxL := 2) (ret := (some .boolean)) (by decide) rfl ?_
  intro p e s m args below meth c s₁ B hml hv
  obtain ⟨rfl, hsz, ⟨hP, hK⟩⟩ := hv
  have F : CallFix p m c cX2_hasAct 2 s ([.ref (ad 1), .int a1] : List Value).toArray lw_U RX2 := ⟨B.exec, B.bytes, hml, findClass_of_methodNamed B.named, fun w h => atoms_spec (ws := wU_X2_hasAct) B.pre w (List.mem_cons_of_mem _ h)⟩
  have hx := F.1
  have hb := F.2.1
  have hown := F.2.2.2.1
  have hts := F.2.2.2.2
  have hr := B.returns
  have hlocks := B.notSynchronized
  subst hsz
  have hDs : ∀ σ, va_D (AW ad 42 s.heap.size) ((wdC ad cI cJ) σ) := fun σ => wdC_D hap σ
  have hS : va_S (AW ad 42 s.heap.size) s.heap s.heap [] := va_S.rf
  have hl := lv_entry ([.ref (ad 1), .int a1]) (n := 2) (Nat.le_of_ble_eq_true rfl)
  rw [lg_entry_eq]
  generalize (lg_sl ([.ref (ad 1), .int a1]) ++ List.replicate (2 - (lg_sl ([.ref (ad 1), .int a1])).length) Slot.unset).toArray = ls at hl ⊢
  have hl : lv_has ls 2 [(0, .ref (ad 1)), (1, .int a1)] := hl
  have key : ∀ (H : Heap) (locs : List Loc), va_P D vwCl ((wdC ad cI cJ) σ) H → va_S (AW ad 42 s.heap.size) s.heap H locs → W p l e (headSpec wU_X2_hasAct rm_X2_hasAct).room s m ([.ref (ad 1), .int a1] : List Value).toArray below meth c H locs 0 0 (MQ below (va_Qi (fun r u => zb r ∧ K r u) (inW D (wdC ad cI cJ) [(cI, .int), (cJ, .long)]) (AW ad 42 s.heap.size)) ([.ref (ad 1), .int a1] : List Value).toArray s 0 0 (AW ad 42 s.heap.size)) (F0 m 0 ls []) := by
    intro H locs hP hS
    unfold w_X2_hasAct at hw
    refine lv_iload_n hx hb dX2_hasAct_0 rfl (lv_at hl 1 rfl) ?_
    refine lv_if_lt (tgt := 16) hx hb dX2_hasAct_1 (by decide) (fun c_2 => ?_) (fun c_2 => ?_)
    · have hw := hw.1 c_2
      refine lv_iconst (v := 0) hx hb dX2_hasAct_16 (by decide) ?_
      exact rtZ F hr hlocks hK hw (Or.inl rfl) hP hS dX2_hasAct_17
    · have hw := hw.2 c_2
      refine lv_iload_n hx hb dX2_hasAct_4 rfl (lv_at hl 1 rfl) ?_
      refine lv_aload_n hx hb dX2_hasAct_5 rfl (lv_at hl 0 rfl) ?_
      refine gC_X2_acts F hK hP (hts _ mw_27) dX2_hasAct_6 ?_
      refine lv_icmp_ge (tgt := 16) hx hb dX2_hasAct_9 (by decide) (fun c_1 => ?_) (fun c_1 => ?_)
      · have hw := hw.1 c_1
        refine lv_iconst (v := 0) hx hb dX2_hasAct_16 (by decide) ?_
        exact rtZ F hr hlocks hK hw (Or.inl rfl) hP hS dX2_hasAct_17
      · have hw := hw.2 c_1
        refine lv_iconst (v := 1) hx hb dX2_hasAct_12 (by decide) ?_
        refine lv_goto (tgt := 17) hx hb dX2_hasAct_13 (by decide) ?_
        exact rtZ F hr hlocks hK hw (Or.inr rfl) hP hS dX2_hasAct_17
  exact key s.heap [] hP hS

abbrev rm_X2_hasPort : Room := { frames := 1, cells := 0, slots := 0, locals := 21 }
set_option maxHeartbeats 4000000 in
set_option maxRecDepth 100000 in
theorem c_X2_hasPort (l : Launch) (D : va_G) (ad : Nat → Nat) (cI cJ : ClassId) (hap : apart ad 42) (sz : Nat) (σ : St) (a1 : Int32) (a2 : Int32) (K : Int32 → St → Prop) (hw : w_X2_hasPort σ a1 a2 K) : Met l yX2_hasPort wU_X2_hasPort rm_X2_hasPort (va_Pc [.ref (ad 1), .int a1, .int a2] (fun U => U.heap.size = sz ∧ inW D (wdC ad cI cJ) [(cI, .int), (cJ, .long)] σ U)) (va_Qi (fun r u => zb r ∧ K r u) (inW D (wdC ad cI cJ) [(cI, .int), (cJ, .long)]) (AW ad 42 sz)) 0 0 (AW ad 42 sz) := by
  refine Met.ofW (cc := cX2_hasPort) (maxL := 3) (ret := (some .boolean)) (by decide) rfl ?_
  intro p e s m args below meth c s₁ B hml hv
  obtain ⟨rfl, hsz, ⟨hP, hK⟩⟩ := hv
  have F : CallFix p m c cX2_hasPort 3 s ([.ref (ad 1), .int a1, .int a2] : List Value).toArray lw_U RX2 := ⟨B.exec, B.bytes, hml, findClass_of_methodNamed B.named, fun w h => atoms_spec (ws := wU_X2_hasPort) B.pre w (List.mem_cons_of_mem _ h)⟩
  have hx := F.1
  have hb := F.2.1
  have hown := F.2.2.2.1
  have hts := F.2.2.2.2
  have hr := B.returns
  have hlocks := B.notSynchronized
  subst hsz
  have hDs : ∀ σ, va_D (AW ad 42 s.heap.size) ((wdC ad cI cJ) σ) := fun σ => wdC_D hap σ
  have hS : va_S (AW ad 42 s.heap.size) s.heap s.heap [] := va_S.rf
  have hl := lv_entry ([.ref (ad 1), .int a1, .int a2]) (n := 3) (Nat.le_of_ble_eq_true rfl)
  rw [lg_entry_eq]
  generalize (lg_sl ([.ref (ad 1), .int a1, .int a2]) ++ List.replicate (3 - (lg_sl ([.ref (ad 1), .int a1, .int a2])).length) Slot.unset).toArray = ls at hl ⊢
  have hl : lv_has ls 3 [(0, .ref (ad 1)), (1, .int a1), (2, .int a2)] := hl
  have key : ∀ (H : Heap) (locs : List Loc), va_P D vwCl ((wdC ad cI cJ) σ) H → va_S (AW ad 42 s.heap.size) s.heap H locs → W p l e (headSpec wU_X2_hasPort rm_X2_hasPort).room s m ([.ref (ad 1), .int a1, .int a2] : List Value).toArray below meth c H locs 0 0 (MQ below (va_Qi (fun r u => zb r ∧ K r u) (inW D (wdC ad cI cJ) [(cI, .int), (cJ, .long)]) (AW ad 42 s.heap.size)) ([.ref (ad 1), .int a1, .int a2] : List Value).toArray s 0 0 (AW ad 42 s.heap.size)) (F0 m 0 ls []) := by
    intro H locs hP hS
    unfold w_X2_hasPort at hw
    refine lv_aload_n hx hb dX2_hasPort_0 rfl (lv_at hl 0 rfl) ?_
    refine lv_iload_n hx hb dX2_hasPort_1 rfl (lv_at hl 1 rfl) ?_
    refine cvI (As := [.int a1]) (rest := []) F hK hP hS (c_X2_hasAct l D ad cI cJ hap H.size _ _ _ hw) (cwV 1 hts gU_X2_58 rfl rfl rfl (by decide +kernel) ⟨Nat.le_of_ble_eq_true rfl, Nat.le_of_ble_eq_true rfl⟩) (va_recv hK hP (ci := 2) (q0 := 1) rfl rfl) rfl hl.1 rfl (Nat.le_of_ble_eq_true rfl) dX2_hasPort_2 ⟨Nat.zero_le _, Nat.zero_le _⟩ (fun r_2 u_1 H locs hw hP hS => ?_)
    obtain ⟨zr_2, hw⟩ := hw
    refine lv_if_eq (tgt := 26) hx hb dX2_hasPort_5 (by decide) (fun c_6 => ?_) (fun c_6 => ?_)
    · have hw := hw.1 c_6
      refine lv_iconst (v := 0) hx hb dX2_hasPort_26 (by decide) ?_
      exact rtZ F hr hlocks hK hw (Or.inl rfl) hP hS dX2_hasPort_27
    · have hw := hw.2 c_6
      refine lv_iload_n hx hb dX2_hasPort_8 rfl (lv_at hl 2 rfl) ?_
      refine lv_if_lt (tgt := 26) hx hb dX2_hasPort_9 (by decide) (fun c_5 => ?_) (fun c_5 => ?_)
      · have hw := hw.1 c_5
        refine lv_iconst (v := 0) hx hb dX2_hasPort_26 (by decide) ?_
        exact rtZ F hr hlocks hK hw (Or.inl rfl) hP hS dX2_hasPort_27
      · have hw := hw.2 c_5
        refine lv_iload_n hx hb dX2_hasPort_12 rfl (lv_at hl 2 rfl) ?_
        refine lv_aload_n hx hb dX2_hasPort_13 rfl (lv_at hl 0 rfl) ?_
        refine gC_X2_ports F hK hP (hts _ mw_33) dX2_hasPort_14 ?_
        refine lv_iload_n hx hb dX2_hasPort_17 rfl (lv_at hl 1 rfl) ?_
        obtain ⟨i_4, hw⟩ := hw
        refine lC_X2_ports F hK hP i_4 dX2_hasPort_18 ?_
        refine lv_icmp_ge (tgt := 26) hx hb dX2_hasPort_19 (by decide) (fun c_3 => ?_) (fun c_3 => ?_)
        · have hw := hw.1 c_3
          refine lv_iconst (v := 0) hx hb dX2_hasPort_26 (by decide) ?_
          exact rtZ F hr hlocks hK hw (Or.inl rfl) hP hS dX2_hasPort_27
        · have hw := hw.2 c_3
          refine lv_iconst (v := 1) hx hb dX2_hasPort_22 (by decide) ?_
          refine lv_goto (tgt := 27) hx hb dX2_hasPort_23 (by decide) ?_
          exact rtZ F hr hlocks hK hw (Or.inr rfl) hP hS dX2_hasPort_27
  exact key s.heap [] hP hS
