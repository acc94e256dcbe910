abbrev rm_X9_run : Room := { frames := 6, cells := 0, slots := 0, locals := 159 }
set_option maxHeartbeats 4000000 in
set_option maxRecDepth 100000 in
theorem c_X9_run (l : Launch) (D : va_G) (ad : Nat → Nat) (cI cJ : ClassId) (hap : apart ad 42) (sz : Nat) (σ : St) (a1 : Int32) (a2 : Int32) (K : Int32 → St → Prop) (hw : w_X9_run σ a1 a2 K) : Met l yX9_run wU_X9_run rm_X9_run (va_Pc [.ref (ad 0), .int a1, .int a2] (fun U => U.heap.size = sz ∧ inW D (wdC ad cI cJ) [(cI, .int), (cJ, .long)] σ U)) (va_Qi K (inW D (wdC ad cI cJ) [(cI, .int), (cJ, .long)]) (AW ad 42 sz)) 0 0 (AW ad 42 sz) := by
  refine Met.ofW (cc := cX9_run) (maxL := 3) (ret := (some .int)) (by decide) rfl ?_
  intro p e s m args below meth c s₁ B hml hv
  obtain ⟨rfl, hsz, ⟨hP, hK⟩⟩ := hv
  have F : CallFix p m c cX9_run 3 s ([.ref (ad 0), .int a1, .int a2] : List Value).toArray lw_U RX9 := ⟨B.exec, B.bytes, hml, findClass_of_methodNamed B.named, fun w h => atoms_spec (ws := wU_X9_run) B.pre w (List.mem_cons_of_mem _ h)⟩
  have hx := F.1
  have hb := F.2.1
  have hown := F.2.2.2.1
  have hts := F.2.2.2.2
  have hr := B.returns
  have hlocks := B.notSynchronized
  subst hsz
  have hDs : ∀ σ, va_D (AW ad 42 s.heap.size) ((wdC ad cI cJ) σ) := fun σ => wdC_D hap σ
  have hS : va_S (AW ad 42 s.heap.size) s.heap s.heap [] := va_S.rf
  have hl := lv_entry ([.ref (ad 0), .int a1, .int a2]) (n := 3) (Nat.le_of_ble_eq_true rfl)
  rw [lg_entry_eq]
  generalize (lg_sl ([.ref (ad 0), .int a1, .int a2]) ++ List.replicate (3 - (lg_sl ([.ref (ad 0), .int a1, .int a2])).length) Slot.unset).toArray = ls at hl ⊢
  have hl : lv_has ls 3 [(0, .ref (ad 0)), (1, .int a1), (2, .int a2)] := hl
  have key : ∀ (H : Heap) (locs : List Loc), va_P D vwCl ((wdC ad cI cJ) σ) H → va_S (AW ad 42 s.heap.size) s.heap H locs → W p l e (headSpec wU_X9_run rm_X9_run).room s m ([.ref (ad 0), .int a1, .int a2] : List Value).toArray below meth c H locs 0 0 (MQ below (va_Qi K (inW D (wdC ad cI cJ) [(cI, .int), (cJ, .long)]) (AW ad 42 s.heap.size)) ([.ref (ad 0), .int a1, .int a2] : List Value).toArray s 0 0 (AW ad 42 s.heap.size)) (F0 m 0 ls []) := by
    intro H locs hP hS
    unfold w_X9_run at hw
    refine lv_iload_n hx hb dX9_run_0 rfl (lv_at hl 2 rfl) ?_
    refine csI (As := [.int a2]) (rest := []) F hK hP hS (c_X9_isFuel l D ad cI cJ hap H.size _ _ _ hw) (va_cwS 1 hts gU_X9_56 rfl rfl rfl (by decide +kernel) ⟨Nat.le_of_ble_eq_true rfl, Nat.le_of_ble_eq_true rfl⟩) rfl hl.1 rfl (Nat.le_of_ble_eq_true rfl) dX9_run_1 ⟨Nat.zero_le _, Nat.zero_le _⟩ (fun r_2 u_1 H locs hw hP hS => ?_)
    obtain ⟨zr_2, hw⟩ := hw
    refine lv_if_ne (tgt := 9) hx hb dX9_run_4 (by decide) (fun c_5 => ?_) (fun c_5 => ?_)
    · have hw := hw.1 c_5
      refine lv_aload_n hx hb dX9_run_9 rfl (lv_at hl 0 rfl) ?_
      refine lv_iconst (v := 1) hx hb dX9_run_10 (by decide) ?_
      refine pC_X9_hasRun F hK hP hDs hS (hts _ mw_372) dX9_run_11 (Or.inr rfl) (fun H locs hP hS => ?_)
      refine lv_aload_n hx hb dX9_run_14 rfl (lv_at hl 0 rfl) ?_
      refine gC_X9_machine F hK hP (hts _ mw_389) dX9_run_15 ?_
      refine lv_iload_n hx hb dX9_run_18 rfl (lv_at hl 1 rfl) ?_
      refine lv_iload_n hx hb dX9_run_19 rfl (lv_at hl 2 rfl) ?_
      refine cvI (As := [.int a1, .int a2]) (rest := []) F hK hP hS (c_X4_goBySeed l D ad cI cJ hap H.size _ _ _ _ hw) (cwV 2 hts gU_X9_60 rfl rfl rfl (by decide +kernel) ⟨Nat.le_of_ble_eq_true rfl, Nat.le_of_ble_eq_true rfl⟩) (va_recv hK hP (ci := 3) (q0 := 2) rfl rfl) rfl hl.1 rfl (Nat.le_of_ble_eq_true rfl) dX9_run_20 ⟨Nat.zero_le _, Nat.zero_le _⟩ (fun r_4 u_3 H locs hw hP hS => ?_)
      exact rtI F hr hlocks hK hw hP hS dX9_run_23
    · have hw := hw.2 c_5
      refine lv_iconst (v := (-1)) hx hb dX9_run_7 (by decide) ?_
      exact rtI F hr hlocks hK hw hP hS dX9_run_8
  exact key s.heap [] hP hS

abbrev rm_X9_ticks : Room := { frames := 7, cells := 0, slots := 0, locals := 179 }
set_option maxHeartbeats 4000000 in
set_option maxRecDepth 100000 in
theorem c_X9_ticks (l : Launch) (D : va_G) (ad : Nat → Nat) (cI cJ : ClassId) (hap : apart ad 42) (sz : Nat) (σ : St) (a1 : Int32) (K : Int32 → St → Prop) (hw : w_X9_ticks σ a1 K) : Met l yX9_ticks wU_X9_ticks rm_X9_ticks (va_Pc [.ref (ad 0), .int a1] (fun U => U.heap.size = sz ∧ inW D (wdC ad cI cJ) [(cI, .int), (cJ, .long)] σ U)) (va_Qi K (inW D (wdC ad cI cJ) [(cI, .int), (cJ, .long)]) (AW ad 42 sz)) 0 0 (AW ad 42 sz) := by
  refine Met.ofW (cc := cX9_ticks) (maxL := 2) (ret := (some .int)) (by decide) rfl ?_
  intro p e s m args below meth c s₁ B hml hv
  obtain ⟨rfl, hsz, ⟨hP, hK⟩⟩ := hv
  have F : CallFix p m c cX9_ticks 2 s ([.ref (ad 0), .int a1] : List Value).toArray lw_U RX9 := ⟨B.exec, B.bytes, hml, findClass_of_methodNamed B.named, fun w h => atoms_spec (ws := wU_X9_ticks) B.pre w (List.mem_cons_of_mem _ h)⟩
  have hx := F.1
  have hb := F.2.1
  have hown := F.2.2.2.1
  have hts := F.2.2.2.2
  have hr := B.returns
  have hlocks := B.notSynchronized
  subst hsz
  have hDs : ∀ σ, va_D (AW ad 42 s.heap.size) ((wdC ad cI cJ) σ) := fun σ => wdC_D hap σ
  have hS : va_S (AW ad 42 s.heap.size) s.heap s.heap [] := va_S.rf
  have hl := lv_entry ([.ref (ad 0), .int a1]) (n := 2) (Nat.le_of_ble_eq_true rfl)
  rw [lg_entry_eq]
  generalize (lg_sl ([.ref (ad 0), .int a1]) ++ List.replicate (2 - (lg_sl ([.ref (ad 0), .int a1])).length) Slot.unset).toArray = ls at hl ⊢
  have hl : lv_has ls 2 [(0, .ref (ad 0)), (1, .int a1)] := hl
  have key : ∀ (H : Heap) (locs : List Loc), va_P D vwCl ((wdC ad cI cJ) σ) H → va_S (AW ad 42 s.heap.size) s.heap H locs → W p l e (headSpec wU_X9_ticks rm_X9_ticks).room s m ([.ref (ad 0), .int a1] : List Value).toArray below meth c H locs 0 0 (MQ below (va_Qi K (inW D (wdC ad cI cJ) [(cI, .int), (cJ, .long)]) (AW ad 42 s.heap.size)) ([.ref (ad 0), .int a1] : List Value).toArray s 0 0 (AW ad 42 s.heap.size)) (F0 m 0 ls []) := by
    intro H locs hP hS
    unfold w_X9_ticks at hw
    refine lv_iload_n hx hb dX9_ticks_0 rfl (lv_at hl 1 rfl) ?_
    refine csI (As := [.int a1]) (rest := []) F hK hP hS (c_X9_isFuel l D ad cI cJ hap H.size _ _ _ hw) (va_cwS 1 hts gU_X9_56 rfl rfl rfl (by decide +kernel) ⟨Nat.le_of_ble_eq_true rfl, Nat.le_of_ble_eq_true rfl⟩) rfl hl.1 rfl (Nat.le_of_ble_eq_true rfl) dX9_ticks_1 ⟨Nat.zero_le _, Nat.zero_le _⟩ (fun r_2 u_1 H locs hw hP hS => ?_)
    obtain ⟨zr_2, hw⟩ := hw
    refine lv_if_ne (tgt := 9) hx hb dX9_ticks_4 (by decide) (fun c_5 => ?_) (fun c_5 => ?_)
    · have hw := hw.1 c_5
      refine lv_aload_n hx hb dX9_ticks_9 rfl (lv_at hl 0 rfl) ?_
      refine lv_iconst (v := 1) hx hb dX9_ticks_10 (by decide) ?_
      refine pC_X9_hasRun F hK hP hDs hS (hts _ mw_372) dX9_ticks_11 (Or.inr rfl) (fun H locs hP hS => ?_)
      refine lv_aload_n hx hb dX9_ticks_14 rfl (lv_at hl 0 rfl) ?_
      refine gC_X9_machine F hK hP (hts _ mw_389) dX9_ticks_15 ?_
      refine lv_iload_n hx hb dX9_ticks_18 rfl (lv_at hl 1 rfl) ?_
      refine cvI (As := [.int a1]) (rest := []) F hK hP hS (c_X4_goByTicks l D ad cI cJ hap H.size _ _ _ hw) (cwV 1 hts gU_X9_64 rfl rfl rfl (by decide +kernel) ⟨Nat.le_of_ble_eq_true rfl, Nat.le_of_ble_eq_true rfl⟩) (va_recv hK hP (ci := 3) (q0 := 2) rfl rfl) rfl hl.1 rfl (Nat.le_of_ble_eq_true rfl) dX9_ticks_19 ⟨Nat.zero_le _, Nat.zero_le _⟩ (fun r_4 u_3 H locs hw hP hS => ?_)
      exact rtI F hr hlocks hK hw hP hS dX9_ticks_22
    · have hw := hw.2 c_5
      refine lv_iconst (v := (-1)) hx hb dX9_ticks_7 (by decide) ?_
      exact rtI F hr hlocks hK hw hP hS dX9_ticks_8
  exact key s.heap [] hP hS

abbrev rm_X9_about : Room := { frames := 2, cells := 0, slots := 0, locals := 41 }
set_option maxHeartbeats 4000000 in
set_option maxRecDepth 100000 in
theorem c_X9_about (l : Launch) (D : va_G) (ad : Nat → Nat) (cI cJ : ClassId) (hap : apart ad 42) (sz : Nat) (σ : St) (a1 : Int32) (K : Int32 → St → Prop) (hw : w_X9_about σ a1 K) : Met l yX9_about wU_X9_about rm_X9_about (va_Pc [.ref (ad 0), .int a1] (fun U => U.heap.size = sz ∧ inW D (wdC ad cI cJ) [(cI, .int), (cJ, .long)] σ U)) (va_Qi K (inW D (wdC ad cI cJ) [(cI, .int), (cJ, .long)]) (AW ad 42 sz)) 0 0 (AW ad 42 sz) := by
  refine Met.ofW (cc := cX9_about) (maxL := 2) (ret := (some .int)) (by decide) rfl ?_
  intro p e s m args below meth c s₁ B hml hv
  obtain ⟨rfl, hsz, ⟨hP, hK⟩⟩ := hv
  have F : CallFix p m c cX9_about 2 s ([.ref (ad 0), .int a1] : List Value).toArray lw_U RX9 := ⟨B.exec, B.bytes, hml, findClass_of_methodNamed B.named, fun w h => atoms_spec (ws := wU_X9_about) B.pre w (List.mem_cons_of_mem _ h)⟩
  have hx := F.1
  have hb := F.2.1
  have hown := F.2.2.2.1
  have hts := F.2.2.2.2
  have hr := B.returns
  have hlocks := B.notSynchronized
  subst hsz
  have hDs : ∀ σ, va_D (AW ad 42 s.heap.size) ((wdC ad cI cJ) σ) := fun σ => wdC_D hap σ
  have hS : va_S (AW ad 42 s.heap.size) s.heap s.heap [] := va_S.rf
  have hl := lv_entry ([.ref (ad 0), .int a1]) (n := 2) (Nat.le_of_ble_eq_true rfl)
  rw [lg_entry_eq]
  generalize (lg_sl ([.ref (ad 0), .int a1]) ++ List.replicate (2 - (lg_sl ([.ref (ad 0), .int a1])).length) Slot.unset).toArray = ls at hl ⊢
  have hl : lv_has ls 2 [(0, .ref (ad 0)), (1, .int a1)] := hl
  have key : ∀ (H : Heap) (locs : List Loc), va_P D vwCl ((wdC ad cI cJ) σ) H → va_S (AW ad 42 s.heap.size) s.heap H locs → W p l e (headSpec wU_X9_about rm_X9_about).room s m ([.ref (ad 0), .int a1] : List Value).toArray below meth c H locs 0 0 (MQ below (va_Qi K (inW D (wdC ad cI cJ) [(cI, .int), (cJ, .long)]) (AW ad 42 s.heap.size)) ([.ref (ad 0), .int a1] : List Value).toArray s 0 0 (AW ad 42 s.heap.size)) (F0 m 0 ls []) := by
    intro H locs hP hS
    unfold w_X9_about at hw
    refine lv_aload_n hx hb dX9_about_0 rfl (lv_at hl 0 rfl) ?_
    refine gC_X9_hasRun F hK hP (hts _ mw_372) dX9_about_1 ?_
    refine lv_if_eq (tgt := 18) hx hb dX9_about_4 (by decide) (fun c_3 => ?_) (fun c_3 => ?_)
    · have hw := hw.1 c_3
      refine lv_iconst (v := (-1)) hx hb dX9_about_18 (by decide) ?_
      exact rtI F hr hlocks hK hw hP hS dX9_about_19
    · have hw := hw.2 c_3
      refine lv_aload_n hx hb dX9_about_7 rfl (lv_at hl 0 rfl) ?_
      refine gC_X9_machine F hK hP (hts _ mw_389) dX9_about_8 ?_
      refine lv_iload_n hx hb dX9_about_11 rfl (lv_at hl 1 rfl) ?_
      refine cvI (As := [.int a1]) (rest := []) F hK hP hS (c_X4_figure l D ad cI cJ hap H.size _ _ _ hw) (cwV 1 hts gU_X9_68 rfl rfl rfl (by decide +kernel) ⟨Nat.le_of_ble_eq_true rfl, Nat.le_of_ble_eq_true rfl⟩) (va_recv hK hP (ci := 3) (q0 := 2) rfl rfl) rfl hl.1 rfl (Nat.le_of_ble_eq_true rfl) dX9_about_12 ⟨Nat.zero_le _, Nat.zero_le _⟩ (fun r_2 u_1 H locs hw hP hS => ?_)
      refine lv_goto (tgt := 19) hx hb dX9_about_15 (by decide) ?_
      exact rtI F hr hlocks hK hw hP hS dX9_about_19
  exact key s.heap [] hP hS

abbrev rm_X9_end : Room := { frames := 2, cells := 0, slots := 0, locals := 46 }
set_option maxHeartbeats 4000000 in
set_option maxRecDepth 100000 in
theorem c_X9_end (l : Launch) (D : va_G) (ad : Nat → Nat) (cI cJ : ClassId) (hap : apart ad 42) (sz : Nat) (σ : St) (a1 : Int32) (a2 : Int32) (K : Int32 → St → Prop) (hw : w_X9_end σ a1 a2 K) : Met l yX9_end wU_X9_end rm_X9_end (va_Pc [.ref (ad 0), .int a1, .int a2] (fun U => U.heap.size = sz ∧ inW D (wdC ad cI cJ) [(cI, .int), (cJ, .long)] σ U)) (va_Qi K (inW D (wdC ad cI cJ) [(cI, .int), (cJ, .long)]) (AW ad 42 sz)) 0 0 (AW ad 42 sz) := by
  refine Met.ofW (cc := cX9_end) (maxL := 3) (ret := (some .int)) (by decide) rfl ?_
  intro p e s m args below meth c s₁ B hml hv
  obtain ⟨rfl, hsz, ⟨hP, hK⟩⟩ := hv
  have F : CallFix p m c cX9_end 3 s ([.ref (ad 0), .int a1, .int a2] : List Value).toArray lw_U RX9 := ⟨B.exec, B.bytes, hml, findClass_of_methodNamed B.named, fun w h => atoms_spec (ws := wU_X9_end) B.pre w (List.mem_cons_of_mem _ h)⟩
  have hx := F.1
  have hb := F.2.1
  have hown := F.2.2.2.1
  have hts := F.2.2.2.2
  have hr := B.returns
  have hlocks := B.notSynchronized
  subst hsz
  have hDs : ∀ σ, va_D (AW ad 42 s.heap.size) ((wdC ad cI cJ) σ) := fun σ => wdC_D hap σ
  have hS : va_S (AW ad 42 s.heap.size) s.heap s.heap [] := va_S.rf
  have hl := lv_entry ([.ref (ad 0), .int a1, .int a2]) (n := 3) (Nat.le_of_ble_eq_true rfl)
  rw [lg_entry_eq]
  generalize (lg_sl ([.ref (ad 0), .int a1, .int a2]) ++ List.replicate (3 - (lg_sl ([.ref (ad 0), .int a1, .int a2])).length) Slot.unset).toArray = ls at hl ⊢
  have hl : lv_has ls 3 [(0, .ref (ad 0)), (1, .int a1), (2, .int a2)] := hl
  have key : ∀ (H : Heap) (locs : List Loc), va_P D vwCl ((wdC ad cI cJ) σ) H → va_S (AW ad 42 s.heap.size) s.heap H locs → W p l e (headSpec wU_X9_end rm_X9_end).room s m ([.ref (ad 0), .int a1, .int a2] : List Value).toArray below meth c H locs 0 0 (MQ below (va_Qi K (inW D (wdC ad cI cJ) [(cI, .int), (cJ, .long)]) (AW ad 42 s.heap.size)) ([.ref (ad 0), .int a1, .int a2] : List Value).toArray s 0 0 (AW ad 42 s.heap.size)) (F0 m 0 ls []) := by
    intro H locs hP hS
    unfold w_X9_end at hw
    refine lv_aload_n hx hb dX9_end_0 rfl (lv_at hl 0 rfl) ?_
    refine gC_X9_hasRun F hK hP (hts _ mw_372) dX9_end_1 ?_
    refine lv_if_eq (tgt := 17) hx hb dX9_end_4 (by decide) (fun c_6 => ?_) (fun c_6 => ?_)
    · have hw := hw.1 c_6
      refine lv_iconst (v := (-1)) hx hb dX9_end_17 (by decide) ?_
      exact rtI F hr hlocks hK hw hP hS dX9_end_18
    · have hw := hw.2 c_6
      refine lv_iload_n hx hb dX9_end_7 rfl (lv_at hl 1 rfl) ?_
      refine lv_if_lt (tgt := 17) hx hb dX9_end_8 (by decide) (fun c_5 => ?_) (fun c_5 => ?_)
      · have hw := hw.1 c_5
        refine lv_iconst (v := (-1)) hx hb dX9_end_17 (by decide) ?_
        exact rtI F hr hlocks hK hw hP hS dX9_end_18
      · have hw := hw.2 c_5
        refine lv_iload_n hx hb dX9_end_11 rfl (lv_at hl 1 rfl) ?_
        refine lv_bipush (v := 10) hx hb dX9_end_12 (by decide) ?_
        refine lv_icmp_lt (tgt := 19) hx hb dX9_end_14 (by decide) (fun c_4 => ?_) (fun c_4 => ?_)
        · have hw := hw.1 c_4
          refine lv_aload_n hx hb dX9_end_19 rfl (lv_at hl 0 rfl) ?_
          refine gC_X9_machine F hK hP (hts _ mw_389) dX9_end_20 ?_
          refine lv_aload_n hx hb dX9_end_23 rfl (lv_at hl 0 rfl) ?_
          refine gC_X9_machine F hK hP (hts _ mw_389) dX9_end_24 ?_
          refine gC_X4_ends F hK hP (hts _ mw_402) dX9_end_27 ?_
          refine lv_iload_n hx hb dX9_end_30 rfl (lv_at hl 1 rfl) ?_
          obtain ⟨i_3, hw⟩ := hw
          refine lC_X4_ends F hK hP i_3 dX9_end_31 ?_
          refine lv_iload_n hx hb dX9_end_32 rfl (lv_at hl 2 rfl) ?_
          refine cvI (As := [.long (gL σ 2 (a1).toNatClampNeg), .int a2]) (rest := []) F hK hP hS (c_X4_describe l D ad cI cJ hap H.size _ _ _ _ hw) (cwV 2 hts gU_X9_74 rfl rfl rfl (by decide +kernel) ⟨Nat.le_of_ble_eq_true rfl, Nat.le_of_ble_eq_true rfl⟩) (va_recv hK hP (ci := 3) (q0 := 2) rfl rfl) rfl hl.1 rfl (Nat.le_of_ble_eq_true rfl) dX9_end_33 ⟨Nat.zero_le _, Nat.zero_le _⟩ (fun r_2 u_1 H locs hw hP hS => ?_)
          exact rtI F hr hlocks hK hw hP hS dX9_end_36
        · have hw := hw.2 c_4
          refine lv_iconst (v := (-1)) hx hb dX9_end_17 (by decide) ?_
          exact rtI F hr hlocks hK hw hP hS dX9_end_18
  exact key s.heap [] hP hS

abbrev rm_X9_fired : Room := { frames := 1, cells := 0, slots := 0, locals := 21 }
set_option maxHeartbeats 4000000 in
set_option maxRecDepth 100000 in
theorem c_X9_fired (l : Launch) (D : va_G) (ad : Nat → Nat) (cI cJ : ClassId) (hap : apart ad 42) (sz : Nat) (σ : St) (a1 : Int32) (K : Int32 → St → Prop) (hw : w_X9_fired σ a1 K) : Met l yX9_fired wU_X9_fired rm_X9_fired (va_Pc [.ref (ad 0), .int a1] (fun U => U.heap.size = sz ∧ inW D (wdC ad cI cJ) [(cI, .int), (cJ, .long)] σ U)) (va_Qi K (inW D (wdC ad cI cJ) [(cI, .int), (cJ, .long)]) (AW ad 42 sz)) 0 0 (AW ad 42 sz) := by
  refine Met.ofW (cc := cX9_fired) (maxL := 2) (ret := (some .int)) (by decide) rfl ?_
  intro p e s m args below meth c s₁ B hml hv
  obtain ⟨rfl, hsz, ⟨hP, hK⟩⟩ := hv
  have F : CallFix p m c cX9_fired 2 s ([.ref (ad 0), .int a1] : List Value).toArray lw_U RX9 := ⟨B.exec, B.bytes, hml, findClass_of_methodNamed B.named, fun w h => atoms_spec (ws := wU_X9_fired) B.pre w (List.mem_cons_of_mem _ h)⟩
  have hx := F.1
  have hb := F.2.1
  have hown := F.2.2.2.1
  have hts := F.2.2.2.2
  have hr := B.returns
  have hlocks := B.notSynchronized
  subst hsz
  have hDs : ∀ σ, va_D (AW ad 42 s.heap.size) ((wdC ad cI cJ) σ) := fun σ => wdC_D hap σ
  have hS : va_S (AW ad 42 s.heap.size) s.heap s.heap [] := va_S.rf
  have hl := lv_entry ([.ref (ad 0), .int a1]) (n := 2) (Nat.le_of_ble_eq_true rfl)
  rw [lg_entry_eq]
  generalize (lg_sl ([.ref (ad 0), .int a1]) ++ List.replicate (2 - (lg_sl ([.ref (ad 0), .int a1])).length) Slot.unset).toArray = ls at hl ⊢
  have hl : lv_has ls 2 [(0, .ref (ad 0)), (1, .int a1)] := hl
  have key : ∀ (H : Heap) (locs : List Loc), va_P D vwCl ((wdC ad cI cJ) σ) H → va_S (AW ad 42 s.heap.size) s.heap H locs → W p l e (headSpec wU_X9_fired rm_X9_fired).room s m ([.ref (ad 0), .int a1] : List Value).toArray below meth c H locs 0 0 (MQ below (va_Qi K (inW D (wdC ad cI cJ) [(cI, .int), (cJ, .long)]) (AW ad 42 s.heap.size)) ([.ref (ad 0), .int a1] : List Value).toArray s 0 0 (AW ad 42 s.heap.size)) (F0 m 0 ls []) := by
    intro H locs hP hS
    unfold w_X9_fired at hw
    refine lv_aload_n hx hb dX9_fired_0 rfl (lv_at hl 0 rfl) ?_
    refine gC_X9_hasRun F hK hP (hts _ mw_372) dX9_fired_1 ?_
    refine lv_if_eq (tgt := 30) hx hb dX9_fired_4 (by decide) (fun c_5 => ?_) (fun c_5 => ?_)
    · have hw := hw.1 c_5
      refine lv_iconst (v := (-1)) hx hb dX9_fired_30 (by decide) ?_
      exact rtI F hr hlocks hK hw hP hS dX9_fired_31
    · have hw := hw.2 c_5
      refine lv_aload_n hx hb dX9_fired_7 rfl (lv_at hl 0 rfl) ?_
      refine gC_X9_graph F hK hP (hts _ mw_359) dX9_fired_8 ?_
      refine lv_iload_n hx hb dX9_fired_11 rfl (lv_at hl 1 rfl) ?_
      refine cvI (As := [.int a1]) (rest := []) F hK hP hS (c_X2_hasAct l D ad cI cJ hap H.size _ _ _ hw) (cwV 1 hts gU_X9_78 rfl rfl rfl (by decide +kernel) ⟨Nat.le_of_ble_eq_true rfl, Nat.le_of_ble_eq_true rfl⟩) (va_recv hK hP (ci := 2) (q0 := 1) rfl rfl) rfl hl.1 rfl (Nat.le_of_ble_eq_true rfl) dX9_fired_12 ⟨Nat.zero_le _, Nat.zero_le _⟩ (fun r_2 u_1 H locs hw hP hS => ?_)
      obtain ⟨zr_2, hw⟩ := hw
      refine lv_if_eq (tgt := 30) hx hb dX9_fired_15 (by decide) (fun c_4 => ?_) (fun c_4 => ?_)
      · have hw := hw.1 c_4
        refine lv_iconst (v := (-1)) hx hb dX9_fired_30 (by decide) ?_
        exact rtI F hr hlocks hK hw hP hS dX9_fired_31
      · have hw := hw.2 c_4
        refine lv_aload_n hx hb dX9_fired_18 rfl (lv_at hl 0 rfl) ?_
        refine gC_X9_machine F hK hP (hts _ mw_389) dX9_fired_19 ?_
        refine gC_X4_firings F hK hP (hts _ mw_408) dX9_fired_22 ?_
        refine lv_iload_n hx hb dX9_fired_25 rfl (lv_at hl 1 rfl) ?_
        obtain ⟨i_3, hw⟩ := hw
        refine lC_X4_firings F hK hP i_3 dX9_fired_26 ?_
        refine lv_goto (tgt := 31) hx hb dX9_fired_27 (by decide) ?_
        exact rtI F hr hlocks hK hw hP hS dX9_fired_31
  exact key s.heap [] hP hS

abbrev rm_X9_cell : Room := { frames := 2, cells := 0, slots := 0, locals := 46 }
set_option maxHeartbeats 4000000 in
set_option maxRecDepth 100000 in
theorem c_X9_cell (l : Launch) (D : va_G) (ad : Nat → Nat) (cI cJ : ClassId) (hap : apart ad 42) (sz : Nat) (σ : St) (a1 : Int32) (a2 : Int32) (a3 : Int32) (K : Int32 → St → Prop) (hw : w_X9_cell σ a1 a2 a3 K) : Met l yX9_cell wU_X9_cell rm_X9_cell (va_Pc [.ref (ad 0), .int a1, .int a2, .int a3] (fun U => U.heap.size = sz ∧ inW D (wdC ad cI cJ) [(cI, .int), (cJ, .long)] σ U)) (va_Qi K (inW D (wdC ad cI cJ) [(cI, .int), (cJ, .long)]) (AW ad 42 sz)) 0 0 (AW ad 42 sz) := by
  refine Met.ofW (cc := cX9_cell) (maxL := 5) (ret := (some .int)) (by decide) rfl ?_
  intro p e s m args below meth c s₁ B hml hv
  obtain ⟨rfl, hsz, ⟨hP, hK⟩⟩ := hv
  have F : CallFix p m c cX9_cell 5 s ([.ref (ad 0), .int a1, .int a2, .int a3] : List Value).toArray lw_U RX9 := ⟨B.exec, B.bytes, hml, findClass_of_methodNamed B.named, fun w h => atoms_spec (ws := wU_X9_cell) B.pre w (List.mem_cons_of_mem _ h)⟩
  have hx := F.1
  have hb := F.2.1
  have hown := F.2.2.2.1
  have hts := F.2.2.2.2
  have hr := B.returns
  have hlocks := B.notSynchronized
  subst hsz
  have hDs : ∀ σ, va_D (AW ad 42 s.heap.size) ((wdC ad cI cJ) σ) := fun σ => wdC_D hap σ
  have hS : va_S (AW ad 42 s.heap.size) s.heap s.heap [] := va_S.rf
  have hl := lv_entry ([.ref (ad 0), .int a1, .int a2, .int a3]) (n := 5) (Nat.le_of_ble_eq_true rfl)
  rw [lg_entry_eq]
  generalize (lg_sl ([.ref (ad 0), .int a1, .int a2, .int a3]) ++ List.replicate (5 - (lg_sl ([.ref (ad 0), .int a1, .int a2, .int a3])).length) Slot.unset).toArray = ls at hl ⊢
  have hl : lv_has ls 5 [(0, .ref (ad 0)), (1, .int a1), (2, .int a2), (3, .int a3)] := hl
  have key : ∀ (H : Heap) (locs : List Loc), va_P D vwCl ((wdC ad cI cJ) σ) H → va_S (AW ad 42 s.heap.size) s.heap H locs → W p l e (headSpec wU_X9_cell rm_X9_cell).room s m ([.ref (ad 0), .int a1, .int a2, .int a3] : List Value).toArray below meth c H locs 0 0 (MQ below (va_Qi K (inW D (wdC ad cI cJ) [(cI, .int), (cJ, .long)]) (AW ad 42 s.heap.size)) ([.ref (ad 0), .int a1, .int a2, .int a3] : List Value).toArray s 0 0 (AW ad 42 s.heap.size)) (F0 m 0 ls []) := by
    intro H locs hP hS
    unfold w_X9_cell at hw
    refine lv_aload_n hx hb dX9_cell_0 rfl (lv_at hl 0 rfl) ?_
    refine gC_X9_hasRun F hK hP (hts _ mw_372) dX9_cell_1 ?_
    refine lv_if_eq (tgt := 18) hx hb dX9_cell_4 (by decide) (fun c_11 => ?_) (fun c_11 => ?_)
    · have hw := hw.1 c_11
      refine lv_iconst (v := (-1)) hx hb dX9_cell_18 (by decide) ?_
      exact rtI F hr hlocks hK hw hP hS dX9_cell_19
    · have hw := hw.2 c_11
      refine lv_aload_n hx hb dX9_cell_7 rfl (lv_at hl 0 rfl) ?_
      refine gC_X9_graph F hK hP (hts _ mw_359) dX9_cell_8 ?_
      refine lv_iload_n hx hb dX9_cell_11 rfl (lv_at hl 1 rfl) ?_
      refine cvI (As := [.int a1]) (rest := []) F hK hP hS (c_X2_hasAct l D ad cI cJ hap H.size _ _ _ hw) (cwV 1 hts gU_X9_78 rfl rfl rfl (by decide +kernel) ⟨Nat.le_of_ble_eq_true rfl, Nat.le_of_ble_eq_true rfl⟩) (va_recv hK hP (ci := 2) (q0 := 1) rfl rfl) rfl hl.1 rfl (Nat.le_of_ble_eq_true rfl) dX9_cell_12 ⟨Nat.zero_le _, Nat.zero_le _⟩ (fun r_2 u_1 H locs hw hP hS => ?_)
      obtain ⟨zr_2, hw⟩ := hw
      refine lv_if_ne (tgt := 20) hx hb dX9_cell_15 (by decide) (fun c_10 => ?_) (fun c_10 => ?_)
      · have hw := hw.1 c_10
        refine lv_aload_n hx hb dX9_cell_20 rfl (lv_at hl 0 rfl) ?_
        refine gC_X9_machine F hK hP (hts _ mw_389) dX9_cell_21 ?_
        refine gC_X4_store F hK hP (hts _ mw_409) dX9_cell_24 ?_
        refine lv_aload_n hx hb dX9_cell_27 rfl (lv_at hl 0 rfl) ?_
        refine gC_X9_machine F hK hP (hts _ mw_389) dX9_cell_28 ?_
        refine gC_X4_store F hK hP (hts _ mw_409) dX9_cell_31 ?_
        refine gC_X6_rowOfAct F hK hP (hts _ mw_410) dX9_cell_34 ?_
        refine lv_iload_n hx hb dX9_cell_37 rfl (lv_at hl 1 rfl) ?_
        obtain ⟨i_9, hw⟩ := hw
        refine lC_X6_rowOfAct F hK hP i_9 dX9_cell_38 ?_
        refine lv_iload_n hx hb dX9_cell_39 rfl (lv_at hl 2 rfl) ?_
        refine cvI (As := [.int (gA u_1 13 (a1).toNatClampNeg), .int a2]) (rest := []) F hK hP hS (c_X6_placeIn l D ad cI cJ hap H.size _ _ _ _ hw) (cwV 2 hts gU_X9_94 rfl rfl rfl (by decide +kernel) ⟨Nat.le_of_ble_eq_true rfl, Nat.le_of_ble_eq_true rfl⟩) (va_recv hK hP (ci := 5) (q0 := 3) rfl rfl) rfl hl.1 rfl (Nat.le_of_ble_eq_true rfl) dX9_cell_40 ⟨Nat.zero_le _, Nat.zero_le _⟩ (fun r_4 u_3 H locs hw hP hS => ?_)
        refine lv_istore (lv' := [(4, .int r_4), (0, .ref (ad 0)), (1, .int a1), (2, .int a2), (3, .int a3)]) hx hb dX9_cell_43 hl (by decide) rfl (fun ls hl => ?_)
        refine lv_iload hx hb dX9_cell_45 (lv_at hl 0 rfl) ?_
        refine lv_iconst (v := (-1)) hx hb dX9_cell_47 (by decide) ?_
        refine lv_icmp_ne (tgt := 55) hx hb dX9_cell_48 (by decide) (fun c_8 => ?_) (fun c_8 => ?_)
        · have hw := hw.1 c_8
          refine lv_aload_n hx hb dX9_cell_55 rfl (lv_at hl 1 rfl) ?_
          refine gC_X9_machine F hK hP (hts _ mw_389) dX9_cell_56 ?_
          refine lv_aload_n hx hb dX9_cell_59 rfl (lv_at hl 1 rfl) ?_
          refine gC_X9_machine F hK hP (hts _ mw_389) dX9_cell_60 ?_
          refine gC_X4_store F hK hP (hts _ mw_409) dX9_cell_63 ?_
          refine gC_X6_written F hK hP (hts _ mw_412) dX9_cell_66 ?_
          refine lv_iload hx hb dX9_cell_69 (lv_at hl 0 rfl) ?_
          obtain ⟨i_7, hw⟩ := hw
          refine lC_X6_written F hK hP i_7 dX9_cell_71 ?_
          refine lv_iload_n hx hb dX9_cell_72 rfl (lv_at hl 4 rfl) ?_
          refine cvI (As := [.long (gL u_3 3 (r_4).toNatClampNeg), .int a3]) (rest := []) F hK hP hS (c_X4_describe l D ad cI cJ hap H.size _ _ _ _ hw) (cwV 2 hts gU_X9_74 rfl rfl rfl (by decide +kernel) ⟨Nat.le_of_ble_eq_true rfl, Nat.le_of_ble_eq_true rfl⟩) (va_recv hK hP (ci := 3) (q0 := 2) rfl rfl) rfl hl.1 rfl (Nat.le_of_ble_eq_true rfl) dX9_cell_73 ⟨Nat.zero_le _, Nat.zero_le _⟩ (fun r_6 u_5 H locs hw hP hS => ?_)
          exact rtI F hr hlocks hK hw hP hS dX9_cell_76
        · have hw := hw.2 c_8
          refine lv_iconst (v := (-1)) hx hb dX9_cell_51 (by decide) ?_
          refine lv_goto (tgt := 76) hx hb dX9_cell_52 (by decide) ?_
          exact rtI F hr hlocks hK hw hP hS dX9_cell_76
      · have hw := hw.2 c_10
        refine lv_iconst (v := (-1)) hx hb dX9_cell_18 (by decide) ?_
        exact rtI F hr hlocks hK hw hP hS dX9_cell_19
  exact key s.heap [] hP hS

abbrev rm_X9_told : Room := { frames := 2, cells := 0, slots := 0, locals := 46 }
set_option maxHeartbeats 4000000 in
set_option maxRecDepth 100000 in
theorem c_X9_told (l : Launch) (D : va_G) (ad : Nat → Nat) (cI cJ : ClassId) (hap : apart ad 42) (sz : Nat) (σ : St) (a1 : Int32) (a2 : Int32) (K : Int32 → St → Prop) (hw : w_X9_told σ a1 a2 K) : Met l yX9_told wU_X9_told rm_X9_told (va_Pc [.ref (ad 0), .int a1, .int a2] (fun U => U.heap.size = sz ∧ inW D (wdC ad cI cJ) [(cI, .int), (cJ, .long)] σ U)) (va_Qi K (inW D (wdC ad cI cJ) [(cI, .int), (cJ, .long)]) (AW ad 42 sz)) 0 0 (AW ad 42 sz) := by
  refine Met.ofW (cc := cX9_told) (maxL := 3) (ret := (some .int)) (by decide) rfl ?_
  intro p e s m args below meth c s₁ B hml hv
  obtain ⟨rfl, hsz, ⟨hP, hK⟩⟩ := hv
  have F : CallFix p m c cX9_told 3 s ([.ref (ad 0), .int a1, .int a2] : List Value).toArray lw_U RX9 := ⟨B.exec, B.bytes, hml, findClass_of_methodNamed B.named, fun w h => atoms_spec (ws := wU_X9_told) B.pre w (List.mem_cons_of_mem _ h)⟩
  have hx := F.1
  have hb := F.2.1
  have hown := F.2.2.2.1
  have hts := F.2.2.2.2
  have hr := B.returns
  have hlocks := B.notSynchronized
  subst hsz
  have hDs : ∀ σ, va_D (AW ad 42 s.heap.size) ((wdC ad cI cJ) σ) := fun σ => wdC_D hap σ
  have hS : va_S (AW ad 42 s.heap.size) s.heap s.heap [] := va_S.rf
  have hl := lv_entry ([.ref (ad 0), .int a1, .int a2]) (n := 3) (Nat.le_of_ble_eq_true rfl)
  rw [lg_entry_eq]
  generalize (lg_sl ([.ref (ad 0), .int a1, .int a2]) ++ List.replicate (3 - (lg_sl ([.ref (ad 0), .int a1, .int a2])).length) Slot.unset).toArray = ls at hl ⊢
  have hl : lv_has ls 3 [(0, .ref (ad 0)), (1, .int a1), (2, .int a2)] := hl
  have key : ∀ (H : Heap) (locs : List Loc), va_P D vwCl ((wdC ad cI cJ) σ) H → va_S (AW ad 42 s.heap.size) s.heap H locs → W p l e (headSpec wU_X9_told rm_X9_told).room s m ([.ref (ad 0), .int a1, .int a2] : List Value).toArray below meth c H locs 0 0 (MQ below (va_Qi K (inW D (wdC ad cI cJ) [(cI, .int), (cJ, .long)]) (AW ad 42 s.heap.size)) ([.ref (ad 0), .int a1, .int a2] : List Value).toArray s 0 0 (AW ad 42 s.heap.size)) (F0 m 0 ls []) := by
    intro H locs hP hS
    unfold w_X9_told at hw
    refine lv_aload_n hx hb dX9_told_0 rfl (lv_at hl 0 rfl) ?_
    refine gC_X9_graph F hK hP (hts _ mw_359) dX9_told_1 ?_
    refine lv_iload_n hx hb dX9_told_4 rfl (lv_at hl 1 rfl) ?_
    refine cvI (As := [.int a1]) (rest := []) F hK hP hS (c_X2_hasAct l D ad cI cJ hap H.size _ _ _ hw) (cwV 1 hts gU_X9_78 rfl rfl rfl (by decide +kernel) ⟨Nat.le_of_ble_eq_true rfl, Nat.le_of_ble_eq_true rfl⟩) (va_recv hK hP (ci := 2) (q0 := 1) rfl rfl) rfl hl.1 rfl (Nat.le_of_ble_eq_true rfl) dX9_told_5 ⟨Nat.zero_le _, Nat.zero_le _⟩ (fun r_2 u_1 H locs hw hP hS => ?_)
    obtain ⟨zr_2, hw⟩ := hw
    refine lv_if_ne (tgt := 13) hx hb dX9_told_8 (by decide) (fun c_31 => ?_) (fun c_31 => ?_)
    · have hw := hw.1 c_31
      refine lv_iload_n hx hb dX9_told_13 rfl (lv_at hl 2 rfl) ?_
      by_cases k_3 : a2 = 0
      · have hw := hw.1 k_3
        refine sw_in 0 (tgt := 52) F dX9_told_14 k_3 (by decide) (by decide) rfl (by decide) ?_
        refine lv_aload_n hx hb dX9_told_52 rfl (lv_at hl 0 rfl) ?_
        refine gC_X9_graph F hK hP (hts _ mw_359) dX9_told_53 ?_
        refine gC_X2_kind F hK hP (hts _ mw_413) dX9_told_56 ?_
        refine lv_iload_n hx hb dX9_told_59 rfl (lv_at hl 1 rfl) ?_
        obtain ⟨i_4, hw⟩ := hw
        refine lC_X2_kind F hK hP i_4 dX9_told_60 ?_
        exact rtI F hr hlocks hK hw hP hS dX9_told_61
      · have hw := hw.2 k_3
        by_cases k_5 : a2 = 1
        · have hw := hw.1 k_5
          refine sw_in 1 (tgt := 62) F dX9_told_14 k_5 (by decide) (by decide) rfl (by decide) ?_
          refine lv_aload_n hx hb dX9_told_62 rfl (lv_at hl 0 rfl) ?_
          refine gC_X9_graph F hK hP (hts _ mw_359) dX9_told_63 ?_
          refine gC_X2_number F hK hP (hts _ mw_414) dX9_told_66 ?_
          refine lv_iload_n hx hb dX9_told_69 rfl (lv_at hl 1 rfl) ?_
          obtain ⟨i_6, hw⟩ := hw
          refine lC_X2_number F hK hP i_6 dX9_told_70 ?_
          exact rtI F hr hlocks hK hw hP hS dX9_told_71
        · have hw := hw.2 k_5
          by_cases k_7 : a2 = 2
          · have hw := hw.1 k_7
            refine sw_in 2 (tgt := 72) F dX9_told_14 k_7 (by decide) (by decide) rfl (by decide) ?_
            refine lv_aload_n hx hb dX9_told_72 rfl (lv_at hl 0 rfl) ?_
            refine gC_X9_graph F hK hP (hts _ mw_359) dX9_told_73 ?_
            refine gC_X2_ports F hK hP (hts _ mw_415) dX9_told_76 ?_
            refine lv_iload_n hx hb dX9_told_79 rfl (lv_at hl 1 rfl) ?_
            obtain ⟨i_8, hw⟩ := hw
            refine lC_X2_ports F hK hP i_8 dX9_told_80 ?_
            exact rtI F hr hlocks hK hw hP hS dX9_told_81
          · have hw := hw.2 k_7
            by_cases k_9 : a2 = 3
            · have hw := hw.1 k_9
              refine sw_in 3 (tgt := 82) F dX9_told_14 k_9 (by decide) (by decide) rfl (by decide) ?_
              refine lv_aload_n hx hb dX9_told_82 rfl (lv_at hl 0 rfl) ?_
              refine gC_X9_graph F hK hP (hts _ mw_359) dX9_told_83 ?_
              refine lv_iload_n hx hb dX9_told_86 rfl (lv_at hl 1 rfl) ?_
              refine lv_iconst (v := 0) hx hb dX9_told_87 (by decide) ?_
              refine cvI (As := [.int a1, .int 0]) (rest := []) F hK hP hS (c_X2_countWays l D ad cI cJ hap H.size _ _ _ _ hw) (cwV 2 hts gU_X9_109 rfl rfl rfl (by decide +kernel) ⟨Nat.le_of_ble_eq_true rfl, Nat.le_of_ble_eq_true rfl⟩) (va_recv hK hP (ci := 2) (q0 := 1) rfl rfl) rfl hl.1 rfl (Nat.le_of_ble_eq_true rfl) dX9_told_88 ⟨Nat.zero_le _, Nat.zero_le _⟩ (fun r_11 u_10 H locs hw hP hS => ?_)
              exact rtI F hr hlocks hK hw hP hS dX9_told_91
            · have hw := hw.2 k_9
              by_cases k_12 : a2 = 4
              · have hw := hw.1 k_12
                refine sw_in 4 (tgt := 92) F dX9_told_14 k_12 (by decide) (by decide) rfl (by decide) ?_
                refine lv_aload_n hx hb dX9_told_92 rfl (lv_at hl 0 rfl) ?_
                refine gC_X9_graph F hK hP (hts _ mw_359) dX9_told_93 ?_
                refine lv_iload_n hx hb dX9_told_96 rfl (lv_at hl 1 rfl) ?_
                refine lv_iconst (v := 1) hx hb dX9_told_97 (by decide) ?_
                refine cvI (As := [.int a1, .int 1]) (rest := []) F hK hP hS (c_X2_countWays l D ad cI cJ hap H.size _ _ _ _ hw) (cwV 2 hts gU_X9_109 rfl rfl rfl (by decide +kernel) ⟨Nat.le_of_ble_eq_true rfl, Nat.le_of_ble_eq_true rfl⟩) (va_recv hK hP (ci := 2) (q0 := 1) rfl rfl) rfl hl.1 rfl (Nat.le_of_ble_eq_true rfl) dX9_told_98 ⟨Nat.zero_le _, Nat.zero_le _⟩ (fun r_14 u_13 H locs hw hP hS => ?_)
                exact rtI F hr hlocks hK hw hP hS dX9_told_101
              · have hw := hw.2 k_12
                by_cases k_15 : a2 = 5
                · have hw := hw.1 k_15
                  refine sw_in 5 (tgt := 102) F dX9_told_14 k_15 (by decide) (by decide) rfl (by decide) ?_
                  refine lv_aload_n hx hb dX9_told_102 rfl (lv_at hl 0 rfl) ?_
                  refine gC_X9_graph F hK hP (hts _ mw_359) dX9_told_103 ?_
                  refine lv_iload_n hx hb dX9_told_106 rfl (lv_at hl 1 rfl) ?_
                  refine cvI (As := [.int a1]) (rest := []) F hK hP hS (c_X2_countTokens l D ad cI cJ hap H.size _ _ _ hw) (cwV 1 hts gU_X9_112 rfl rfl rfl (by decide +kernel) ⟨Nat.le_of_ble_eq_true rfl, Nat.le_of_ble_eq_true rfl⟩) (va_recv hK hP (ci := 2) (q0 := 1) rfl rfl) rfl hl.1 rfl (Nat.le_of_ble_eq_true rfl) dX9_told_107 ⟨Nat.zero_le _, Nat.zero_le _⟩ (fun r_17 u_16 H locs hw hP hS => ?_)
                  exact rtI F hr hlocks hK hw hP hS dX9_told_110
                · have hw := hw.2 k_15
                  have z_18 : ¬ a2.toInt = 0 := lv_neT (fun z => k_3 z) (k := 0) (by decide)
                  have z_19 : ¬ a2.toInt = 1 := lv_neT (fun z => k_5 z) (k := 1) (by decide)
                  have z_20 : ¬ a2.toInt = 2 := lv_neT (fun z => k_7 z) (k := 2) (by decide)
                  have z_21 : ¬ a2.toInt = 3 := lv_neT (fun z => k_9 z) (k := 3) (by decide)
                  have z_22 : ¬ a2.toInt = 4 := lv_neT (fun z => k_12 z) (k := 4) (by decide)
                  have z_23 : ¬ a2.toInt = 5 := lv_neT (fun z => k_15 z) (k := 5) (by decide)
                  have kd : W p l e (headSpec wU_X9_told rm_X9_told).room s m ([.ref (ad 0), .int a1, .int a2] : List Value).toArray below meth c H locs 0 0 (MQ below (va_Qi K (inW D (wdC ad cI cJ) [(cI, .int), (cJ, .long)]) (AW ad 42 s.heap.size)) ([.ref (ad 0), .int a1, .int a2] : List Value).toArray s 0 0 (AW ad 42 s.heap.size)) (F0 m 111 ls []) := by
                    refine lv_iconst (v := (-1)) hx hb dX9_told_111 (by decide) ?_
                    exact rtI F hr hlocks hK hw hP hS dX9_told_112
                  rcases (show (a2.toInt < 0 ∨ 5 < a2.toInt) by omega) with o_24
                  · exact lv_tableOut (tgt := 111) hx hb dX9_told_14 o_24 (by decide) kd
    · have hw := hw.2 c_31
      refine lv_iconst (v := (-1)) hx hb dX9_told_11 (by decide) ?_
      exact rtI F hr hlocks hK hw hP hS dX9_told_12
  exact key s.heap [] hP hS

abbrev rm_X9_firstDifference : Room := { frames := 0, cells := 0, slots := 0, locals := 0 }
set_option maxHeartbeats 4000000 in
set_option maxRecDepth 100000 in
theorem c_X9_firstDifference (l : Launch) (D : va_G) (ad : Nat → Nat) (cI cJ : ClassId) (hap : apart ad 42) (sz : Nat) (σ : St) (K : Int32 → St → Prop) (hw : w_X9_firstDifference σ K) : Met l yX9_firstDifference wU_X9_firstDifference rm_X9_firstDifference (va_Pc [.ref (ad 0)] (fun U => U.heap.size = sz ∧ inW D (wdC ad cI cJ) [(cI, .int), (cJ, .long)] σ U)) (va_Qi K (inW D (wdC ad cI cJ) [(cI, .int), (cJ, .long)]) (AW ad 42 sz)) 0 0 (AW ad 42 sz) := by
  refine Met.ofW (cc := cX9_firstDifference) (maxL := 4) (ret := (some .int)) (by decide) rfl ?_
  intro p e s m args below meth c s₁ B hml hv
  obtain ⟨rfl, hsz, ⟨hP, hK⟩⟩ := hv
  have F : CallFix p m c cX9_firstDifference 4 s ([.ref (ad 0)] : List Value).toArray lw_U RX9 := ⟨B.exec, B.bytes, hml, findClass_of_methodNamed B.named, fun w h => atoms_spec (ws := wU_X9_firstDifference) B.pre w (List.mem_cons_of_mem _ h)⟩
  have hx := F.1
  have hb := F.2.1
  have hown := F.2.2.2.1
  have hts := F.2.2.2.2
  have hr := B.returns
  have hlocks := B.notSynchronized
  subst hsz
  have hDs : ∀ σ, va_D (AW ad 42 s.heap.size) ((wdC ad cI cJ) σ) := fun σ => wdC_D hap σ
  have hS : va_S (AW ad 42 s.heap.size) s.heap s.heap [] := va_S.rf
  have lab_41 : ∀ (n : Nat), ∀ (σ : St) (x2 : Int32) (x3 : Int32) (H : Heap) (locs : List Loc) (ls : Array Slot), w_X9_firstDifference_41 K n σ x2 x3 → va_P D vwCl ((wdC ad cI cJ) σ) H → va_S (AW ad 42 s.heap.size) s.heap H locs → lv_has ls 4 [(0, .ref (ad 0)), (2, .int x2), (3, .int x3)] → W p l e (headSpec wU_X9_firstDifference rm_X9_firstDifference).room s m ([.ref (ad 0)] : List Value).toArray below meth c H locs 0 0 (MQ below (va_Qi K (inW D (wdC ad cI cJ) [(cI, .int), (cJ, .long)]) (AW ad 42 s.heap.size)) ([.ref (ad 0)] : List Value).toArray s 0 0 (AW ad 42 s.heap.size)) (F0 m 41 ls []) := by
    intro n
    induction n with
    | zero =>
      intro σ x2 x3 H locs ls hw
      exact hw.elim
    | succ n hL41 =>
      intro σ x2 x3 H locs ls hw hP hS hl
      have hw : b_X9_firstDifference_41 (w_X9_firstDifference_41 K n) K σ x2 x3 := hw
      unfold b_X9_firstDifference_41 at hw
      generalize w_X9_firstDifference_41 K n = L41 at hw hL41
      refine lv_iload_n hx hb dX9_firstDifference_41 rfl (lv_at hl 2 rfl) ?_
      refine lv_iload_n hx hb dX9_firstDifference_42 rfl (lv_at hl 1 rfl) ?_
      refine lv_icmp_ge (tgt := 70) hx hb dX9_firstDifference_43 (by decide) (fun c_4 => ?_) (fun c_4 => ?_)
      · have hw := hw.1 c_4
        refine lv_iconst (v := (-1)) hx hb dX9_firstDifference_70 (by decide) ?_
        exact rtI F hr hlocks hK hw hP hS dX9_firstDifference_71
      · have hw := hw.2 c_4
        refine lv_aload_n hx hb dX9_firstDifference_46 rfl (lv_at hl 0 rfl) ?_
        refine gC_X9_figuresA F hK hP (hts _ mw_424) dX9_firstDifference_47 ?_
        refine lv_iload_n hx hb dX9_firstDifference_50 rfl (lv_at hl 2 rfl) ?_
        obtain ⟨i_3, hw⟩ := hw
        refine lC_X9_figuresA F hK hP i_3 dX9_firstDifference_51 ?_
        refine lv_aload_n hx hb dX9_firstDifference_52 rfl (lv_at hl 0 rfl) ?_
        refine gC_X9_figuresB F hK hP (hts _ mw_425) dX9_firstDifference_53 ?_
        refine lv_iload_n hx hb dX9_firstDifference_56 rfl (lv_at hl 2 rfl) ?_
        obtain ⟨i_2, hw⟩ := hw
        refine lC_X9_figuresB F hK hP i_2 dX9_firstDifference_57 ?_
        refine W.lcmp hx hb dX9_firstDifference_58 ?_
        refine lv_if_eq (tgt := 64) hx hb dX9_firstDifference_59 (by decide) (fun c_1 => ?_) (fun c_1 => ?_)
        · have hw := hw.1 c_1
          refine lv_iinc (v := (x3 + 1)) (lv' := [(3, .int (x3 + 1)), (0, .ref (ad 0)), (2, .int x2)]) hx hb dX9_firstDifference_64 hl (k := 2) rfl rfl (by decide) rfl (fun ls hl => ?_)
          refine lv_goto (tgt := 41) hx hb dX9_firstDifference_67 (by decide) ?_
          exact hL41 _ _ _ _ _ _ hw hP hS (lv_sub hl [1, 2, 0] rfl)
        · have hw := hw.2 c_1
          refine lv_iload_n hx hb dX9_firstDifference_62 rfl (lv_at hl 2 rfl) ?_
          exact rtI F hr hlocks hK hw hP hS dX9_firstDifference_63
  have lab_27 : ∀ (σ : St) (t0 : Int32) (H : Heap) (locs : List Loc) (ls : Array Slot), b_X9_firstDifference_27 K σ t0 → va_P D vwCl ((wdC ad cI cJ) σ) H → va_S (AW ad 42 s.heap.size) s.heap H locs → lv_has ls 4 [(0, .ref (ad 0))] → W p l e (headSpec wU_X9_firstDifference rm_X9_firstDifference).room s m ([.ref (ad 0)] : List Value).toArray below meth c H locs 0 0 (MQ below (va_Qi K (inW D (wdC ad cI cJ) [(cI, .int), (cJ, .long)]) (AW ad 42 s.heap.size)) ([.ref (ad 0)] : List Value).toArray s 0 0 (AW ad 42 s.heap.size)) (F0 m 27 ls [.int t0]) := by
    intro σ t0 H locs ls hw hP hS hl
    unfold b_X9_firstDifference_27 at hw
    refine lv_istore_n (lv' := [(1, .int t0), (0, .ref (ad 0))]) hx hb dX9_firstDifference_27 rfl hl (by decide) rfl (fun ls hl => ?_)
    refine lv_iload_n hx hb dX9_firstDifference_28 rfl (lv_at hl 0 rfl) ?_
    refine lv_if_eq (tgt := 37) hx hb dX9_firstDifference_29 (by decide) (fun c_7 => ?_) (fun c_7 => ?_)
    · have hw := hw.1 c_7
      refine lv_iconst (v := 1) hx hb dX9_firstDifference_37 (by decide) ?_
      refine lv_istore_n (lv' := [(2, .int 1), (1, .int t0), (0, .ref (ad 0))]) hx hb dX9_firstDifference_38 rfl hl (by decide) rfl (fun ls hl => ?_)
      refine lv_iconst (v := 0) hx hb dX9_firstDifference_39 (by decide) ?_
      refine lv_istore_n (lv' := [(3, .int 0), (2, .int 1), (1, .int t0), (0, .ref (ad 0))]) hx hb dX9_firstDifference_40 rfl hl (by decide) rfl (fun ls hl => ?_)
      obtain ⟨n_5, hw⟩ := hw
      exact lab_41 n_5 _ _ _ _ _ _ hw hP hS (lv_sub hl [3, 1, 0] rfl)
    · have hw := hw.2 c_7
      refine lv_bipush (v := 100) hx hb dX9_firstDifference_32 (by decide) ?_
      refine lv_goto (tgt := 38) hx hb dX9_firstDifference_34 (by decide) ?_
      refine lv_istore_n (lv' := [(2, .int 100), (1, .int t0), (0, .ref (ad 0))]) hx hb dX9_firstDifference_38 rfl hl (by decide) rfl (fun ls hl => ?_)
      refine lv_iconst (v := 0) hx hb dX9_firstDifference_39 (by decide) ?_
      refine lv_istore_n (lv' := [(3, .int 0), (2, .int 100), (1, .int t0), (0, .ref (ad 0))]) hx hb dX9_firstDifference_40 rfl hl (by decide) rfl (fun ls hl => ?_)
      obtain ⟨n_6, hw⟩ := hw
      exact lab_41 n_6 _ _ _ _ _ _ hw hP hS (lv_sub hl [3, 1, 0] rfl)
  have hl := lv_entry ([.ref (ad 0)]) (n := 4) (Nat.le_of_ble_eq_true rfl)
  rw [lg_entry_eq]
  generalize (lg_sl ([.ref (ad 0)]) ++ List.replicate (4 - (lg_sl ([.ref (ad 0)])).length) Slot.unset).toArray = ls at hl ⊢
  have hl : lv_has ls 4 [(0, .ref (ad 0))] := hl
  have key : ∀ (H : Heap) (locs : List Loc), va_P D vwCl ((wdC ad cI cJ) σ) H → va_S (AW ad 42 s.heap.size) s.heap H locs → W p l e (headSpec wU_X9_firstDifference rm_X9_firstDifference).room s m ([.ref (ad 0)] : List Value).toArray below meth c H locs 0 0 (MQ below (va_Qi K (inW D (wdC ad cI cJ) [(cI, .int), (cJ, .long)]) (AW ad 42 s.heap.size)) ([.ref (ad 0)] : List Value).toArray s 0 0 (AW ad 42 s.heap.size)) (F0 m 0 ls []) := by
    intro H locs hP hS
    unfold w_X9_firstDifference at hw
    refine lv_aload_n hx hb dX9_firstDifference_0 rfl (lv_at hl 0 rfl) ?_
    refine gC_X9_figuresA F hK hP (hts _ mw_424) dX9_firstDifference_1 ?_
    refine lv_iconst (v := 0) hx hb dX9_firstDifference_4 (by decide) ?_
    refine lC_X9_figuresA F hK hP (by unfold vp_in; decide) dX9_firstDifference_5 ?_
    refine lv_lconst (v := 0) hx hb dX9_firstDifference_6 (by decide) ?_
    refine W.lcmp hx hb dX9_firstDifference_7 ?_
    refine lv_if_ne (tgt := 26) hx hb dX9_firstDifference_8 (by decide) (fun c_9 => ?_) (fun c_9 => ?_)
    · have hw := hw.1 c_9
      refine lv_iconst (v := 0) hx hb dX9_firstDifference_26 (by decide) ?_
      exact lab_27 _ _ _ _ _ hw hP hS (lv_sub hl [0] rfl)
    · have hw := hw.2 c_9
      refine lv_aload_n hx hb dX9_firstDifference_11 rfl (lv_at hl 0 rfl) ?_
      refine gC_X9_figuresB F hK hP (hts _ mw_425) dX9_firstDifference_12 ?_
      refine lv_iconst (v := 0) hx hb dX9_firstDifference_15 (by decide) ?_
      refine lC_X9_figuresB F hK hP (by unfold vp_in; decide) dX9_firstDifference_16 ?_
      refine lv_lconst (v := 0) hx hb dX9_firstDifference_17 (by decide) ?_
      refine W.lcmp hx hb dX9_firstDifference_18 ?_
      refine lv_if_ne (tgt := 26) hx hb dX9_firstDifference_19 (by decide) (fun c_8 => ?_) (fun c_8 => ?_)
      · have hw := hw.1 c_8
        refine lv_iconst (v := 0) hx hb dX9_firstDifference_26 (by decide) ?_
        exact lab_27 _ _ _ _ _ hw hP hS (lv_sub hl [0] rfl)
      · have hw := hw.2 c_8
        refine lv_iconst (v := 1) hx hb dX9_firstDifference_22 (by decide) ?_
        refine lv_goto (tgt := 27) hx hb dX9_firstDifference_23 (by decide) ?_
        exact lab_27 _ _ _ _ _ hw hP hS (lv_sub hl [0] rfl)
  exact key s.heap [] hP hS

abbrev rm_X9_beside : Room := { frames := 6, cells := 0, slots := 0, locals := 159 }
set_option maxHeartbeats 4000000 in
set_option maxRecDepth 100000 in
theorem c_X9_beside (l : Launch) (D : va_G) (ad : Nat → Nat) (cI cJ : ClassId) (hap : apart ad 42) (sz : Nat) (σ : St) (a1 : Int32) (a2 : Int32) (a3 : Int32) (K : Int32 → St → Prop) (hw : w_X9_beside σ a1 a2 a3 K) : Met l yX9_beside wU_X9_beside rm_X9_beside (va_Pc [.ref (ad 0), .int a1, .int a2, .int a3] (fun U => U.heap.size = sz ∧ inW D (wdC ad cI cJ) [(cI, .int), (cJ, .long)] σ U)) (va_Qi K (inW D (wdC ad cI cJ) [(cI, .int), (cJ, .long)]) (AW ad 42 sz)) 0 0 (AW ad 42 sz) := by
  refine Met.ofW (cc := cX9_beside) (maxL := 4) (ret := (some .int)) (by decide) rfl ?_
  intro p e s m args below meth c s₁ B hml hv
  obtain ⟨rfl, hsz, ⟨hP, hK⟩⟩ := hv
  have F : CallFix p m c cX9_beside 4 s ([.ref (ad 0), .int a1, .int a2, .int a3] : List Value).toArray lw_U RX9 := ⟨B.exec, B.bytes, hml, findClass_of_methodNamed B.named, fun w h => atoms_spec (ws := wU_X9_beside) B.pre w (List.mem_cons_of_mem _ h)⟩
  have hx := F.1
  have hb := F.2.1
  have hown := F.2.2.2.1
  have hts := F.2.2.2.2
  have hr := B.returns
  have hlocks := B.notSynchronized
  subst hsz
  have hDs : ∀ σ, va_D (AW ad 42 s.heap.size) ((wdC ad cI cJ) σ) := fun σ => wdC_D hap σ
  have hS : va_S (AW ad 42 s.heap.size) s.heap s.heap [] := va_S.rf
  have hl := lv_entry ([.ref (ad 0), .int a1, .int a2, .int a3]) (n := 4) (Nat.le_of_ble_eq_true rfl)
  rw [lg_entry_eq]
  generalize (lg_sl ([.ref (ad 0), .int a1, .int a2, .int a3]) ++ List.replicate (4 - (lg_sl ([.ref (ad 0), .int a1, .int a2, .int a3])).length) Slot.unset).toArray = ls at hl ⊢
  have hl : lv_has ls 4 [(0, .ref (ad 0)), (1, .int a1), (2, .int a2), (3, .int a3)] := hl
  have key : ∀ (H : Heap) (locs : List Loc), va_P D vwCl ((wdC ad cI cJ) σ) H → va_S (AW ad 42 s.heap.size) s.heap H locs → W p l e (headSpec wU_X9_beside rm_X9_beside).room s m ([.ref (ad 0), .int a1, .int a2, .int a3] : List Value).toArray below meth c H locs 0 0 (MQ below (va_Qi K (inW D (wdC ad cI cJ) [(cI, .int), (cJ, .long)]) (AW ad 42 s.heap.size)) ([.ref (ad 0), .int a1, .int a2, .int a3] : List Value).toArray s 0 0 (AW ad 42 s.heap.size)) (F0 m 0 ls []) := by
    intro H locs hP hS
    unfold w_X9_beside at hw
    refine lv_iload_n hx hb dX9_beside_0 rfl (lv_at hl 3 rfl) ?_
    refine csI (As := [.int a3]) (rest := []) F hK hP hS (c_X9_isFuel l D ad cI cJ hap H.size _ _ _ hw) (va_cwS 1 hts gU_X9_56 rfl rfl rfl (by decide +kernel) ⟨Nat.le_of_ble_eq_true rfl, Nat.le_of_ble_eq_true rfl⟩) rfl hl.1 rfl (Nat.le_of_ble_eq_true rfl) dX9_beside_1 ⟨Nat.zero_le _, Nat.zero_le _⟩ (fun r_2 u_1 H locs hw hP hS => ?_)
    obtain ⟨zr_2, hw⟩ := hw
    refine lv_if_ne (tgt := 10) hx hb dX9_beside_4 (by decide) (fun c_13 => ?_) (fun c_13 => ?_)
    · have hw := hw.1 c_13
      refine lv_aload_n hx hb dX9_beside_10 rfl (lv_at hl 0 rfl) ?_
      refine lv_iconst (v := 1) hx hb dX9_beside_11 (by decide) ?_
      refine pC_X9_hasRun F hK hP hDs hS (hts _ mw_372) dX9_beside_12 (Or.inr rfl) (fun H locs hP hS => ?_)
      refine lv_aload_n hx hb dX9_beside_15 rfl (lv_at hl 0 rfl) ?_
      refine gC_X9_machine F hK hP (hts _ mw_389) dX9_beside_16 ?_
      refine lv_iload_n hx hb dX9_beside_19 rfl (lv_at hl 1 rfl) ?_
      refine lv_iload_n hx hb dX9_beside_20 rfl (lv_at hl 3 rfl) ?_
      refine cvI (As := [.int a1, .int a3]) (rest := []) F hK hP hS (c_X4_goBySeed l D ad cI cJ hap H.size _ _ _ _ hw) (cwV 2 hts gU_X9_60 rfl rfl rfl (by decide +kernel) ⟨Nat.le_of_ble_eq_true rfl, Nat.le_of_ble_eq_true rfl⟩) (va_recv hK hP (ci := 3) (q0 := 2) rfl rfl) rfl hl.1 rfl (Nat.le_of_ble_eq_true rfl) dX9_beside_21 ⟨Nat.zero_le _, Nat.zero_le _⟩ (fun r_4 u_3 H locs hw hP hS => ?_)
      refine lv_pop hx hb dX9_beside_24 rfl ?_
      refine lv_aload_n hx hb dX9_beside_25 rfl (lv_at hl 0 rfl) ?_
      refine gC_X9_machine F hK hP (hts _ mw_389) dX9_beside_26 ?_
      refine lv_aload_n hx hb dX9_beside_29 rfl (lv_at hl 0 rfl) ?_
      refine gC_X9_figuresA F hK hP (hts _ mw_424) dX9_beside_30 ?_
      refine cvV (As := [.ref (ad 7)]) (rest := []) F hK hP hS (c_X4_copyFigures_figuresA l D ad cI cJ hap H.size _ _ hw) (cwV 1 hts gU_X9_115 rfl rfl rfl (by decide +kernel) ⟨Nat.le_of_ble_eq_true rfl, Nat.le_of_ble_eq_true rfl⟩) (va_recv hK hP (ci := 3) (q0 := 2) rfl rfl) rfl hl.1 rfl (Nat.le_of_ble_eq_true rfl) dX9_beside_33 ⟨Nat.zero_le _, Nat.zero_le _⟩ (fun u_5 H locs hw hP hS => ?_)
      refine lv_aload_n hx hb dX9_beside_36 rfl (lv_at hl 0 rfl) ?_
      refine gC_X9_machine F hK hP (hts _ mw_389) dX9_beside_37 ?_
      refine lv_iload_n hx hb dX9_beside_40 rfl (lv_at hl 2 rfl) ?_
      refine lv_iload_n hx hb dX9_beside_41 rfl (lv_at hl 3 rfl) ?_
      refine cvI (As := [.int a2, .int a3]) (rest := []) F hK hP hS (c_X4_goBySeed l D ad cI cJ hap H.size _ _ _ _ hw) (cwV 2 hts gU_X9_60 rfl rfl rfl (by decide +kernel) ⟨Nat.le_of_ble_eq_true rfl, Nat.le_of_ble_eq_true rfl⟩) (va_recv hK hP (ci := 3) (q0 := 2) rfl rfl) rfl hl.1 rfl (Nat.le_of_ble_eq_true rfl) dX9_beside_42 ⟨Nat.zero_le _, Nat.zero_le _⟩ (fun r_8 u_7 H locs hw hP hS => ?_)
      refine lv_pop hx hb dX9_beside_45 rfl ?_
      refine lv_aload_n hx hb dX9_beside_46 rfl (lv_at hl 0 rfl) ?_
      refine gC_X9_machine F hK hP (hts _ mw_389) dX9_beside_47 ?_
      refine lv_aload_n hx hb dX9_beside_50 rfl (lv_at hl 0 rfl) ?_
      refine gC_X9_figuresB F hK hP (hts _ mw_425) dX9_beside_51 ?_
      refine cvV (As := [.ref (ad 8)]) (rest := []) F hK hP hS (c_X4_copyFigures_figuresB l D ad cI cJ hap H.size _ _ hw) (cwV 1 hts gU_X9_115 rfl rfl rfl (by decide +kernel) ⟨Nat.le_of_ble_eq_true rfl, Nat.le_of_ble_eq_true rfl⟩) (va_recv hK hP (ci := 3) (q0 := 2) rfl rfl) rfl hl.1 rfl (Nat.le_of_ble_eq_true rfl) dX9_beside_54 ⟨Nat.zero_le _, Nat.zero_le _⟩ (fun u_9 H locs hw hP hS => ?_)
      refine lv_aload_n hx hb dX9_beside_57 rfl (lv_at hl 0 rfl) ?_
      refine cvI (As := []) (rest := []) F hK hP hS (c_X9_firstDifference l D ad cI cJ hap H.size _ _ hw) (cwV 0 hts gU_X9_119 rfl rfl rfl (by decide +kernel) ⟨Nat.le_of_ble_eq_true rfl, Nat.le_of_ble_eq_true rfl⟩) (va_recv hK hP (ci := 6) (q0 := 0) rfl rfl) rfl hl.1 rfl (Nat.le_of_ble_eq_true rfl) dX9_beside_58 ⟨Nat.zero_le _, Nat.zero_le _⟩ (fun r_12 u_11 H locs hw hP hS => ?_)
      exact rtI F hr hlocks hK hw hP hS dX9_beside_61
    · have hw := hw.2 c_13
      refine lv_bipush (v := (-2)) hx hb dX9_beside_7 (by decide) ?_
      exact rtI F hr hlocks hK hw hP hS dX9_beside_9
  exact key s.heap [] hP hS

abbrev rm_X10_in : Room := { frames := 0, cells := 0, slots := 0, locals := 0 }
set_option maxHeartbeats 4000000 in
set_option maxRecDepth 100000 in
theorem c_X10_in (l : Launch) (D : va_G) (ad : Nat → Nat) (cI : ClassId) (hap : apart ad 40) (sz : Nat) (σ : St) (a1 : Int32) (a2 : Int32) (a3 : Int32) (K : Int32 → St → Prop) (hw : w_X10_in σ a1 a2 a3 K) : Met l yX10_in wU_X10_in rm_X10_in (va_Pc [.int a1, .int a2, .int a3] (fun U => U.heap.size = sz ∧ inW D (wdM ad cI) [(cI, .int)] σ U)) (va_Qi (fun r u => zb r ∧ K r u) (inW D (wdM ad cI) [(cI, .int)]) (AW ad 40 sz)) 0 0 (AW ad 40 sz) := by
  refine Met.ofW (cc := cX10_in) (maxL := 3) (ret := (some .boolean)) (by decide) rfl ?_
  intro p e s m args below meth c s₁ B hml hv
  obtain ⟨rfl, hsz, ⟨hP, hK⟩⟩ := hv
  have F : CallFix p m c cX10_in 3 s ([.int a1, .int a2, .int a3] : List Value).toArray lw_U RX10 := ⟨B.exec, B.bytes, hml, findClass_of_methodNamed B.named, fun w h => atoms_spec (ws := wU_X10_in) B.pre w (List.mem_cons_of_mem _ h)⟩
  have hx := F.1
  have hb := F.2.1
  have hown := F.2.2.2.1
  have hts := F.2.2.2.2
  have hr := B.returns
  have hlocks := B.notSynchronized
  subst hsz
  have hDs : ∀ σ, va_D (AW ad 40 s.heap.size) ((wdM ad cI) σ) := fun σ => wdM_D hap σ
  have hS : va_S (AW ad 40 s.heap.size) s.heap s.heap [] := va_S.rf
  have hl := lv_entry ([.int a1, .int a2, .int a3]) (n := 3) (Nat.le_of_ble_eq_true rfl)
  rw [lg_entry_eq]
  generalize (lg_sl ([.int a1, .int a2, .int a3]) ++ List.replicate (3 - (lg_sl ([.int a1, .int a2, .int a3])).length) Slot.unset).toArray = ls at hl ⊢
  have hl : lv_has ls 3 [(0, .int a1), (1, .int a2), (2, .int a3)] := hl
  have key : ∀ (H : Heap) (locs : List Loc), va_P D vwCl ((wdM ad cI) σ) H → va_S (AW ad 40 s.heap.size) s.heap H locs → W p l e (headSpec wU_X10_in rm_X10_in).room s m ([.int a1, .int a2, .int a3] : List Value).toArray below meth c H locs 0 0 (MQ below (va_Qi (fun r u => zb r ∧ K r u) (inW D (wdM ad cI) [(cI, .int)]) (AW ad 40 s.heap.size)) ([.int a1, .int a2, .int a3] : List Value).toArray s 0 0 (AW ad 40 s.heap.size)) (F0 m 0 ls []) := by
    intro H locs hP hS
    unfold w_X10_in at hw
    refine lv_iload_n hx hb dX10_in_0 rfl (lv_at hl 0 rfl) ?_
    refine lv_iload_n hx hb dX10_in_1 rfl (lv_at hl 1 rfl) ?_
    refine lv_icmp_lt (tgt := 14) hx hb dX10_in_2 (by decide) (fun c_2 => ?_) (fun c_2 => ?_)
    · have hw := hw.1 c_2
      refine lv_iconst (v := 0) hx hb dX10_in_14 (by decide) ?_
      exact rtZ F hr hlocks hK hw (Or.inl rfl) hP hS dX10_in_15
    · have hw := hw.2 c_2
      refine lv_iload_n hx hb dX10_in_5 rfl (lv_at hl 0 rfl) ?_
      refine lv_iload_n hx hb dX10_in_6 rfl (lv_at hl 2 rfl) ?_
      refine lv_icmp_gt (tgt := 14) hx hb dX10_in_7 (by decide) (fun c_1 => ?_) (fun c_1 => ?_)
      · have hw := hw.1 c_1
        refine lv_iconst (v := 0) hx hb dX10_in_14 (by decide) ?_
        exact rtZ F hr hlocks hK hw (Or.inl rfl) hP hS dX10_in_15
      · have hw := hw.2 c_1
        refine lv_iconst (v := 1) hx hb dX10_in_10 (by decide) ?_
        refine lv_goto (tgt := 15) hx hb dX10_in_11 (by decide) ?_
        exact rtZ F hr hlocks hK hw (Or.inr rfl) hP hS dX10_in_15
  exact key s.heap [] hP hS

abbrev rm_X10_isAct : Room := { frames := 1, cells := 0, slots := 0, locals := 22 }
set_option maxHeartbeats 4000000 in
set_option maxRecDepth 100000 in
theorem c_X10_isAct (l : Launch) (D : va_G) (ad : Nat → Nat) (cI : ClassId) (hap : apart ad 40) (sz : Nat) (σ : St) (a1 : Int32) (K : Int32 → St → Prop) (hw : w_X10_isAct σ a1 K) : Met l yX10_isAct wU_X10_isAct rm_X10_isAct (va_Pc [.ref (ad 0), .int a1] (fun U => U.heap.size = sz ∧ inW D (wdM ad cI) [(cI, .int)] σ U)) (va_Qi (fun r u => zb r ∧ K r u) (inW D (wdM ad cI) [(cI, .int)]) (AW ad 40 sz)) 0 0 (AW ad 40 sz) := by
  refine Met.ofW (cc := cX10_isAct) (maxL := 2) (ret := (some .boolean)) (by decide) rfl ?_
  intro p e s m args below meth c s₁ B hml hv
  obtain ⟨rfl, hsz, ⟨hP, hK⟩⟩ := hv
  have F : CallFix p m c cX10_isAct 2 s ([.ref (ad 0), .int a1] : List Value).toArray lw_U RX10 := ⟨B.exec, B.bytes, hml, findClass_of_methodNamed B.named, fun w h => atoms_spec (ws := wU_X10_isAct) B.pre w (List.mem_cons_of_mem _ h)⟩
  have hx := F.1
  have hb := F.2.1
  have hown := F.2.2.2.1
  have hts := F.2.2.2.2
  have hr := B.returns
  have hlocks := B.notSynchronized
  subst hsz
  have hDs : ∀ σ, va_D (AW ad 40 s.heap.size) ((wdM ad cI) σ) := fun σ => wdM_D hap σ
  have hS : va_S (AW ad 40 s.heap.size) s.heap s.heap [] := va_S.rf
  have hl := lv_entry ([.ref (ad 0), .int a1]) (n := 2) (Nat.le_of_ble_eq_true rfl)
  rw [lg_entry_eq]
  generalize (lg_sl ([.ref (ad 0), .int a1]) ++ List.replicate (2 - (lg_sl ([.ref (ad 0), .int a1])).length) Slot.unset).toArray = ls at hl ⊢
  have hl : lv_has ls 2 [(0, .ref (ad 0)), (1, .int a1)] := hl
  have key : ∀ (H : Heap) (locs : List Loc), va_P D vwCl ((wdM ad cI) σ) H → va_S (AW ad 40 s.heap.size) s.heap H locs → W p l e (headSpec wU_X10_isAct rm_X10_isAct).room s m ([.ref (ad 0), .int a1] : List Value).toArray below meth c H locs 0 0 (MQ below (va_Qi (fun r u => zb r ∧ K r u) (inW D (wdM ad cI) [(cI, .int)]) (AW ad 40 s.heap.size)) ([.ref (ad 0), .int a1] : List Value).toArray s 0 0 (AW ad 40 s.heap.size)) (F0 m 0 ls []) := by
    intro H locs hP hS
    unfold w_X10_isAct at hw
    refine lv_iload_n hx hb dX10_isAct_0 rfl (lv_at hl 1 rfl) ?_
    refine lv_iconst (v := 0) hx hb dX10_isAct_1 (by decide) ?_
    refine lv_aload_n hx hb dX10_isAct_2 rfl (lv_at hl 0 rfl) ?_
    refine gM_X10_acts F hK hP (hts _ mw_434) dX10_isAct_3 ?_
    refine lv_iconst (v := 1) hx hb dX10_isAct_6 (by decide) ?_
    refine lv_isub hx hb dX10_isAct_7 ?_
    refine csI (As := [.int a1, .int 0, .int ((gS σ 0) - 1)]) (rest := []) F hK hP hS (c_X10_in l D ad cI hap H.size _ _ _ _ _ hw) (va_cwS 3 hts gU_X10_131 rfl rfl rfl (by decide +kernel) ⟨Nat.le_of_ble_eq_true rfl, Nat.le_of_ble_eq_true rfl⟩) rfl hl.1 rfl (Nat.le_of_ble_eq_true rfl) dX10_isAct_8 ⟨Nat.zero_le _, Nat.zero_le _⟩ (fun r_2 u_1 H locs hw hP hS => ?_)
    obtain ⟨zr_2, hw⟩ := hw
    exact rtZ F hr hlocks hK hw zr_2 hP hS dX10_isAct_11
  exact key s.heap [] hP hS

abbrev rm_X10_portsOf : Room := { frames := 1, cells := 0, slots := 0, locals := 22 }
set_option maxHeartbeats 4000000 in
set_option maxRecDepth 100000 in
theorem c_X10_portsOf (l : Launch) (D : va_G) (ad : Nat → Nat) (cI : ClassId) (hap : apart ad 40) (sz : Nat) (σ : St) (a1 : Int32) (a2 : Int32) (K : Int32 → St → Prop) (hw : w_X10_portsOf σ a1 a2 K) : Met l yX10_portsOf wU_X10_portsOf rm_X10_portsOf (va_Pc [.int a1, .int a2] (fun U => U.heap.size = sz ∧ inW D (wdM ad cI) [(cI, .int)] σ U)) (va_Qi K (inW D (wdM ad cI) [(cI, .int)]) (AW ad 40 sz)) 0 0 (AW ad 40 sz) := by
  refine Met.ofW (cc := cX10_portsOf) (maxL := 2) (ret := (some .int)) (by decide) rfl ?_
  intro p e s m args below meth c s₁ B hml hv
  obtain ⟨rfl, hsz, ⟨hP, hK⟩⟩ := hv
  have F : CallFix p m c cX10_portsOf 2 s ([.int a1, .int a2] : List Value).toArray lw_U RX10 := ⟨B.exec, B.bytes, hml, findClass_of_methodNamed B.named, fun w h => atoms_spec (ws := wU_X10_portsOf) B.pre w (List.mem_cons_of_mem _ h)⟩
  have hx := F.1
  have hb := F.2.1
  have hown := F.2.2.2.1
  have hts := F.2.2.2.2
  have hr := B.returns
  have hlocks := B.notSynchronized
  subst hsz
  have hDs : ∀ σ, va_D (AW ad 40 s.heap.size) ((wdM ad cI) σ) := fun σ => wdM_D hap σ
  have hS : va_S (AW ad 40 s.heap.size) s.heap s.heap [] := va_S.rf
  have hl := lv_entry ([.int a1, .int a2]) (n := 2) (Nat.le_of_ble_eq_true rfl)
  rw [lg_entry_eq]
  generalize (lg_sl ([.int a1, .int a2]) ++ List.replicate (2 - (lg_sl ([.int a1, .int a2])).length) Slot.unset).toArray = ls at hl ⊢
  have hl : lv_has ls 2 [(0, .int a1), (1, .int a2)] := hl
  have key : ∀ (H : Heap) (locs : List Loc), va_P D vwCl ((wdM ad cI) σ) H → va_S (AW ad 40 s.heap.size) s.heap H locs → W p l e (headSpec wU_X10_portsOf rm_X10_portsOf).room s m ([.int a1, .int a2] : List Value).toArray below meth c H locs 0 0 (MQ below (va_Qi K (inW D (wdM ad cI) [(cI, .int)]) (AW ad 40 s.heap.size)) ([.int a1, .int a2] : List Value).toArray s 0 0 (AW ad 40 s.heap.size)) (F0 m 0 ls []) := by
    intro H locs hP hS
    unfold w_X10_portsOf at hw
    refine lv_iload_n hx hb dX10_portsOf_0 rfl (lv_at hl 0 rfl) ?_
    refine lv_bipush (v := 14) hx hb dX10_portsOf_1 (by decide) ?_
    refine lv_icmp_ne (tgt := 8) hx hb dX10_portsOf_3 (by decide) (fun c_7 => ?_) (fun c_7 => ?_)
    · have hw := hw.1 c_7
      refine lv_iload_n hx hb dX10_portsOf_8 rfl (lv_at hl 0 rfl) ?_
      refine lv_bipush (v := 19) hx hb dX10_portsOf_9 (by decide) ?_
      refine lv_icmp_ne (tgt := 16) hx hb dX10_portsOf_11 (by decide) (fun c_6 => ?_) (fun c_6 => ?_)
      · have hw := hw.1 c_6
        refine lv_iload_n hx hb dX10_portsOf_16 rfl (lv_at hl 0 rfl) ?_
        refine lv_iconst (v := 2) hx hb dX10_portsOf_17 (by decide) ?_
        refine lv_bipush (v := 8) hx hb dX10_portsOf_18 (by decide) ?_
        refine csI (As := [.int a1, .int 2, .int 8]) (rest := []) F hK hP hS (c_X10_in l D ad cI hap H.size _ _ _ _ _ hw) (va_cwS 3 hts gU_X10_131 rfl rfl rfl (by decide +kernel) ⟨Nat.le_of_ble_eq_true rfl, Nat.le_of_ble_eq_true rfl⟩) rfl hl.1 rfl (Nat.le_of_ble_eq_true rfl) dX10_portsOf_20 ⟨Nat.zero_le _, Nat.zero_le _⟩ (fun r_2 u_1 H locs hw hP hS => ?_)
        obtain ⟨zr_2, hw⟩ := hw
        refine lv_if_ne (tgt := 38) hx hb dX10_portsOf_23 (by decide) (fun c_5 => ?_) (fun c_5 => ?_)
        · have hw := hw.1 c_5
          refine lv_iconst (v := 2) hx hb dX10_portsOf_38 (by decide) ?_
          refine lv_goto (tgt := 43) hx hb dX10_portsOf_39 (by decide) ?_
          exact rtI F hr hlocks hK hw hP hS dX10_portsOf_43
        · have hw := hw.2 c_5
          refine lv_iload_n hx hb dX10_portsOf_26 rfl (lv_at hl 0 rfl) ?_
          refine lv_bipush (v := 10) hx hb dX10_portsOf_27 (by decide) ?_
          refine lv_icmp_eq (tgt := 38) hx hb dX10_portsOf_29 (by decide) (fun c_4 => ?_) (fun c_4 => ?_)
          · have hw := hw.1 c_4
            refine lv_iconst (v := 2) hx hb dX10_portsOf_38 (by decide) ?_
            refine lv_goto (tgt := 43) hx hb dX10_portsOf_39 (by decide) ?_
            exact rtI F hr hlocks hK hw hP hS dX10_portsOf_43
          · have hw := hw.2 c_4
            refine lv_iload_n hx hb dX10_portsOf_32 rfl (lv_at hl 0 rfl) ?_
            refine lv_bipush (v := 18) hx hb dX10_portsOf_33 (by decide) ?_
            refine lv_icmp_ne (tgt := 42) hx hb dX10_portsOf_35 (by decide) (fun c_3 => ?_) (fun c_3 => ?_)
            · have hw := hw.1 c_3
              refine lv_iconst (v := 1) hx hb dX10_portsOf_42 (by decide) ?_
              exact rtI F hr hlocks hK hw hP hS dX10_portsOf_43
            · have hw := hw.2 c_3
              refine lv_iconst (v := 2) hx hb dX10_portsOf_38 (by decide) ?_
              refine lv_goto (tgt := 43) hx hb dX10_portsOf_39 (by decide) ?_
              exact rtI F hr hlocks hK hw hP hS dX10_portsOf_43
      · have hw := hw.2 c_6
        refine lv_iconst (v := 3) hx hb dX10_portsOf_14 (by decide) ?_
        exact rtI F hr hlocks hK hw hP hS dX10_portsOf_15
    · have hw := hw.2 c_7
      refine lv_iload_n hx hb dX10_portsOf_6 rfl (lv_at hl 1 rfl) ?_
      exact rtI F hr hlocks hK hw hP hS dX10_portsOf_7
  exact key s.heap [] hP hS
