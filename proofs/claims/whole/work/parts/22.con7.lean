abbrev rm_X4_goByTicks : Room := { frames := 6, cells := 0, slots := 0, locals := 157 }
set_option maxHeartbeats 4000000 in
set_option maxRecDepth 100000 in
theorem c_X4_goByTicks (l : Launch) (D : va_G) (ad : Nat → Nat) (cI cJ : ClassId) (hap : apart ad 42) (sz : Nat) (σ : St) (a1 : Int32) (K : Int32 → St → Prop) (hw : w_X4_goByTicks σ a1 K) : Met l yX4_goByTicks wU_X4_goByTicks rm_X4_goByTicks (va_Pc [.ref (ad 2), .int a1] (fun U => U.heap.size = sz ∧ inW D (wdC ad cI cJ) [(cI, .int), (cJ, .long)] σ U)) (va_Qi K (inW D (wdC ad cI cJ) [(cI, .int), (cJ, .long)]) (AW ad 42 sz)) 0 0 (AW ad 42 sz) := by
  refine Met.ofW (cc := cX4_goByTicks) (maxL := 3) (ret := (some .int)) (by decide) rfl ?_
  intro p e s m args below meth c s₁ B hml hv
  obtain ⟨rfl, hsz, ⟨hP, hK⟩⟩ := hv
  have F : CallFix p m c cX4_goByTicks 3 s ([.ref (ad 2), .int a1] : List Value).toArray lw_U RX4 := ⟨B.exec, B.bytes, hml, findClass_of_methodNamed B.named, fun w h => atoms_spec (ws := wU_X4_goByTicks) B.pre w (List.mem_cons_of_mem _ h)⟩
  have hx := F.1
  have hb := F.2.1
  have hown := F.2.2.2.1
  have hts := F.2.2.2.2
  have hr := B.returns
  have hlocks := B.notSynchronized
  subst hsz
  have hDs : ∀ σ, va_D (AW ad 42 s.heap.size) ((wdC ad cI cJ) σ) := fun σ => wdC_D hap σ
  have hS : va_S (AW ad 42 s.heap.size) s.heap s.heap [] := va_S.rf
  have lab_6 : ∀ (n : Nat), ∀ (σ : St) (x1 : Int32) (x2 : Int32) (H : Heap) (locs : List Loc) (ls : Array Slot), w_X4_goByTicks_6 K n σ x1 x2 → va_P D vwCl ((wdC ad cI cJ) σ) H → va_S (AW ad 42 s.heap.size) s.heap H locs → lv_has ls 3 [(0, .ref (ad 2)), (1, .int x1), (2, .int x2)] → W p l e (headSpec wU_X4_goByTicks rm_X4_goByTicks).room s m ([.ref (ad 2), .int a1] : List Value).toArray below meth c H locs 0 0 (MQ below (va_Qi K (inW D (wdC ad cI cJ) [(cI, .int), (cJ, .long)]) (AW ad 42 s.heap.size)) ([.ref (ad 2), .int a1] : List Value).toArray s 0 0 (AW ad 42 s.heap.size)) (F0 m 6 ls []) := by
    intro n
    induction n with
    | zero =>
      intro σ x1 x2 H locs ls hw
      exact hw.elim
    | succ n hL6 =>
      intro σ x1 x2 H locs ls hw hP hS hl
      have hw : b_X4_goByTicks_6 (w_X4_goByTicks_6 K n) K σ x1 x2 := hw
      unfold b_X4_goByTicks_6 at hw
      generalize w_X4_goByTicks_6 K n = L6 at hw hL6
      refine lv_iload_n hx hb dX4_goByTicks_6 rfl (lv_at hl 2 rfl) ?_
      refine lv_iload_n hx hb dX4_goByTicks_7 rfl (lv_at hl 1 rfl) ?_
      refine lv_icmp_gt (tgt := 30) hx hb dX4_goByTicks_8 (by decide) (fun c_6 => ?_) (fun c_6 => ?_)
      · have hw := hw.1 c_6
        refine lv_aload_n hx hb dX4_goByTicks_30 rfl (lv_at hl 0 rfl) ?_
        refine gC_X4_how F hK hP (hts _ mw_83) dX4_goByTicks_31 ?_
        exact rtI F hr hlocks hK hw hP hS dX4_goByTicks_34
      · have hw := hw.2 c_6
        refine lv_aload_n hx hb dX4_goByTicks_11 rfl (lv_at hl 0 rfl) ?_
        refine lv_iload_n hx hb dX4_goByTicks_12 rfl (lv_at hl 1 rfl) ?_
        refine cvI (As := [.int x1]) (rest := []) F hK hP hS (c_X4_mayStep l D ad cI cJ hap H.size _ _ _ hw) (cwV 1 hts gU_X4_54 rfl rfl rfl (by decide +kernel) ⟨Nat.le_of_ble_eq_true rfl, Nat.le_of_ble_eq_true rfl⟩) (va_recv hK hP (ci := 3) (q0 := 2) rfl rfl) rfl hl.1 rfl (Nat.le_of_ble_eq_true rfl) dX4_goByTicks_13 ⟨Nat.zero_le _, Nat.zero_le _⟩ (fun r_2 u_1 H locs hw hP hS => ?_)
        obtain ⟨zr_2, hw⟩ := hw
        refine lv_if_eq (tgt := 30) hx hb dX4_goByTicks_16 (by decide) (fun c_5 => ?_) (fun c_5 => ?_)
        · have hw := hw.1 c_5
          refine lv_aload_n hx hb dX4_goByTicks_30 rfl (lv_at hl 0 rfl) ?_
          refine gC_X4_how F hK hP (hts _ mw_83) dX4_goByTicks_31 ?_
          exact rtI F hr hlocks hK hw hP hS dX4_goByTicks_34
        · have hw := hw.2 c_5
          refine lv_aload_n hx hb dX4_goByTicks_19 rfl (lv_at hl 0 rfl) ?_
          refine lv_iload_n hx hb dX4_goByTicks_20 rfl (lv_at hl 1 rfl) ?_
          refine cvV (As := [.int x1]) (rest := []) F hK hP hS (c_X4_goTick l D ad cI cJ hap H.size _ _ _ hw) (cwV 1 hts gU_X4_81 rfl rfl rfl (by decide +kernel) ⟨Nat.le_of_ble_eq_true rfl, Nat.le_of_ble_eq_true rfl⟩) (va_recv hK hP (ci := 3) (q0 := 2) rfl rfl) rfl hl.1 rfl (Nat.le_of_ble_eq_true rfl) dX4_goByTicks_21 ⟨Nat.zero_le _, Nat.zero_le _⟩ (fun u_3 H locs hw hP hS => ?_)
          refine lv_iinc (v := (x2 + 1)) (lv' := [(2, .int (x2 + 1)), (0, .ref (ad 2)), (1, .int x1)]) hx hb dX4_goByTicks_24 hl (k := 2) rfl rfl (by decide) rfl (fun ls hl => ?_)
          refine lv_goto (tgt := 6) hx hb dX4_goByTicks_27 (by decide) ?_
          exact hL6 _ _ _ _ _ _ hw hP hS (lv_sub hl [1, 2, 0] rfl)
  have hl := lv_entry ([.ref (ad 2), .int a1]) (n := 3) (Nat.le_of_ble_eq_true rfl)
  rw [lg_entry_eq]
  generalize (lg_sl ([.ref (ad 2), .int a1]) ++ List.replicate (3 - (lg_sl ([.ref (ad 2), .int a1])).length) Slot.unset).toArray = ls at hl ⊢
  have hl : lv_has ls 3 [(0, .ref (ad 2)), (1, .int a1)] := hl
  have key : ∀ (H : Heap) (locs : List Loc), va_P D vwCl ((wdC ad cI cJ) σ) H → va_S (AW ad 42 s.heap.size) s.heap H locs → W p l e (headSpec wU_X4_goByTicks rm_X4_goByTicks).room s m ([.ref (ad 2), .int a1] : List Value).toArray below meth c H locs 0 0 (MQ below (va_Qi K (inW D (wdC ad cI cJ) [(cI, .int), (cJ, .long)]) (AW ad 42 s.heap.size)) ([.ref (ad 2), .int a1] : List Value).toArray s 0 0 (AW ad 42 s.heap.size)) (F0 m 0 ls []) := by
    intro H locs hP hS
    unfold w_X4_goByTicks at hw
    refine lv_aload_n hx hb dX4_goByTicks_0 rfl (lv_at hl 0 rfl) ?_
    refine cvV (As := []) (rest := []) F hK hP hS (c_X4_begin l D ad cI cJ hap H.size _ _ hw) (cwV 0 hts gU_X4_51 rfl rfl rfl (by decide +kernel) ⟨Nat.le_of_ble_eq_true rfl, Nat.le_of_ble_eq_true rfl⟩) (va_recv hK hP (ci := 3) (q0 := 2) rfl rfl) rfl hl.1 rfl (Nat.le_of_ble_eq_true rfl) dX4_goByTicks_1 ⟨Nat.zero_le _, Nat.zero_le _⟩ (fun u_7 H locs hw hP hS => ?_)
    refine lv_iconst (v := 0) hx hb dX4_goByTicks_4 (by decide) ?_
    refine lv_istore_n (lv' := [(2, .int 0), (0, .ref (ad 2)), (1, .int a1)]) hx hb dX4_goByTicks_5 rfl hl (by decide) rfl (fun ls hl => ?_)
    obtain ⟨n_9, hw⟩ := hw
    exact lab_6 n_9 _ _ _ _ _ _ hw hP hS (lv_sub hl [1, 2, 0] rfl)
  exact key s.heap [] hP hS

abbrev rm_X4_figure : Room := { frames := 1, cells := 0, slots := 0, locals := 20 }
set_option maxHeartbeats 4000000 in
set_option maxRecDepth 100000 in
theorem c_X4_figure (l : Launch) (D : va_G) (ad : Nat → Nat) (cI cJ : ClassId) (hap : apart ad 42) (sz : Nat) (σ : St) (a1 : Int32) (K : Int32 → St → Prop) (hw : w_X4_figure σ a1 K) : Met l yX4_figure wU_X4_figure rm_X4_figure (va_Pc [.ref (ad 2), .int a1] (fun U => U.heap.size = sz ∧ inW D (wdC ad cI cJ) [(cI, .int), (cJ, .long)] σ U)) (va_Qi K (inW D (wdC ad cI cJ) [(cI, .int), (cJ, .long)]) (AW ad 42 sz)) 0 0 (AW ad 42 sz) := by
  refine Met.ofW (cc := cX4_figure) (maxL := 2) (ret := (some .int)) (by decide) rfl ?_
  intro p e s m args below meth c s₁ B hml hv
  obtain ⟨rfl, hsz, ⟨hP, hK⟩⟩ := hv
  have F : CallFix p m c cX4_figure 2 s ([.ref (ad 2), .int a1] : List Value).toArray lw_U RX4 := ⟨B.exec, B.bytes, hml, findClass_of_methodNamed B.named, fun w h => atoms_spec (ws := wU_X4_figure) B.pre w (List.mem_cons_of_mem _ h)⟩
  have hx := F.1
  have hb := F.2.1
  have hown := F.2.2.2.1
  have hts := F.2.2.2.2
  have hr := B.returns
  have hlocks := B.notSynchronized
  subst hsz
  have hDs : ∀ σ, va_D (AW ad 42 s.heap.size) ((wdC ad cI cJ) σ) := fun σ => wdC_D hap σ
  have hS : va_S (AW ad 42 s.heap.size) s.heap s.heap [] := va_S.rf
  have hl := lv_entry ([.ref (ad 2), .int a1]) (n := 2) (Nat.le_of_ble_eq_true rfl)
  rw [lg_entry_eq]
  generalize (lg_sl ([.ref (ad 2), .int a1]) ++ List.replicate (2 - (lg_sl ([.ref (ad 2), .int a1])).length) Slot.unset).toArray = ls at hl ⊢
  have hl : lv_has ls 2 [(0, .ref (ad 2)), (1, .int a1)] := hl
  have key : ∀ (H : Heap) (locs : List Loc), va_P D vwCl ((wdC ad cI cJ) σ) H → va_S (AW ad 42 s.heap.size) s.heap H locs → W p l e (headSpec wU_X4_figure rm_X4_figure).room s m ([.ref (ad 2), .int a1] : List Value).toArray below meth c H locs 0 0 (MQ below (va_Qi K (inW D (wdC ad cI cJ) [(cI, .int), (cJ, .long)]) (AW ad 42 s.heap.size)) ([.ref (ad 2), .int a1] : List Value).toArray s 0 0 (AW ad 42 s.heap.size)) (F0 m 0 ls []) := by
    intro H locs hP hS
    unfold w_X4_figure at hw
    refine lv_iload_n hx hb dX4_figure_0 rfl (lv_at hl 1 rfl) ?_
    by_cases k_1 : a1 = 0
    · have hw := hw.1 k_1
      refine sw_in 0 (tgt := 60) F dX4_figure_1 k_1 (by decide) (by decide) rfl (by decide) ?_
      refine lv_aload_n hx hb dX4_figure_60 rfl (lv_at hl 0 rfl) ?_
      refine gC_X4_how F hK hP (hts _ mw_83) dX4_figure_61 ?_
      exact rtI F hr hlocks hK hw hP hS dX4_figure_64
    · have hw := hw.2 k_1
      by_cases k_2 : a1 = 1
      · have hw := hw.1 k_2
        refine sw_in 1 (tgt := 65) F dX4_figure_1 k_2 (by decide) (by decide) rfl (by decide) ?_
        refine lv_aload_n hx hb dX4_figure_65 rfl (lv_at hl 0 rfl) ?_
        refine gC_X4_steps F hK hP (hts _ mw_150) dX4_figure_66 ?_
        exact rtI F hr hlocks hK hw hP hS dX4_figure_69
      · have hw := hw.2 k_2
        by_cases k_3 : a1 = 2
        · have hw := hw.1 k_3
          refine sw_in 2 (tgt := 70) F dX4_figure_1 k_3 (by decide) (by decide) rfl (by decide) ?_
          refine lv_aload_n hx hb dX4_figure_70 rfl (lv_at hl 0 rfl) ?_
          refine gC_X4_tickCount F hK hP (hts _ mw_151) dX4_figure_71 ?_
          exact rtI F hr hlocks hK hw hP hS dX4_figure_74
        · have hw := hw.2 k_3
          by_cases k_4 : a1 = 3
          · have hw := hw.1 k_4
            refine sw_in 3 (tgt := 75) F dX4_figure_1 k_4 (by decide) (by decide) rfl (by decide) ?_
            refine lv_aload_n hx hb dX4_figure_75 rfl (lv_at hl 0 rfl) ?_
            refine gC_X4_most F hK hP (hts _ mw_152) dX4_figure_76 ?_
            exact rtI F hr hlocks hK hw hP hS dX4_figure_79
          · have hw := hw.2 k_4
            by_cases k_5 : a1 = 4
            · have hw := hw.1 k_5
              refine sw_in 4 (tgt := 80) F dX4_figure_1 k_5 (by decide) (by decide) rfl (by decide) ?_
              refine lv_aload_n hx hb dX4_figure_80 rfl (lv_at hl 0 rfl) ?_
              refine gC_X4_floor F hK hP (hts _ mw_86) dX4_figure_81 ?_
              refine gC_X1_left F hK hP (hts _ mw_349) dX4_figure_84 ?_
              exact rtI F hr hlocks hK hw hP hS dX4_figure_87
            · have hw := hw.2 k_5
              by_cases k_6 : a1 = 5
              · have hw := hw.1 k_6
                refine sw_in 5 (tgt := 88) F dX4_figure_1 k_6 (by decide) (by decide) rfl (by decide) ?_
                refine lv_aload_n hx hb dX4_figure_88 rfl (lv_at hl 0 rfl) ?_
                refine gC_X4_store F hK hP (hts _ mw_142) dX4_figure_89 ?_
                refine gC_X6_waiting F hK hP (hts _ mw_350) dX4_figure_92 ?_
                exact rtI F hr hlocks hK hw hP hS dX4_figure_95
              · have hw := hw.2 k_6
                by_cases k_7 : a1 = 6
                · have hw := hw.1 k_7
                  refine sw_in 6 (tgt := 96) F dX4_figure_1 k_7 (by decide) (by decide) rfl (by decide) ?_
                  refine lv_aload_n hx hb dX4_figure_96 rfl (lv_at hl 0 rfl) ?_
                  refine gC_X4_lost F hK hP (hts _ mw_153) dX4_figure_97 ?_
                  exact rtI F hr hlocks hK hw hP hS dX4_figure_100
                · have hw := hw.2 k_7
                  by_cases k_8 : a1 = 7
                  · have hw := hw.1 k_8
                    refine sw_in 7 (tgt := 101) F dX4_figure_1 k_8 (by decide) (by decide) rfl (by decide) ?_
                    refine lv_aload_n hx hb dX4_figure_101 rfl (lv_at hl 0 rfl) ?_
                    refine gC_X4_strays F hK hP (hts _ mw_154) dX4_figure_102 ?_
                    exact rtI F hr hlocks hK hw hP hS dX4_figure_105
                  · have hw := hw.2 k_8
                    by_cases k_9 : a1 = 8
                    · have hw := hw.1 k_9
                      refine sw_in 8 (tgt := 106) F dX4_figure_1 k_9 (by decide) (by decide) rfl (by decide) ?_
                      refine lv_aload_n hx hb dX4_figure_106 rfl (lv_at hl 0 rfl) ?_
                      refine gC_X4_colours F hK hP (hts _ mw_129) dX4_figure_107 ?_
                      refine gC_X0_count F hK hP (hts _ mw_351) dX4_figure_110 ?_
                      exact rtI F hr hlocks hK hw hP hS dX4_figure_113
                    · have hw := hw.2 k_9
                      by_cases k_10 : a1 = 9
                      · have hw := hw.1 k_10
                        refine sw_in 9 (tgt := 114) F dX4_figure_1 k_10 (by decide) (by decide) rfl (by decide) ?_
                        refine lv_aload_n hx hb dX4_figure_114 rfl (lv_at hl 0 rfl) ?_
                        refine gC_X4_clashAct F hK hP (hts _ mw_84) dX4_figure_115 ?_
                        exact rtI F hr hlocks hK hw hP hS dX4_figure_118
                      · have hw := hw.2 k_10
                        by_cases k_11 : a1 = 10
                        · have hw := hw.1 k_11
                          refine sw_in 10 (tgt := 119) F dX4_figure_1 k_11 (by decide) (by decide) rfl (by decide) ?_
                          refine lv_aload_n hx hb dX4_figure_119 rfl (lv_at hl 0 rfl) ?_
                          refine gC_X4_ready F hK hP (hts _ mw_98) dX4_figure_120 ?_
                          refine cvI (As := []) (rest := []) F hK hP hS (c_X5_size l D ad cI cJ hap H.size _ _ hw) (cwV 0 hts gU_X4_59 rfl rfl rfl (by decide +kernel) ⟨Nat.le_of_ble_eq_true rfl, Nat.le_of_ble_eq_true rfl⟩) (va_recv hK hP (ci := 4) (q0 := 6) rfl rfl) rfl hl.1 rfl (Nat.le_of_ble_eq_true rfl) dX4_figure_123 ⟨Nat.zero_le _, Nat.zero_le _⟩ (fun r_13 u_12 H locs hw hP hS => ?_)
                          exact rtI F hr hlocks hK hw hP hS dX4_figure_126
                        · have hw := hw.2 k_11
                          have z_14 : ¬ a1.toInt = 0 := lv_neT (fun z => k_1 z) (k := 0) (by decide)
                          have z_15 : ¬ a1.toInt = 1 := lv_neT (fun z => k_2 z) (k := 1) (by decide)
                          have z_16 : ¬ a1.toInt = 2 := lv_neT (fun z => k_3 z) (k := 2) (by decide)
                          have z_17 : ¬ a1.toInt = 3 := lv_neT (fun z => k_4 z) (k := 3) (by decide)
                          have z_18 : ¬ a1.toInt = 4 := lv_neT (fun z => k_5 z) (k := 4) (by decide)
                          have z_19 : ¬ a1.toInt = 5 := lv_neT (fun z => k_6 z) (k := 5) (by decide)
                          have z_20 : ¬ a1.toInt = 6 := lv_neT (fun z => k_7 z) (k := 6) (by decide)
                          have z_21 : ¬ a1.toInt = 7 := lv_neT (fun z => k_8 z) (k := 7) (by decide)
                          have z_22 : ¬ a1.toInt = 8 := lv_neT (fun z => k_9 z) (k := 8) (by decide)
                          have z_23 : ¬ a1.toInt = 9 := lv_neT (fun z => k_10 z) (k := 9) (by decide)
                          have z_24 : ¬ a1.toInt = 10 := lv_neT (fun z => k_11 z) (k := 10) (by decide)
                          have kd : W p l e (headSpec wU_X4_figure rm_X4_figure).room s m ([.ref (ad 2), .int a1] : List Value).toArray below meth c H locs 0 0 (MQ below (va_Qi K (inW D (wdC ad cI cJ) [(cI, .int), (cJ, .long)]) (AW ad 42 s.heap.size)) ([.ref (ad 2), .int a1] : List Value).toArray s 0 0 (AW ad 42 s.heap.size)) (F0 m 127 ls []) := by
                            refine lv_iconst (v := (-1)) hx hb dX4_figure_127 (by decide) ?_
                            exact rtI F hr hlocks hK hw hP hS dX4_figure_128
                          rcases (show (a1.toInt < 0 ∨ 10 < a1.toInt) by omega) with o_25
                          · exact lv_tableOut (tgt := 127) hx hb dX4_figure_1 o_25 (by decide) kd
  exact key s.heap [] hP hS

abbrev rm_X8_actOf : Room := { frames := 0, cells := 0, slots := 0, locals := 0 }
set_option maxHeartbeats 4000000 in
set_option maxRecDepth 100000 in
theorem c_X8_actOf (l : Launch) (D : va_G) (ad : Nat → Nat) (cI cJ : ClassId) (hap : apart ad 42) (sz : Nat) (σ : St) (a1 : Int64) (K : Int32 → St → Prop) (hw : w_X8_actOf σ a1 K) : Met l yX8_actOf wU_X8_actOf rm_X8_actOf (va_Pc [.long a1] (fun U => U.heap.size = sz ∧ inW D (wdC ad cI cJ) [(cI, .int), (cJ, .long)] σ U)) (va_Qi K (inW D (wdC ad cI cJ) [(cI, .int), (cJ, .long)]) (AW ad 42 sz)) 0 0 (AW ad 42 sz) := by
  refine Met.ofW (cc := cX8_actOf) (maxL := 2) (ret := (some .int)) (by decide) rfl ?_
  intro p e s m args below meth c s₁ B hml hv
  obtain ⟨rfl, hsz, ⟨hP, hK⟩⟩ := hv
  have F : CallFix p m c cX8_actOf 2 s ([.long a1] : List Value).toArray lw_U RX8 := ⟨B.exec, B.bytes, hml, findClass_of_methodNamed B.named, fun w h => atoms_spec (ws := wU_X8_actOf) B.pre w (List.mem_cons_of_mem _ h)⟩
  have hx := F.1
  have hb := F.2.1
  have hown := F.2.2.2.1
  have hts := F.2.2.2.2
  have hr := B.returns
  have hlocks := B.notSynchronized
  subst hsz
  have hDs : ∀ σ, va_D (AW ad 42 s.heap.size) ((wdC ad cI cJ) σ) := fun σ => wdC_D hap σ
  have hS : va_S (AW ad 42 s.heap.size) s.heap s.heap [] := va_S.rf
  have hl := lv_entry ([.long a1]) (n := 2) (Nat.le_of_ble_eq_true rfl)
  rw [lg_entry_eq]
  generalize (lg_sl ([.long a1]) ++ List.replicate (2 - (lg_sl ([.long a1])).length) Slot.unset).toArray = ls at hl ⊢
  have hl : lv_has ls 2 [(0, .long a1)] := hl
  have key : ∀ (H : Heap) (locs : List Loc), va_P D vwCl ((wdC ad cI cJ) σ) H → va_S (AW ad 42 s.heap.size) s.heap H locs → W p l e (headSpec wU_X8_actOf rm_X8_actOf).room s m ([.long a1] : List Value).toArray below meth c H locs 0 0 (MQ below (va_Qi K (inW D (wdC ad cI cJ) [(cI, .int), (cJ, .long)]) (AW ad 42 s.heap.size)) ([.long a1] : List Value).toArray s 0 0 (AW ad 42 s.heap.size)) (F0 m 0 ls []) := by
    intro H locs hP hS
    unfold w_X8_actOf at hw
    refine lv_lload_n hx hb dX8_actOf_0 rfl (lv_at hl 0 rfl) ?_
    refine lv_bipush (v := 32) hx hb dX8_actOf_1 (by decide) ?_
    refine lv_lushr hx hb dX8_actOf_3 rfl ?_
    refine lv_l2i hx hb dX8_actOf_4 rfl ?_
    refine lv_sipush (v := 255) hx hb dX8_actOf_5 (by decide) ?_
    refine lv_iand hx hb dX8_actOf_8 ?_
    exact rtI F hr hlocks hK hw hP hS dX8_actOf_9
  exact key s.heap [] hP hS

abbrev rm_X4_describe : Room := { frames := 1, cells := 0, slots := 0, locals := 21 }
set_option maxHeartbeats 4000000 in
set_option maxRecDepth 100000 in
theorem c_X4_describe (l : Launch) (D : va_G) (ad : Nat → Nat) (cI cJ : ClassId) (hap : apart ad 42) (sz : Nat) (σ : St) (a1 : Int64) (a2 : Int32) (K : Int32 → St → Prop) (hw : w_X4_describe σ a1 a2 K) : Met l yX4_describe wU_X4_describe rm_X4_describe (va_Pc [.ref (ad 2), .long a1, .int a2] (fun U => U.heap.size = sz ∧ inW D (wdC ad cI cJ) [(cI, .int), (cJ, .long)] σ U)) (va_Qi K (inW D (wdC ad cI cJ) [(cI, .int), (cJ, .long)]) (AW ad 42 sz)) 0 0 (AW ad 42 sz) := by
  refine Met.ofW (cc := cX4_describe) (maxL := 6) (ret := (some .int)) (by decide) rfl ?_
  intro p e s m args below meth c s₁ B hml hv
  obtain ⟨rfl, hsz, ⟨hP, hK⟩⟩ := hv
  have F : CallFix p m c cX4_describe 6 s ([.ref (ad 2), .long a1, .int a2] : List Value).toArray lw_U RX4 := ⟨B.exec, B.bytes, hml, findClass_of_methodNamed B.named, fun w h => atoms_spec (ws := wU_X4_describe) B.pre w (List.mem_cons_of_mem _ h)⟩
  have hx := F.1
  have hb := F.2.1
  have hown := F.2.2.2.1
  have hts := F.2.2.2.2
  have hr := B.returns
  have hlocks := B.notSynchronized
  subst hsz
  have hDs : ∀ σ, va_D (AW ad 42 s.heap.size) ((wdC ad cI cJ) σ) := fun σ => wdC_D hap σ
  have hS : va_S (AW ad 42 s.heap.size) s.heap s.heap [] := va_S.rf
  have hl := lv_entry ([.ref (ad 2), .long a1, .int a2]) (n := 6) (Nat.le_of_ble_eq_true rfl)
  rw [lg_entry_eq]
  generalize (lg_sl ([.ref (ad 2), .long a1, .int a2]) ++ List.replicate (6 - (lg_sl ([.ref (ad 2), .long a1, .int a2])).length) Slot.unset).toArray = ls at hl ⊢
  have hl : lv_has ls 6 [(0, .ref (ad 2)), (1, .long a1), (3, .int a2)] := hl
  have key : ∀ (H : Heap) (locs : List Loc), va_P D vwCl ((wdC ad cI cJ) σ) H → va_S (AW ad 42 s.heap.size) s.heap H locs → W p l e (headSpec wU_X4_describe rm_X4_describe).room s m ([.ref (ad 2), .long a1, .int a2] : List Value).toArray below meth c H locs 0 0 (MQ below (va_Qi K (inW D (wdC ad cI cJ) [(cI, .int), (cJ, .long)]) (AW ad 42 s.heap.size)) ([.ref (ad 2), .long a1, .int a2] : List Value).toArray s 0 0 (AW ad 42 s.heap.size)) (F0 m 0 ls []) := by
    intro H locs hP hS
    unfold w_X4_describe at hw
    refine lv_lload_n hx hb dX4_describe_0 rfl (lv_at hl 1 rfl) ?_
    refine csI (As := [.long a1]) (rest := []) F hK hP hS (c_X8_sortOf l D ad cI cJ hap H.size _ _ _ hw) (va_cwS 1 hts gU_X4_105 rfl rfl rfl (by decide +kernel) ⟨Nat.le_of_ble_eq_true rfl, Nat.le_of_ble_eq_true rfl⟩) rfl hl.1 rfl (Nat.le_of_ble_eq_true rfl) dX4_describe_1 ⟨Nat.zero_le _, Nat.zero_le _⟩ (fun r_2 u_1 H locs hw hP hS => ?_)
    refine lv_istore (lv' := [(4, .int r_2), (0, .ref (ad 2)), (1, .long a1), (3, .int a2)]) hx hb dX4_describe_4 hl (by decide) rfl (fun ls hl => ?_)
    refine lv_iload_n hx hb dX4_describe_6 rfl (lv_at hl 3 rfl) ?_
    by_cases k_3 : a2 = 0
    · have hw := hw.1 k_3
      refine sw_in 0 (tgt := 32) F dX4_describe_7 k_3 (by decide) (by decide) rfl (by decide) ?_
      refine lv_iload hx hb dX4_describe_32 (lv_at hl 0 rfl) ?_
      exact rtI F hr hlocks hK hw hP hS dX4_describe_34
    · have hw := hw.2 k_3
      by_cases k_4 : a2 = 1
      · have hw := hw.1 k_4
        refine sw_in 1 (tgt := 35) F dX4_describe_7 k_4 (by decide) (by decide) rfl (by decide) ?_
        refine lv_lload_n hx hb dX4_describe_35 rfl (lv_at hl 2 rfl) ?_
        refine lv_lconst (v := 0) hx hb dX4_describe_36 (by decide) ?_
        refine W.lcmp hx hb dX4_describe_37 ?_
        refine lv_if_ne (tgt := 43) hx hb dX4_describe_38 (by decide) (fun c_10 => ?_) (fun c_10 => ?_)
        · have hw := hw.1 c_10
          refine lv_lload_n hx hb dX4_describe_43 rfl (lv_at hl 2 rfl) ?_
          refine csI (As := [.long a1]) (rest := []) F hK hP hS (c_X8_contentOf l D ad cI cJ hap H.size _ _ _ hw) (va_cwS 1 hts gU_X4_111 rfl rfl rfl (by decide +kernel) ⟨Nat.le_of_ble_eq_true rfl, Nat.le_of_ble_eq_true rfl⟩) rfl hl.1 rfl (Nat.le_of_ble_eq_true rfl) dX4_describe_44 ⟨Nat.zero_le _, Nat.zero_le _⟩ (fun r_6 u_5 H locs hw hP hS => ?_)
          refine lv_istore (lv' := [(5, .int r_6), (4, .int r_2), (0, .ref (ad 2)), (1, .long a1), (3, .int a2)]) hx hb dX4_describe_47 hl (by decide) rfl (fun ls hl => ?_)
          refine lv_iload hx hb dX4_describe_49 (lv_at hl 1 rfl) ?_
          refine lv_iconst (v := 2) hx hb dX4_describe_51 (by decide) ?_
          refine lv_icmp_ne (tgt := 67) hx hb dX4_describe_52 (by decide) (fun c_9 => ?_) (fun c_9 => ?_)
          · have hw := hw.1 c_9
            refine lv_iload hx hb dX4_describe_67 (lv_at hl 0 rfl) ?_
            exact rtI F hr hlocks hK hw hP hS dX4_describe_69
          · have hw := hw.2 c_9
            refine lv_aload_n hx hb dX4_describe_55 rfl (lv_at hl 2 rfl) ?_
            refine gC_X4_store F hK hP (hts _ mw_142) dX4_describe_56 ?_
            refine lv_iload hx hb dX4_describe_59 (lv_at hl 0 rfl) ?_
            refine cvI (As := [.int r_6]) (rest := []) F hK hP hS (c_X6_sizeOf l D ad cI cJ hap H.size _ _ _ hw) (cwV 1 hts gU_X4_114 rfl rfl rfl (by decide +kernel) ⟨Nat.le_of_ble_eq_true rfl, Nat.le_of_ble_eq_true rfl⟩) (va_recv hK hP (ci := 5) (q0 := 3) rfl rfl) rfl hl.1 rfl (Nat.le_of_ble_eq_true rfl) dX4_describe_61 ⟨Nat.zero_le _, Nat.zero_le _⟩ (fun r_8 u_7 H locs hw hP hS => ?_)
            refine lv_goto (tgt := 69) hx hb dX4_describe_64 (by decide) ?_
            exact rtI F hr hlocks hK hw hP hS dX4_describe_69
        · have hw := hw.2 c_10
          refine lv_iconst (v := (-1)) hx hb dX4_describe_41 (by decide) ?_
          exact rtI F hr hlocks hK hw hP hS dX4_describe_42
      · have hw := hw.2 k_4
        by_cases k_11 : a2 = 2
        · have hw := hw.1 k_11
          refine sw_in 2 (tgt := 70) F dX4_describe_7 k_11 (by decide) (by decide) rfl (by decide) ?_
          refine lv_iload hx hb dX4_describe_70 (lv_at hl 0 rfl) ?_
          refine lv_iconst (v := 3) hx hb dX4_describe_72 (by decide) ?_
          refine lv_icmp_ne (tgt := 83) hx hb dX4_describe_73 (by decide) (fun c_14 => ?_) (fun c_14 => ?_)
          · have hw := hw.1 c_14
            refine lv_iconst (v := (-1)) hx hb dX4_describe_83 (by decide) ?_
            exact rtI F hr hlocks hK hw hP hS dX4_describe_84
          · have hw := hw.2 c_14
            refine lv_lload_n hx hb dX4_describe_76 rfl (lv_at hl 2 rfl) ?_
            refine csI (As := [.long a1]) (rest := []) F hK hP hS (c_X8_actOf l D ad cI cJ hap H.size _ _ _ hw) (va_cwS 1 hts gU_X4_117 rfl rfl rfl (by decide +kernel) ⟨Nat.le_of_ble_eq_true rfl, Nat.le_of_ble_eq_true rfl⟩) rfl hl.1 rfl (Nat.le_of_ble_eq_true rfl) dX4_describe_77 ⟨Nat.zero_le _, Nat.zero_le _⟩ (fun r_13 u_12 H locs hw hP hS => ?_)
            refine lv_goto (tgt := 84) hx hb dX4_describe_80 (by decide) ?_
            exact rtI F hr hlocks hK hw hP hS dX4_describe_84
        · have hw := hw.2 k_11
          have z_15 : ¬ a2.toInt = 0 := lv_neT (fun z => k_3 z) (k := 0) (by decide)
          have z_16 : ¬ a2.toInt = 1 := lv_neT (fun z => k_4 z) (k := 1) (by decide)
          have z_17 : ¬ a2.toInt = 2 := lv_neT (fun z => k_11 z) (k := 2) (by decide)
          have kd : W p l e (headSpec wU_X4_describe rm_X4_describe).room s m ([.ref (ad 2), .long a1, .int a2] : List Value).toArray below meth c H locs 0 0 (MQ below (va_Qi K (inW D (wdC ad cI cJ) [(cI, .int), (cJ, .long)]) (AW ad 42 s.heap.size)) ([.ref (ad 2), .long a1, .int a2] : List Value).toArray s 0 0 (AW ad 42 s.heap.size)) (F0 m 85 ls []) := by
            refine lv_iconst (v := (-1)) hx hb dX4_describe_85 (by decide) ?_
            exact rtI F hr hlocks hK hw hP hS dX4_describe_86
          rcases (show (a2.toInt < 0 ∨ 2 < a2.toInt) by omega) with o_18
          · exact lv_tableOut (tgt := 85) hx hb dX4_describe_7 o_18 (by decide) kd
  exact key s.heap [] hP hS

abbrev rm_X4_comparable : Room := { frames := 1, cells := 0, slots := 0, locals := 21 }
set_option maxHeartbeats 4000000 in
set_option maxRecDepth 100000 in
theorem c_X4_comparable (l : Launch) (D : va_G) (ad : Nat → Nat) (cI cJ : ClassId) (hap : apart ad 42) (sz : Nat) (σ : St) (a1 : Int64) (K : Int64 → St → Prop) (hw : w_X4_comparable σ a1 K) : Met l yX4_comparable wU_X4_comparable rm_X4_comparable (va_Pc [.ref (ad 2), .long a1] (fun U => U.heap.size = sz ∧ inW D (wdC ad cI cJ) [(cI, .int), (cJ, .long)] σ U)) (va_Ql K (inW D (wdC ad cI cJ) [(cI, .int), (cJ, .long)]) (AW ad 42 sz)) 0 0 (AW ad 42 sz) := by
  refine Met.ofW (cc := cX4_comparable) (maxL := 3) (ret := (some .long)) (by decide) rfl ?_
  intro p e s m args below meth c s₁ B hml hv
  obtain ⟨rfl, hsz, ⟨hP, hK⟩⟩ := hv
  have F : CallFix p m c cX4_comparable 3 s ([.ref (ad 2), .long a1] : List Value).toArray lw_U RX4 := ⟨B.exec, B.bytes, hml, findClass_of_methodNamed B.named, fun w h => atoms_spec (ws := wU_X4_comparable) B.pre w (List.mem_cons_of_mem _ h)⟩
  have hx := F.1
  have hb := F.2.1
  have hown := F.2.2.2.1
  have hts := F.2.2.2.2
  have hr := B.returns
  have hlocks := B.notSynchronized
  subst hsz
  have hDs : ∀ σ, va_D (AW ad 42 s.heap.size) ((wdC ad cI cJ) σ) := fun σ => wdC_D hap σ
  have hS : va_S (AW ad 42 s.heap.size) s.heap s.heap [] := va_S.rf
  have hl := lv_entry ([.ref (ad 2), .long a1]) (n := 3) (Nat.le_of_ble_eq_true rfl)
  rw [lg_entry_eq]
  generalize (lg_sl ([.ref (ad 2), .long a1]) ++ List.replicate (3 - (lg_sl ([.ref (ad 2), .long a1])).length) Slot.unset).toArray = ls at hl ⊢
  have hl : lv_has ls 3 [(0, .ref (ad 2)), (1, .long a1)] := hl
  have key : ∀ (H : Heap) (locs : List Loc), va_P D vwCl ((wdC ad cI cJ) σ) H → va_S (AW ad 42 s.heap.size) s.heap H locs → W p l e (headSpec wU_X4_comparable rm_X4_comparable).room s m ([.ref (ad 2), .long a1] : List Value).toArray below meth c H locs 0 0 (MQ below (va_Ql K (inW D (wdC ad cI cJ) [(cI, .int), (cJ, .long)]) (AW ad 42 s.heap.size)) ([.ref (ad 2), .long a1] : List Value).toArray s 0 0 (AW ad 42 s.heap.size)) (F0 m 0 ls []) := by
    intro H locs hP hS
    unfold w_X4_comparable at hw
    refine lv_lload_n hx hb dX4_comparable_0 rfl (lv_at hl 1 rfl) ?_
    refine csI (As := [.long a1]) (rest := []) F hK hP hS (c_X8_sortOf l D ad cI cJ hap H.size _ _ _ hw) (va_cwS 1 hts gU_X4_105 rfl rfl rfl (by decide +kernel) ⟨Nat.le_of_ble_eq_true rfl, Nat.le_of_ble_eq_true rfl⟩) rfl hl.1 rfl (Nat.le_of_ble_eq_true rfl) dX4_comparable_1 ⟨Nat.zero_le _, Nat.zero_le _⟩ (fun r_2 u_1 H locs hw hP hS => ?_)
    refine lv_iconst (v := 2) hx hb dX4_comparable_4 (by decide) ?_
    refine lv_icmp_eq (tgt := 10) hx hb dX4_comparable_5 (by decide) (fun c_9 => ?_) (fun c_9 => ?_)
    · have hw := hw.1 c_9
      refine lv_aload_n hx hb dX4_comparable_10 rfl (lv_at hl 0 rfl) ?_
      refine gC_X4_store F hK hP (hts _ mw_142) dX4_comparable_11 ?_
      refine lv_lload_n hx hb dX4_comparable_14 rfl (lv_at hl 1 rfl) ?_
      refine csI (As := [.long a1]) (rest := [.ref (ad 3)]) F hK hP hS (c_X8_contentOf l D ad cI cJ hap H.size _ _ _ hw) (va_cwS 1 hts gU_X4_111 rfl rfl rfl (by decide +kernel) ⟨Nat.le_of_ble_eq_true rfl, Nat.le_of_ble_eq_true rfl⟩) rfl hl.1 rfl (Nat.le_of_ble_eq_true rfl) dX4_comparable_15 ⟨Nat.zero_le _, Nat.zero_le _⟩ (fun r_4 u_3 H locs hw hP hS => ?_)
      refine cvI (As := [.int r_4]) (rest := []) F hK hP hS (c_X6_sizeOf l D ad cI cJ hap H.size _ _ _ hw) (cwV 1 hts gU_X4_114 rfl rfl rfl (by decide +kernel) ⟨Nat.le_of_ble_eq_true rfl, Nat.le_of_ble_eq_true rfl⟩) (va_recv hK hP (ci := 5) (q0 := 3) rfl rfl) rfl hl.1 rfl (Nat.le_of_ble_eq_true rfl) dX4_comparable_18 ⟨Nat.zero_le _, Nat.zero_le _⟩ (fun r_6 u_5 H locs hw hP hS => ?_)
      refine csL (As := [.int r_6]) (rest := []) F hK hP hS (c_X8_ofRow l D ad cI cJ hap H.size _ _ _ hw) (va_cwS 1 hts gU_X4_124 rfl rfl rfl (by decide +kernel) ⟨Nat.le_of_ble_eq_true rfl, Nat.le_of_ble_eq_true rfl⟩) rfl hl.1 rfl (Nat.le_of_ble_eq_true rfl) dX4_comparable_21 ⟨Nat.zero_le _, Nat.zero_le _⟩ (fun r_8 u_7 H locs hw hP hS => ?_)
      exact rtL F hr hlocks hK hw hP hS dX4_comparable_24
    · have hw := hw.2 c_9
      refine lv_lload_n hx hb dX4_comparable_8 rfl (lv_at hl 1 rfl) ?_
      exact rtL F hr hlocks hK hw hP hS dX4_comparable_9
  exact key s.heap [] hP hS

abbrev rm_X4_copyFigures_figuresA : Room := { frames := 2, cells := 0, slots := 0, locals := 43 }
set_option maxHeartbeats 4000000 in
set_option maxRecDepth 100000 in
theorem c_X4_copyFigures_figuresA (l : Launch) (D : va_G) (ad : Nat → Nat) (cI cJ : ClassId) (hap : apart ad 42) (sz : Nat) (σ : St) (K : St → Prop) (hw : w_X4_copyFigures_figuresA σ K) : Met l yX4_copyFigures wU_X4_copyFigures rm_X4_copyFigures_figuresA (va_Pc [.ref (ad 2), .ref (ad 7)] (fun U => U.heap.size = sz ∧ inW D (wdC ad cI cJ) [(cI, .int), (cJ, .long)] σ U)) (va_Qv K (inW D (wdC ad cI cJ) [(cI, .int), (cJ, .long)]) (AW ad 42 sz)) 0 0 (AW ad 42 sz) := by
  refine Met.ofW (cc := cX4_copyFigures) (maxL := 3) (ret := none) (by decide) rfl ?_
  intro p e s m args below meth c s₁ B hml hv
  obtain ⟨rfl, hsz, ⟨hP, hK⟩⟩ := hv
  have F : CallFix p m c cX4_copyFigures 3 s ([.ref (ad 2), .ref (ad 7)] : List Value).toArray lw_U RX4 := ⟨B.exec, B.bytes, hml, findClass_of_methodNamed B.named, fun w h => atoms_spec (ws := wU_X4_copyFigures) B.pre w (List.mem_cons_of_mem _ h)⟩
  have hx := F.1
  have hb := F.2.1
  have hown := F.2.2.2.1
  have hts := F.2.2.2.2
  have hr := B.returns
  have hlocks := B.notSynchronized
  subst hsz
  have hDs : ∀ σ, va_D (AW ad 42 s.heap.size) ((wdC ad cI cJ) σ) := fun σ => wdC_D hap σ
  have hS : va_S (AW ad 42 s.heap.size) s.heap s.heap [] := va_S.rf
  have lab_86 : ∀ (n : Nat), ∀ (σ : St) (x2 : Int32) (H : Heap) (locs : List Loc) (ls : Array Slot), w_X4_copyFigures_figuresA_86 K n σ x2 → va_P D vwCl ((wdC ad cI cJ) σ) H → va_S (AW ad 42 s.heap.size) s.heap H locs → lv_has ls 3 [(0, .ref (ad 2)), (1, .ref (ad 7)), (2, .int x2)] → W p l e (headSpec wU_X4_copyFigures rm_X4_copyFigures_figuresA).room s m ([.ref (ad 2), .ref (ad 7)] : List Value).toArray below meth c H locs 0 0 (MQ below (va_Qv K (inW D (wdC ad cI cJ) [(cI, .int), (cJ, .long)]) (AW ad 42 s.heap.size)) ([.ref (ad 2), .ref (ad 7)] : List Value).toArray s 0 0 (AW ad 42 s.heap.size)) (F0 m 86 ls []) := by
    intro n
    induction n with
    | zero =>
      intro σ x2 H locs ls hw
      exact hw.elim
    | succ n hL86 =>
      intro σ x2 H locs ls hw hP hS hl
      have hw : b_X4_copyFigures_figuresA_86 (w_X4_copyFigures_figuresA_86 K n) K σ x2 := hw
      unfold b_X4_copyFigures_figuresA_86 at hw
      generalize w_X4_copyFigures_figuresA_86 K n = L86 at hw hL86
      refine lv_iload_n hx hb dX4_copyFigures_86 rfl (lv_at hl 2 rfl) ?_
      refine lv_bipush (v := 80) hx hb dX4_copyFigures_87 (by decide) ?_
      refine lv_icmp_ge (tgt := 111) hx hb dX4_copyFigures_89 (by decide) (fun c_3 => ?_) (fun c_3 => ?_)
      · have hw := hw.1 c_3
        exact rtV F hr hlocks hK hw hP hS dX4_copyFigures_111
      · have hw := hw.2 c_3
        refine lv_aload_n hx hb dX4_copyFigures_92 rfl (lv_at hl 1 rfl) ?_
        refine lv_bipush (v := 20) hx hb dX4_copyFigures_93 (by decide) ?_
        refine lv_iload_n hx hb dX4_copyFigures_95 rfl (lv_at hl 2 rfl) ?_
        refine lv_iadd hx hb dX4_copyFigures_96 ?_
        refine lv_aload_n hx hb dX4_copyFigures_97 rfl (lv_at hl 0 rfl) ?_
        refine gC_X4_firings F hK hP (hts _ mw_148) dX4_copyFigures_98 ?_
        refine lv_iload_n hx hb dX4_copyFigures_101 rfl (lv_at hl 2 rfl) ?_
        obtain ⟨i_2, hw⟩ := hw
        refine lC_X4_firings F hK hP i_2 dX4_copyFigures_102 ?_
        refine lv_i2l hx hb dX4_copyFigures_103 rfl ?_
        obtain ⟨i_1, hw⟩ := hw
        refine sC_X9_figuresA F hK hP hDs hS i_1 dX4_copyFigures_104 (fun H locs hP hS => ?_)
        refine lv_iinc (v := (x2 + 1)) (lv' := [(2, .int (x2 + 1)), (0, .ref (ad 2)), (1, .ref (ad 7))]) hx hb dX4_copyFigures_105 hl (k := 2) rfl rfl (by decide) rfl (fun ls hl => ?_)
        refine lv_goto (tgt := 86) hx hb dX4_copyFigures_108 (by decide) ?_
        exact hL86 _ _ _ _ _ hw hP hS (lv_sub hl [1, 2, 0] rfl)
  have lab_56 : ∀ (n : Nat), ∀ (σ : St) (x2 : Int32) (H : Heap) (locs : List Loc) (ls : Array Slot), w_X4_copyFigures_figuresA_56 K n σ x2 → va_P D vwCl ((wdC ad cI cJ) σ) H → va_S (AW ad 42 s.heap.size) s.heap H locs → lv_has ls 3 [(0, .ref (ad 2)), (1, .ref (ad 7)), (2, .int x2)] → W p l e (headSpec wU_X4_copyFigures rm_X4_copyFigures_figuresA).room s m ([.ref (ad 2), .ref (ad 7)] : List Value).toArray below meth c H locs 0 0 (MQ below (va_Qv K (inW D (wdC ad cI cJ) [(cI, .int), (cJ, .long)]) (AW ad 42 s.heap.size)) ([.ref (ad 2), .ref (ad 7)] : List Value).toArray s 0 0 (AW ad 42 s.heap.size)) (F0 m 56 ls []) := by
    intro n
    induction n with
    | zero =>
      intro σ x2 H locs ls hw
      exact hw.elim
    | succ n hL56 =>
      intro σ x2 H locs ls hw hP hS hl
      have hw : b_X4_copyFigures_figuresA_56 (w_X4_copyFigures_figuresA_56 K n) K σ x2 := hw
      unfold b_X4_copyFigures_figuresA_56 at hw
      generalize w_X4_copyFigures_figuresA_56 K n = L56 at hw hL56
      refine lv_iload_n hx hb dX4_copyFigures_56 rfl (lv_at hl 2 rfl) ?_
      refine lv_bipush (v := 10) hx hb dX4_copyFigures_57 (by decide) ?_
      refine lv_icmp_ge (tgt := 84) hx hb dX4_copyFigures_59 (by decide) (fun c_9 => ?_) (fun c_9 => ?_)
      · have hw := hw.1 c_9
        refine lv_iconst (v := 0) hx hb dX4_copyFigures_84 (by decide) ?_
        refine lv_istore_n (lv' := [(2, .int 0), (0, .ref (ad 2)), (1, .ref (ad 7))]) hx hb dX4_copyFigures_85 rfl hl (by decide) rfl (fun ls hl => ?_)
        obtain ⟨n_4, hw⟩ := hw
        exact lab_86 n_4 _ _ _ _ _ hw hP hS (lv_sub hl [1, 2, 0] rfl)
      · have hw := hw.2 c_9
        refine lv_aload_n hx hb dX4_copyFigures_62 rfl (lv_at hl 1 rfl) ?_
        refine lv_bipush (v := 10) hx hb dX4_copyFigures_63 (by decide) ?_
        refine lv_iload_n hx hb dX4_copyFigures_65 rfl (lv_at hl 2 rfl) ?_
        refine lv_iadd hx hb dX4_copyFigures_66 ?_
        refine lv_aload_n hx hb dX4_copyFigures_67 rfl (lv_at hl 0 rfl) ?_
        refine lv_aload_n hx hb dX4_copyFigures_68 rfl (lv_at hl 0 rfl) ?_
        refine gC_X4_ends F hK hP (hts _ mw_149) dX4_copyFigures_69 ?_
        refine lv_iload_n hx hb dX4_copyFigures_72 rfl (lv_at hl 2 rfl) ?_
        obtain ⟨i_8, hw⟩ := hw
        refine lC_X4_ends F hK hP i_8 dX4_copyFigures_73 ?_
        refine cvL (As := [.long (gL σ 2 (x2).toNatClampNeg)]) (rest := [.int (10 + x2), .ref (ad 7)]) F hK hP hS (c_X4_comparable l D ad cI cJ hap H.size _ _ _ hw) (cwV 1 hts gU_X4_120 rfl rfl rfl (by decide +kernel) ⟨Nat.le_of_ble_eq_true rfl, Nat.le_of_ble_eq_true rfl⟩) (va_recv hK hP (ci := 3) (q0 := 2) rfl rfl) rfl hl.1 rfl (Nat.le_of_ble_eq_true rfl) dX4_copyFigures_74 ⟨Nat.zero_le _, Nat.zero_le _⟩ (fun r_6 u_5 H locs hw hP hS => ?_)
        obtain ⟨i_7, hw⟩ := hw
        refine sC_X9_figuresA F hK hP hDs hS i_7 dX4_copyFigures_77 (fun H locs hP hS => ?_)
        refine lv_iinc (v := (x2 + 1)) (lv' := [(2, .int (x2 + 1)), (0, .ref (ad 2)), (1, .ref (ad 7))]) hx hb dX4_copyFigures_78 hl (k := 2) rfl rfl (by decide) rfl (fun ls hl => ?_)
        refine lv_goto (tgt := 56) hx hb dX4_copyFigures_81 (by decide) ?_
        exact hL56 _ _ _ _ _ hw hP hS (lv_sub hl [1, 2, 0] rfl)
  have hl := lv_entry ([.ref (ad 2), .ref (ad 7)]) (n := 3) (Nat.le_of_ble_eq_true rfl)
  rw [lg_entry_eq]
  generalize (lg_sl ([.ref (ad 2), .ref (ad 7)]) ++ List.replicate (3 - (lg_sl ([.ref (ad 2), .ref (ad 7)])).length) Slot.unset).toArray = ls at hl ⊢
  have hl : lv_has ls 3 [(0, .ref (ad 2)), (1, .ref (ad 7))] := hl
  have key : ∀ (H : Heap) (locs : List Loc), va_P D vwCl ((wdC ad cI cJ) σ) H → va_S (AW ad 42 s.heap.size) s.heap H locs → W p l e (headSpec wU_X4_copyFigures rm_X4_copyFigures_figuresA).room s m ([.ref (ad 2), .ref (ad 7)] : List Value).toArray below meth c H locs 0 0 (MQ below (va_Qv K (inW D (wdC ad cI cJ) [(cI, .int), (cJ, .long)]) (AW ad 42 s.heap.size)) ([.ref (ad 2), .ref (ad 7)] : List Value).toArray s 0 0 (AW ad 42 s.heap.size)) (F0 m 0 ls []) := by
    intro H locs hP hS
    unfold w_X4_copyFigures_figuresA at hw
    refine lv_aload_n hx hb dX4_copyFigures_0 rfl (lv_at hl 1 rfl) ?_
    refine lv_iconst (v := 0) hx hb dX4_copyFigures_1 (by decide) ?_
    refine lv_aload_n hx hb dX4_copyFigures_2 rfl (lv_at hl 0 rfl) ?_
    refine gC_X4_how F hK hP (hts _ mw_83) dX4_copyFigures_3 ?_
    refine lv_i2l hx hb dX4_copyFigures_6 rfl ?_
    refine sC_X9_figuresA F hK hP hDs hS (by unfold vp_in; decide) dX4_copyFigures_7 (fun H locs hP hS => ?_)
    refine lv_aload_n hx hb dX4_copyFigures_8 rfl (lv_at hl 1 rfl) ?_
    refine lv_iconst (v := 1) hx hb dX4_copyFigures_9 (by decide) ?_
    refine lv_aload_n hx hb dX4_copyFigures_10 rfl (lv_at hl 0 rfl) ?_
    refine gC_X4_steps F hK hP (hts _ mw_150) dX4_copyFigures_11 ?_
    refine jvi (y := (gS σ 5)) (by simp only [gS_sS, gS_sA, gS_sL, gS_fA, gS_fL, gA_sS, gA_sA, gA_sL, gA_fA, gA_fL, gL_sS, gL_sA, gL_sL, gL_fA, gL_fL, reduceIte, Nat.reduceEqDiff]) ?_
    refine lv_i2l hx hb dX4_copyFigures_14 rfl ?_
    refine sC_X9_figuresA F hK hP hDs hS (by unfold vp_in; decide) dX4_copyFigures_15 (fun H locs hP hS => ?_)
    refine lv_aload_n hx hb dX4_copyFigures_16 rfl (lv_at hl 1 rfl) ?_
    refine lv_iconst (v := 2) hx hb dX4_copyFigures_17 (by decide) ?_
    refine lv_aload_n hx hb dX4_copyFigures_18 rfl (lv_at hl 0 rfl) ?_
    refine gC_X4_floor F hK hP (hts _ mw_86) dX4_copyFigures_19 ?_
    refine gC_X1_left F hK hP (hts _ mw_349) dX4_copyFigures_22 ?_
    refine jvi (y := (gS σ 15)) (by simp only [gS_sS, gS_sA, gS_sL, gS_fA, gS_fL, gA_sS, gA_sA, gA_sL, gA_fA, gA_fL, gL_sS, gL_sA, gL_sL, gL_fA, gL_fL, reduceIte, Nat.reduceEqDiff]) ?_
    refine lv_i2l hx hb dX4_copyFigures_25 rfl ?_
    refine sC_X9_figuresA F hK hP hDs hS (by unfold vp_in; decide) dX4_copyFigures_26 (fun H locs hP hS => ?_)
    refine lv_aload_n hx hb dX4_copyFigures_27 rfl (lv_at hl 1 rfl) ?_
    refine lv_iconst (v := 3) hx hb dX4_copyFigures_28 (by decide) ?_
    refine lv_aload_n hx hb dX4_copyFigures_29 rfl (lv_at hl 0 rfl) ?_
    refine gC_X4_store F hK hP (hts _ mw_142) dX4_copyFigures_30 ?_
    refine gC_X6_waiting F hK hP (hts _ mw_350) dX4_copyFigures_33 ?_
    refine jvi (y := (gS σ 11)) (by simp only [gS_sS, gS_sA, gS_sL, gS_fA, gS_fL, gA_sS, gA_sA, gA_sL, gA_fA, gA_fL, gL_sS, gL_sA, gL_sL, gL_fA, gL_fL, reduceIte, Nat.reduceEqDiff]) ?_
    refine lv_i2l hx hb dX4_copyFigures_36 rfl ?_
    refine sC_X9_figuresA F hK hP hDs hS (by unfold vp_in; decide) dX4_copyFigures_37 (fun H locs hP hS => ?_)
    refine lv_aload_n hx hb dX4_copyFigures_38 rfl (lv_at hl 1 rfl) ?_
    refine lv_iconst (v := 4) hx hb dX4_copyFigures_39 (by decide) ?_
    refine lv_aload_n hx hb dX4_copyFigures_40 rfl (lv_at hl 0 rfl) ?_
    refine gC_X4_lost F hK hP (hts _ mw_153) dX4_copyFigures_41 ?_
    refine jvi (y := (gS σ 8)) (by simp only [gS_sS, gS_sA, gS_sL, gS_fA, gS_fL, gA_sS, gA_sA, gA_sL, gA_fA, gA_fL, gL_sS, gL_sA, gL_sL, gL_fA, gL_fL, reduceIte, Nat.reduceEqDiff]) ?_
    refine lv_i2l hx hb dX4_copyFigures_44 rfl ?_
    refine sC_X9_figuresA F hK hP hDs hS (by unfold vp_in; decide) dX4_copyFigures_45 (fun H locs hP hS => ?_)
    refine lv_aload_n hx hb dX4_copyFigures_46 rfl (lv_at hl 1 rfl) ?_
    refine lv_iconst (v := 5) hx hb dX4_copyFigures_47 (by decide) ?_
    refine lv_aload_n hx hb dX4_copyFigures_48 rfl (lv_at hl 0 rfl) ?_
    refine gC_X4_strays F hK hP (hts _ mw_154) dX4_copyFigures_49 ?_
    refine jvi (y := (gS σ 9)) (by simp only [gS_sS, gS_sA, gS_sL, gS_fA, gS_fL, gA_sS, gA_sA, gA_sL, gA_fA, gA_fL, gL_sS, gL_sA, gL_sL, gL_fA, gL_fL, reduceIte, Nat.reduceEqDiff]) ?_
    refine lv_i2l hx hb dX4_copyFigures_52 rfl ?_
    refine sC_X9_figuresA F hK hP hDs hS (by unfold vp_in; decide) dX4_copyFigures_53 (fun H locs hP hS => ?_)
    refine lv_iconst (v := 0) hx hb dX4_copyFigures_54 (by decide) ?_
    refine lv_istore_n (lv' := [(2, .int 0), (0, .ref (ad 2)), (1, .ref (ad 7))]) hx hb dX4_copyFigures_55 rfl hl (by decide) rfl (fun ls hl => ?_)
    obtain ⟨n_10, hw⟩ := hw
    exact lab_56 n_10 _ _ _ _ _ hw hP hS (lv_sub hl [1, 2, 0] rfl)
  exact key s.heap [] hP hS

abbrev rm_X4_copyFigures_figuresB : Room := { frames := 2, cells := 0, slots := 0, locals := 43 }
set_option maxHeartbeats 4000000 in
set_option maxRecDepth 100000 in
theorem c_X4_copyFigures_figuresB (l : Launch) (D : va_G) (ad : Nat → Nat) (cI cJ : ClassId) (hap : apart ad 42) (sz : Nat) (σ : St) (K : St → Prop) (hw : w_X4_copyFigures_figuresB σ K) : Met l yX4_copyFigures wU_X4_copyFigures rm_X4_copyFigures_figuresB (va_Pc [.ref (ad 2), .ref (ad 8)] (fun U => U.heap.size = sz ∧ inW D (wdC ad cI cJ) [(cI, .int), (cJ, .long)] σ U)) (va_Qv K (inW D (wdC ad cI cJ) [(cI, .int), (cJ, .long)]) (AW ad 42 sz)) 0 0 (AW ad 42 sz) := by
  refine Met.ofW (cc := cX4_copyFigures) (maxL := 3) (ret := none) (by decide) rfl ?_
  intro p e s m args below meth c s₁ B hml hv
  obtain ⟨rfl, hsz, ⟨hP, hK⟩⟩ := hv
  have F : CallFix p m c cX4_copyFigures 3 s ([.ref (ad 2), .ref (ad 8)] : List Value).toArray lw_U RX4 := ⟨B.exec, B.bytes, hml, findClass_of_methodNamed B.named, fun w h => atoms_spec (ws := wU_X4_copyFigures) B.pre w (List.mem_cons_of_mem _ h)⟩
  have hx := F.1
  have hb := F.2.1
  have hown := F.2.2.2.1
  have hts := F.2.2.2.2
  have hr := B.returns
  have hlocks := B.notSynchronized
  subst hsz
  have hDs : ∀ σ, va_D (AW ad 42 s.heap.size) ((wdC ad cI cJ) σ) := fun σ => wdC_D hap σ
  have hS : va_S (AW ad 42 s.heap.size) s.heap s.heap [] := va_S.rf
  have lab_86 : ∀ (n : Nat), ∀ (σ : St) (x2 : Int32) (H : Heap) (locs : List Loc) (ls : Array Slot), w_X4_copyFigures_figuresB_86 K n σ x2 → va_P D vwCl ((wdC ad cI cJ) σ) H → va_S (AW ad 42 s.heap.size) s.heap H locs → lv_has ls 3 [(0, .ref (ad 2)), (1, .ref (ad 8)), (2, .int x2)] → W p l e (headSpec wU_X4_copyFigures rm_X4_copyFigures_figuresB).room s m ([.ref (ad 2), .ref (ad 8)] : List Value).toArray below meth c H locs 0 0 (MQ below (va_Qv K (inW D (wdC ad cI cJ) [(cI, .int), (cJ, .long)]) (AW ad 42 s.heap.size)) ([.ref (ad 2), .ref (ad 8)] : List Value).toArray s 0 0 (AW ad 42 s.heap.size)) (F0 m 86 ls []) := by
    intro n
    induction n with
    | zero =>
      intro σ x2 H locs ls hw
      exact hw.elim
    | succ n hL86 =>
      intro σ x2 H locs ls hw hP hS hl
      have hw : b_X4_copyFigures_figuresB_86 (w_X4_copyFigures_figuresB_86 K n) K σ x2 := hw
      unfold b_X4_copyFigures_figuresB_86 at hw
      generalize w_X4_copyFigures_figuresB_86 K n = L86 at hw hL86
      refine lv_iload_n hx hb dX4_copyFigures_86 rfl (lv_at hl 2 rfl) ?_
      refine lv_bipush (v := 80) hx hb dX4_copyFigures_87 (by decide) ?_
      refine lv_icmp_ge (tgt := 111) hx hb dX4_copyFigures_89 (by decide) (fun c_3 => ?_) (fun c_3 => ?_)
      · have hw := hw.1 c_3
        exact rtV F hr hlocks hK hw hP hS dX4_copyFigures_111
      · have hw := hw.2 c_3
        refine lv_aload_n hx hb dX4_copyFigures_92 rfl (lv_at hl 1 rfl) ?_
        refine lv_bipush (v := 20) hx hb dX4_copyFigures_93 (by decide) ?_
        refine lv_iload_n hx hb dX4_copyFigures_95 rfl (lv_at hl 2 rfl) ?_
        refine lv_iadd hx hb dX4_copyFigures_96 ?_
        refine lv_aload_n hx hb dX4_copyFigures_97 rfl (lv_at hl 0 rfl) ?_
        refine gC_X4_firings F hK hP (hts _ mw_148) dX4_copyFigures_98 ?_
        refine lv_iload_n hx hb dX4_copyFigures_101 rfl (lv_at hl 2 rfl) ?_
        obtain ⟨i_2, hw⟩ := hw
        refine lC_X4_firings F hK hP i_2 dX4_copyFigures_102 ?_
        refine lv_i2l hx hb dX4_copyFigures_103 rfl ?_
        obtain ⟨i_1, hw⟩ := hw
        refine sC_X9_figuresB F hK hP hDs hS i_1 dX4_copyFigures_104 (fun H locs hP hS => ?_)
        refine lv_iinc (v := (x2 + 1)) (lv' := [(2, .int (x2 + 1)), (0, .ref (ad 2)), (1, .ref (ad 8))]) hx hb dX4_copyFigures_105 hl (k := 2) rfl rfl (by decide) rfl (fun ls hl => ?_)
        refine lv_goto (tgt := 86) hx hb dX4_copyFigures_108 (by decide) ?_
        exact hL86 _ _ _ _ _ hw hP hS (lv_sub hl [1, 2, 0] rfl)
  have lab_56 : ∀ (n : Nat), ∀ (σ : St) (x2 : Int32) (H : Heap) (locs : List Loc) (ls : Array Slot), w_X4_copyFigures_figuresB_56 K n σ x2 → va_P D vwCl ((wdC ad cI cJ) σ) H → va_S (AW ad 42 s.heap.size) s.heap H locs → lv_has ls 3 [(0, .ref (ad 2)), (1, .ref (ad 8)), (2, .int x2)] → W p l e (headSpec wU_X4_copyFigures rm_X4_copyFigures_figuresB).room s m ([.ref (ad 2), .ref (ad 8)] : List Value).toArray below meth c H locs 0 0 (MQ below (va_Qv K (inW D (wdC ad cI cJ) [(cI, .int), (cJ, .long)]) (AW ad 42 s.heap.size)) ([.ref (ad 2), .ref (ad 8)] : List Value).toArray s 0 0 (AW ad 42 s.heap.size)) (F0 m 56 ls []) := by
    intro n
    induction n with
    | zero =>
      intro σ x2 H locs ls hw
      exact hw.elim
    | succ n hL56 =>
      intro σ x2 H locs ls hw hP hS hl
      have hw : b_X4_copyFigures_figuresB_56 (w_X4_copyFigures_figuresB_56 K n) K σ x2 := hw
      unfold b_X4_copyFigures_figuresB_56 at hw
      generalize w_X4_copyFigures_figuresB_56 K n = L56 at hw hL56
      refine lv_iload_n hx hb dX4_copyFigures_56 rfl (lv_at hl 2 rfl) ?_
      refine lv_bipush (v := 10) hx hb dX4_copyFigures_57 (by decide) ?_
      refine lv_icmp_ge (tgt := 84) hx hb dX4_copyFigures_59 (by decide) (fun c_9 => ?_) (fun c_9 => ?_)
      · have hw := hw.1 c_9
        refine lv_iconst (v := 0) hx hb dX4_copyFigures_84 (by decide) ?_
        refine lv_istore_n (lv' := [(2, .int 0), (0, .ref (ad 2)), (1, .ref (ad 8))]) hx hb dX4_copyFigures_85 rfl hl (by decide) rfl (fun ls hl => ?_)
        obtain ⟨n_4, hw⟩ := hw
        exact lab_86 n_4 _ _ _ _ _ hw hP hS (lv_sub hl [1, 2, 0] rfl)
      · have hw := hw.2 c_9
        refine lv_aload_n hx hb dX4_copyFigures_62 rfl (lv_at hl 1 rfl) ?_
        refine lv_bipush (v := 10) hx hb dX4_copyFigures_63 (by decide) ?_
        refine lv_iload_n hx hb dX4_copyFigures_65 rfl (lv_at hl 2 rfl) ?_
        refine lv_iadd hx hb dX4_copyFigures_66 ?_
        refine lv_aload_n hx hb dX4_copyFigures_67 rfl (lv_at hl 0 rfl) ?_
        refine lv_aload_n hx hb dX4_copyFigures_68 rfl (lv_at hl 0 rfl) ?_
        refine gC_X4_ends F hK hP (hts _ mw_149) dX4_copyFigures_69 ?_
        refine lv_iload_n hx hb dX4_copyFigures_72 rfl (lv_at hl 2 rfl) ?_
        obtain ⟨i_8, hw⟩ := hw
        refine lC_X4_ends F hK hP i_8 dX4_copyFigures_73 ?_
        refine cvL (As := [.long (gL σ 2 (x2).toNatClampNeg)]) (rest := [.int (10 + x2), .ref (ad 8)]) F hK hP hS (c_X4_comparable l D ad cI cJ hap H.size _ _ _ hw) (cwV 1 hts gU_X4_120 rfl rfl rfl (by decide +kernel) ⟨Nat.le_of_ble_eq_true rfl, Nat.le_of_ble_eq_true rfl⟩) (va_recv hK hP (ci := 3) (q0 := 2) rfl rfl) rfl hl.1 rfl (Nat.le_of_ble_eq_true rfl) dX4_copyFigures_74 ⟨Nat.zero_le _, Nat.zero_le _⟩ (fun r_6 u_5 H locs hw hP hS => ?_)
        obtain ⟨i_7, hw⟩ := hw
        refine sC_X9_figuresB F hK hP hDs hS i_7 dX4_copyFigures_77 (fun H locs hP hS => ?_)
        refine lv_iinc (v := (x2 + 1)) (lv' := [(2, .int (x2 + 1)), (0, .ref (ad 2)), (1, .ref (ad 8))]) hx hb dX4_copyFigures_78 hl (k := 2) rfl rfl (by decide) rfl (fun ls hl => ?_)
        refine lv_goto (tgt := 56) hx hb dX4_copyFigures_81 (by decide) ?_
        exact hL56 _ _ _ _ _ hw hP hS (lv_sub hl [1, 2, 0] rfl)
  have hl := lv_entry ([.ref (ad 2), .ref (ad 8)]) (n := 3) (Nat.le_of_ble_eq_true rfl)
  rw [lg_entry_eq]
  generalize (lg_sl ([.ref (ad 2), .ref (ad 8)]) ++ List.replicate (3 - (lg_sl ([.ref (ad 2), .ref (ad 8)])).length) Slot.unset).toArray = ls at hl ⊢
  have hl : lv_has ls 3 [(0, .ref (ad 2)), (1, .ref (ad 8))] := hl
  have key : ∀ (H : Heap) (locs : List Loc), va_P D vwCl ((wdC ad cI cJ) σ) H → va_S (AW ad 42 s.heap.size) s.heap H locs → W p l e (headSpec wU_X4_copyFigures rm_X4_copyFigures_figuresB).room s m ([.ref (ad 2), .ref (ad 8)] : List Value).toArray below meth c H locs 0 0 (MQ below (va_Qv K (inW D (wdC ad cI cJ) [(cI, .int), (cJ, .long)]) (AW ad 42 s.heap.size)) ([.ref (ad 2), .ref (ad 8)] : List Value).toArray s 0 0 (AW ad 42 s.heap.size)) (F0 m 0 ls []) := by
    intro H locs hP hS
    unfold w_X4_copyFigures_figuresB at hw
    refine lv_aload_n hx hb dX4_copyFigures_0 rfl (lv_at hl 1 rfl) ?_
    refine lv_iconst (v := 0) hx hb dX4_copyFigures_1 (by decide) ?_
    refine lv_aload_n hx hb dX4_copyFigures_2 rfl (lv_at hl 0 rfl) ?_
    refine gC_X4_how F hK hP (hts _ mw_83) dX4_copyFigures_3 ?_
    refine lv_i2l hx hb dX4_copyFigures_6 rfl ?_
    refine sC_X9_figuresB F hK hP hDs hS (by unfold vp_in; decide) dX4_copyFigures_7 (fun H locs hP hS => ?_)
    refine lv_aload_n hx hb dX4_copyFigures_8 rfl (lv_at hl 1 rfl) ?_
    refine lv_iconst (v := 1) hx hb dX4_copyFigures_9 (by decide) ?_
    refine lv_aload_n hx hb dX4_copyFigures_10 rfl (lv_at hl 0 rfl) ?_
    refine gC_X4_steps F hK hP (hts _ mw_150) dX4_copyFigures_11 ?_
    refine jvi (y := (gS σ 5)) (by simp only [gS_sS, gS_sA, gS_sL, gS_fA, gS_fL, gA_sS, gA_sA, gA_sL, gA_fA, gA_fL, gL_sS, gL_sA, gL_sL, gL_fA, gL_fL, reduceIte, Nat.reduceEqDiff]) ?_
    refine lv_i2l hx hb dX4_copyFigures_14 rfl ?_
    refine sC_X9_figuresB F hK hP hDs hS (by unfold vp_in; decide) dX4_copyFigures_15 (fun H locs hP hS => ?_)
    refine lv_aload_n hx hb dX4_copyFigures_16 rfl (lv_at hl 1 rfl) ?_
    refine lv_iconst (v := 2) hx hb dX4_copyFigures_17 (by decide) ?_
    refine lv_aload_n hx hb dX4_copyFigures_18 rfl (lv_at hl 0 rfl) ?_
    refine gC_X4_floor F hK hP (hts _ mw_86) dX4_copyFigures_19 ?_
    refine gC_X1_left F hK hP (hts _ mw_349) dX4_copyFigures_22 ?_
    refine jvi (y := (gS σ 15)) (by simp only [gS_sS, gS_sA, gS_sL, gS_fA, gS_fL, gA_sS, gA_sA, gA_sL, gA_fA, gA_fL, gL_sS, gL_sA, gL_sL, gL_fA, gL_fL, reduceIte, Nat.reduceEqDiff]) ?_
    refine lv_i2l hx hb dX4_copyFigures_25 rfl ?_
    refine sC_X9_figuresB F hK hP hDs hS (by unfold vp_in; decide) dX4_copyFigures_26 (fun H locs hP hS => ?_)
    refine lv_aload_n hx hb dX4_copyFigures_27 rfl (lv_at hl 1 rfl) ?_
    refine lv_iconst (v := 3) hx hb dX4_copyFigures_28 (by decide) ?_
    refine lv_aload_n hx hb dX4_copyFigures_29 rfl (lv_at hl 0 rfl) ?_
    refine gC_X4_store F hK hP (hts _ mw_142) dX4_copyFigures_30 ?_
    refine gC_X6_waiting F hK hP (hts _ mw_350) dX4_copyFigures_33 ?_
    refine jvi (y := (gS σ 11)) (by simp only [gS_sS, gS_sA, gS_sL, gS_fA, gS_fL, gA_sS, gA_sA, gA_sL, gA_fA, gA_fL, gL_sS, gL_sA, gL_sL, gL_fA, gL_fL, reduceIte, Nat.reduceEqDiff]) ?_
    refine lv_i2l hx hb dX4_copyFigures_36 rfl ?_
    refine sC_X9_figuresB F hK hP hDs hS (by unfold vp_in; decide) dX4_copyFigures_37 (fun H locs hP hS => ?_)
    refine lv_aload_n hx hb dX4_copyFigures_38 rfl (lv_at hl 1 rfl) ?_
    refine lv_iconst (v := 4) hx hb dX4_copyFigures_39 (by decide) ?_
    refine lv_aload_n hx hb dX4_copyFigures_40 rfl (lv_at hl 0 rfl) ?_
    refine gC_X4_lost F hK hP (hts _ mw_153) dX4_copyFigures_41 ?_
    refine jvi (y := (gS σ 8)) (by simp only [gS_sS, gS_sA, gS_sL, gS_fA, gS_fL, gA_sS, gA_sA, gA_sL, gA_fA, gA_fL, gL_sS, gL_sA, gL_sL, gL_fA, gL_fL, reduceIte, Nat.reduceEqDiff]) ?_
    refine lv_i2l hx hb dX4_copyFigures_44 rfl ?_
    refine sC_X9_figuresB F hK hP hDs hS (by unfold vp_in; decide) dX4_copyFigures_45 (fun H locs hP hS => ?_)
    refine lv_aload_n hx hb dX4_copyFigures_46 rfl (lv_at hl 1 rfl) ?_
    refine lv_iconst (v := 5) hx hb dX4_copyFigures_47 (by decide) ?_
    refine lv_aload_n hx hb dX4_copyFigures_48 rfl (lv_at hl 0 rfl) ?_
    refine gC_X4_strays F hK hP (hts _ mw_154) dX4_copyFigures_49 ?_
    refine jvi (y := (gS σ 9)) (by simp only [gS_sS, gS_sA, gS_sL, gS_fA, gS_fL, gA_sS, gA_sA, gA_sL, gA_fA, gA_fL, gL_sS, gL_sA, gL_sL, gL_fA, gL_fL, reduceIte, Nat.reduceEqDiff]) ?_
    refine lv_i2l hx hb dX4_copyFigures_52 rfl ?_
    refine sC_X9_figuresB F hK hP hDs hS (by unfold vp_in; decide) dX4_copyFigures_53 (fun H locs hP hS => ?_)
    refine lv_iconst (v := 0) hx hb dX4_copyFigures_54 (by decide) ?_
    refine lv_istore_n (lv' := [(2, .int 0), (0, .ref (ad 2)), (1, .ref (ad 8))]) hx hb dX4_copyFigures_55 rfl hl (by decide) rfl (fun ls hl => ?_)
    obtain ⟨n_10, hw⟩ := hw
    exact lab_56 n_10 _ _ _ _ _ hw hP hS (lv_sub hl [1, 2, 0] rfl)
  exact key s.heap [] hP hS

abbrev rm_X9_act : Room := { frames := 3, cells := 0, slots := 0, locals := 66 }
set_option maxHeartbeats 4000000 in
set_option maxRecDepth 100000 in
theorem c_X9_act (l : Launch) (D : va_G) (ad : Nat → Nat) (cI cJ : ClassId) (hap : apart ad 42) (sz : Nat) (σ : St) (a1 : Int32) (a2 : Int32) (a3 : Int32) (K : Int32 → St → Prop) (hw : w_X9_act σ a1 a2 a3 K) (aP : Nat) : Met l yX9_act wU_X9_act rm_X9_act (va_Pc [.ref (ad 0), .int a1, .int a2, .int a3] (fun U => U.heap.size = sz ∧ inW D (wdC ad cI cJ) [(cI, .int), (cJ, .long)] σ U ∧ jPZ ad 42 sz aP U)) (va_Qi K (inW D (wdC ad cI cJ) [(cI, .int), (cJ, .long)]) (AW ad 42 sz)) 0 0 (AW ad 42 sz) := by
  refine Met.ofW (cc := cX9_act) (maxL := 4) (ret := (some .int)) (by decide) rfl ?_
  intro p e s m args below meth c s₁ B hml hv
  obtain ⟨rfl, hsz, ⟨hP, hK⟩, hX⟩ := hv
  have F : CallFix p m c cX9_act 4 s ([.ref (ad 0), .int a1, .int a2, .int a3] : List Value).toArray lw_U RX9 := ⟨B.exec, B.bytes, hml, findClass_of_methodNamed B.named, fun w h => atoms_spec (ws := wU_X9_act) B.pre w (List.mem_cons_of_mem _ h)⟩
  have hx := F.1
  have hb := F.2.1
  have hown := F.2.2.2.1
  have hts := F.2.2.2.2
  have hr := B.returns
  have hlocks := B.notSynchronized
  subst hsz
  have hDs : ∀ σ, va_D (AW ad 42 s.heap.size) ((wdC ad cI cJ) σ) := fun σ => wdC_D hap σ
  have hS : va_S (AW ad 42 s.heap.size) s.heap s.heap [] := va_S.rf
  have hl := lv_entry ([.ref (ad 0), .int a1, .int a2, .int a3]) (n := 4) (Nat.le_of_ble_eq_true rfl)
  rw [lg_entry_eq]
  generalize (lg_sl ([.ref (ad 0), .int a1, .int a2, .int a3]) ++ List.replicate (4 - (lg_sl ([.ref (ad 0), .int a1, .int a2, .int a3])).length) Slot.unset).toArray = ls at hl ⊢
  have hl : lv_has ls 4 [(0, .ref (ad 0)), (1, .int a1), (2, .int a2), (3, .int a3)] := hl
  have key : ∀ (H : Heap) (locs : List Loc), va_P D vwCl ((wdC ad cI cJ) σ) H → va_S (AW ad 42 s.heap.size) s.heap H locs → W p l e (headSpec wU_X9_act rm_X9_act).room s m ([.ref (ad 0), .int a1, .int a2, .int a3] : List Value).toArray below meth c H locs 0 0 (MQ below (va_Qi K (inW D (wdC ad cI cJ) [(cI, .int), (cJ, .long)]) (AW ad 42 s.heap.size)) ([.ref (ad 0), .int a1, .int a2, .int a3] : List Value).toArray s 0 0 (AW ad 42 s.heap.size)) (F0 m 0 ls []) := by
    intro H locs hP hS
    unfold w_X9_act at hw
    refine lv_aload_n hx hb dX9_act_0 rfl (lv_at hl 0 rfl) ?_
    refine gC_X9_graph F hK hP (hts _ mw_359) dX9_act_1 ?_
    refine lv_iload_n hx hb dX9_act_4 rfl (lv_at hl 1 rfl) ?_
    refine lv_iload_n hx hb dX9_act_5 rfl (lv_at hl 2 rfl) ?_
    refine lv_iload_n hx hb dX9_act_6 rfl (lv_at hl 3 rfl) ?_
    refine cvIX (X := jPZ ad 42 H.size aP) jPZ_blind (jPZ_at hX hS) (As := [.int a1, .int a2, .int a3]) (rest := []) F hK hP hS (c_X2_addAct l D ad cI cJ hap H.size _ _ _ _ _ hw aP) (cwV 3 hts gU_X9_36 rfl rfl rfl (by decide +kernel) ⟨Nat.le_of_ble_eq_true rfl, Nat.le_of_ble_eq_true rfl⟩) (va_recv hK hP (ci := 2) (q0 := 1) rfl rfl) rfl hl.1 rfl (Nat.le_of_ble_eq_true rfl) dX9_act_7 ⟨Nat.zero_le _, Nat.zero_le _⟩ (fun r_2 u_1 H locs hw hP hS => ?_)
    exact rtI F hr hlocks hK hw hP hS dX9_act_10
  exact key s.heap [] hP hS

abbrev rm_X9_way : Room := { frames := 3, cells := 0, slots := 0, locals := 70 }
set_option maxHeartbeats 4000000 in
set_option maxRecDepth 100000 in
theorem c_X9_way (l : Launch) (D : va_G) (ad : Nat → Nat) (cI cJ : ClassId) (hap : apart ad 42) (sz : Nat) (σ : St) (a1 : Int32) (a2 : Int32) (a3 : Int32) (a4 : Int32) (K : Int32 → St → Prop) (hw : w_X9_way σ a1 a2 a3 a4 K) : Met l yX9_way wU_X9_way rm_X9_way (va_Pc [.ref (ad 0), .int a1, .int a2, .int a3, .int a4] (fun U => U.heap.size = sz ∧ inW D (wdC ad cI cJ) [(cI, .int), (cJ, .long)] σ U)) (va_Qi K (inW D (wdC ad cI cJ) [(cI, .int), (cJ, .long)]) (AW ad 42 sz)) 0 0 (AW ad 42 sz) := by
  refine Met.ofW (cc := cX9_way) (maxL := 5) (ret := (some .int)) (by decide) rfl ?_
  intro p e s m args below meth c s₁ B hml hv
  obtain ⟨rfl, hsz, ⟨hP, hK⟩⟩ := hv
  have F : CallFix p m c cX9_way 5 s ([.ref (ad 0), .int a1, .int a2, .int a3, .int a4] : List Value).toArray lw_U RX9 := ⟨B.exec, B.bytes, hml, findClass_of_methodNamed B.named, fun w h => atoms_spec (ws := wU_X9_way) B.pre w (List.mem_cons_of_mem _ h)⟩
  have hx := F.1
  have hb := F.2.1
  have hown := F.2.2.2.1
  have hts := F.2.2.2.2
  have hr := B.returns
  have hlocks := B.notSynchronized
  subst hsz
  have hDs : ∀ σ, va_D (AW ad 42 s.heap.size) ((wdC ad cI cJ) σ) := fun σ => wdC_D hap σ
  have hS : va_S (AW ad 42 s.heap.size) s.heap s.heap [] := va_S.rf
  have hl := lv_entry ([.ref (ad 0), .int a1, .int a2, .int a3, .int a4]) (n := 5) (Nat.le_of_ble_eq_true rfl)
  rw [lg_entry_eq]
  generalize (lg_sl ([.ref (ad 0), .int a1, .int a2, .int a3, .int a4]) ++ List.replicate (5 - (lg_sl ([.ref (ad 0), .int a1, .int a2, .int a3, .int a4])).length) Slot.unset).toArray = ls at hl ⊢
  have hl : lv_has ls 5 [(0, .ref (ad 0)), (1, .int a1), (2, .int a2), (3, .int a3), (4, .int a4)] := hl
  have key : ∀ (H : Heap) (locs : List Loc), va_P D vwCl ((wdC ad cI cJ) σ) H → va_S (AW ad 42 s.heap.size) s.heap H locs → W p l e (headSpec wU_X9_way rm_X9_way).room s m ([.ref (ad 0), .int a1, .int a2, .int a3, .int a4] : List Value).toArray below meth c H locs 0 0 (MQ below (va_Qi K (inW D (wdC ad cI cJ) [(cI, .int), (cJ, .long)]) (AW ad 42 s.heap.size)) ([.ref (ad 0), .int a1, .int a2, .int a3, .int a4] : List Value).toArray s 0 0 (AW ad 42 s.heap.size)) (F0 m 0 ls []) := by
    intro H locs hP hS
    unfold w_X9_way at hw
    refine lv_aload_n hx hb dX9_way_0 rfl (lv_at hl 0 rfl) ?_
    refine gC_X9_graph F hK hP (hts _ mw_359) dX9_way_1 ?_
    refine lv_iload_n hx hb dX9_way_4 rfl (lv_at hl 1 rfl) ?_
    refine lv_iload_n hx hb dX9_way_5 rfl (lv_at hl 2 rfl) ?_
    refine lv_iload_n hx hb dX9_way_6 rfl (lv_at hl 3 rfl) ?_
    refine lv_iload hx hb dX9_way_7 (lv_at hl 4 rfl) ?_
    refine cvI (As := [.int a1, .int a2, .int a3, .int a4]) (rest := []) F hK hP hS (c_X2_addWay l D ad cI cJ hap H.size _ _ _ _ _ _ hw) (cwV 4 hts gU_X9_40 rfl rfl rfl (by decide +kernel) ⟨Nat.le_of_ble_eq_true rfl, Nat.le_of_ble_eq_true rfl⟩) (va_recv hK hP (ci := 2) (q0 := 1) rfl rfl) rfl hl.1 rfl (Nat.le_of_ble_eq_true rfl) dX9_way_9 ⟨Nat.zero_le _, Nat.zero_le _⟩ (fun r_2 u_1 H locs hw hP hS => ?_)
    exact rtI F hr hlocks hK hw hP hS dX9_way_12
  exact key s.heap [] hP hS

abbrev rm_X9_token : Room := { frames := 3, cells := 0, slots := 0, locals := 66 }
set_option maxHeartbeats 4000000 in
set_option maxRecDepth 100000 in
theorem c_X9_token (l : Launch) (D : va_G) (ad : Nat → Nat) (cI cJ : ClassId) (hap : apart ad 42) (sz : Nat) (σ : St) (a1 : Int32) (a2 : Int32) (a3 : Int32) (K : Int32 → St → Prop) (hw : w_X9_token σ a1 a2 a3 K) : Met l yX9_token wU_X9_token rm_X9_token (va_Pc [.ref (ad 0), .int a1, .int a2, .int a3] (fun U => U.heap.size = sz ∧ inW D (wdC ad cI cJ) [(cI, .int), (cJ, .long)] σ U)) (va_Qi K (inW D (wdC ad cI cJ) [(cI, .int), (cJ, .long)]) (AW ad 42 sz)) 0 0 (AW ad 42 sz) := by
  refine Met.ofW (cc := cX9_token) (maxL := 4) (ret := (some .int)) (by decide) rfl ?_
  intro p e s m args below meth c s₁ B hml hv
  obtain ⟨rfl, hsz, ⟨hP, hK⟩⟩ := hv
  have F : CallFix p m c cX9_token 4 s ([.ref (ad 0), .int a1, .int a2, .int a3] : List Value).toArray lw_U RX9 := ⟨B.exec, B.bytes, hml, findClass_of_methodNamed B.named, fun w h => atoms_spec (ws := wU_X9_token) B.pre w (List.mem_cons_of_mem _ h)⟩
  have hx := F.1
  have hb := F.2.1
  have hown := F.2.2.2.1
  have hts := F.2.2.2.2
  have hr := B.returns
  have hlocks := B.notSynchronized
  subst hsz
  have hDs : ∀ σ, va_D (AW ad 42 s.heap.size) ((wdC ad cI cJ) σ) := fun σ => wdC_D hap σ
  have hS : va_S (AW ad 42 s.heap.size) s.heap s.heap [] := va_S.rf
  have hl := lv_entry ([.ref (ad 0), .int a1, .int a2, .int a3]) (n := 4) (Nat.le_of_ble_eq_true rfl)
  rw [lg_entry_eq]
  generalize (lg_sl ([.ref (ad 0), .int a1, .int a2, .int a3]) ++ List.replicate (4 - (lg_sl ([.ref (ad 0), .int a1, .int a2, .int a3])).length) Slot.unset).toArray = ls at hl ⊢
  have hl : lv_has ls 4 [(0, .ref (ad 0)), (1, .int a1), (2, .int a2), (3, .int a3)] := hl
  have key : ∀ (H : Heap) (locs : List Loc), va_P D vwCl ((wdC ad cI cJ) σ) H → va_S (AW ad 42 s.heap.size) s.heap H locs → W p l e (headSpec wU_X9_token rm_X9_token).room s m ([.ref (ad 0), .int a1, .int a2, .int a3] : List Value).toArray below meth c H locs 0 0 (MQ below (va_Qi K (inW D (wdC ad cI cJ) [(cI, .int), (cJ, .long)]) (AW ad 42 s.heap.size)) ([.ref (ad 0), .int a1, .int a2, .int a3] : List Value).toArray s 0 0 (AW ad 42 s.heap.size)) (F0 m 0 ls []) := by
    intro H locs hP hS
    unfold w_X9_token at hw
    refine lv_aload_n hx hb dX9_token_0 rfl (lv_at hl 0 rfl) ?_
    refine gC_X9_graph F hK hP (hts _ mw_359) dX9_token_1 ?_
    refine lv_iload_n hx hb dX9_token_4 rfl (lv_at hl 1 rfl) ?_
    refine lv_iload_n hx hb dX9_token_5 rfl (lv_at hl 2 rfl) ?_
    refine lv_iload_n hx hb dX9_token_6 rfl (lv_at hl 3 rfl) ?_
    refine cvI (As := [.int a1, .int a2, .int a3]) (rest := []) F hK hP hS (c_X2_addToken l D ad cI cJ hap H.size _ _ _ _ _ hw) (cwV 3 hts gU_X9_44 rfl rfl rfl (by decide +kernel) ⟨Nat.le_of_ble_eq_true rfl, Nat.le_of_ble_eq_true rfl⟩) (va_recv hK hP (ci := 2) (q0 := 1) rfl rfl) rfl hl.1 rfl (Nat.le_of_ble_eq_true rfl) dX9_token_7 ⟨Nat.zero_le _, Nat.zero_le _⟩ (fun r_2 u_1 H locs hw hP hS => ?_)
    exact rtI F hr hlocks hK hw hP hS dX9_token_10
  exact key s.heap [] hP hS

abbrev rm_X9_clear : Room := { frames := 2, cells := 0, slots := 0, locals := 43 }
set_option maxHeartbeats 4000000 in
set_option maxRecDepth 100000 in
theorem c_X9_clear (l : Launch) (D : va_G) (ad : Nat → Nat) (cI cJ : ClassId) (hap : apart ad 42) (sz : Nat) (σ : St) (a1 : Int32) (K : Int32 → St → Prop) (hw : w_X9_clear σ a1 K) : Met l yX9_clear wU_X9_clear rm_X9_clear (va_Pc [.ref (ad 0), .int a1] (fun U => U.heap.size = sz ∧ inW D (wdC ad cI cJ) [(cI, .int), (cJ, .long)] σ U)) (va_Qi (fun r u => zb r ∧ K r u) (inW D (wdC ad cI cJ) [(cI, .int), (cJ, .long)]) (AW ad 42 sz)) 0 0 (AW ad 42 sz) := by
  refine Met.ofW (cc := cX9_clear) (maxL := 2) (ret := (some .boolean)) (by decide) rfl ?_
  intro p e s m args below meth c s₁ B hml hv
  obtain ⟨rfl, hsz, ⟨hP, hK⟩⟩ := hv
  have F : CallFix p m c cX9_clear 2 s ([.ref (ad 0), .int a1] : List Value).toArray lw_U RX9 := ⟨B.exec, B.bytes, hml, findClass_of_methodNamed B.named, fun w h => atoms_spec (ws := wU_X9_clear) B.pre w (List.mem_cons_of_mem _ h)⟩
  have hx := F.1
  have hb := F.2.1
  have hown := F.2.2.2.1
  have hts := F.2.2.2.2
  have hr := B.returns
  have hlocks := B.notSynchronized
  subst hsz
  have hDs : ∀ σ, va_D (AW ad 42 s.heap.size) ((wdC ad cI cJ) σ) := fun σ => wdC_D hap σ
  have hS : va_S (AW ad 42 s.heap.size) s.heap s.heap [] := va_S.rf
  have lab_30 : ∀ (σ : St) (x1 : Int32) (H : Heap) (locs : List Loc) (ls : Array Slot), b_X9_clear_30 K σ x1 → va_P D vwCl ((wdC ad cI cJ) σ) H → va_S (AW ad 42 s.heap.size) s.heap H locs → lv_has ls 2 [(0, .ref (ad 0)), (1, .int x1)] → W p l e (headSpec wU_X9_clear rm_X9_clear).room s m ([.ref (ad 0), .int a1] : List Value).toArray below meth c H locs 0 0 (MQ below (va_Qi (fun r u => zb r ∧ K r u) (inW D (wdC ad cI cJ) [(cI, .int), (cJ, .long)]) (AW ad 42 s.heap.size)) ([.ref (ad 0), .int a1] : List Value).toArray s 0 0 (AW ad 42 s.heap.size)) (F0 m 30 ls []) := by
    intro σ x1 H locs ls hw hP hS hl
    unfold b_X9_clear_30 at hw
    refine lv_iload_n hx hb dX9_clear_30 rfl (lv_at hl 1 rfl) ?_
    refine lv_iconst (v := 2) hx hb dX9_clear_31 (by decide) ?_
    refine lv_icmp_ne (tgt := 42) hx hb dX9_clear_32 (by decide) (fun c_3 => ?_) (fun c_3 => ?_)
    · have hw := hw.1 c_3
      refine lv_aload_n hx hb dX9_clear_42 rfl (lv_at hl 0 rfl) ?_
      refine lv_iconst (v := 0) hx hb dX9_clear_43 (by decide) ?_
      refine pC_X9_hasRun F hK hP hDs hS (hts _ mw_372) dX9_clear_44 (Or.inl rfl) (fun H locs hP hS => ?_)
      refine lv_iconst (v := 1) hx hb dX9_clear_47 (by decide) ?_
      exact rtZ F hr hlocks hK hw (Or.inr rfl) hP hS dX9_clear_48
    · have hw := hw.2 c_3
      refine lv_aload_n hx hb dX9_clear_35 rfl (lv_at hl 0 rfl) ?_
      refine gC_X9_graph F hK hP (hts _ mw_359) dX9_clear_36 ?_
      refine cvV (As := []) (rest := []) F hK hP hS (c_X2_dropActs l D ad cI cJ hap H.size _ _ hw) (cwV 0 hts gU_X9_53 rfl rfl rfl (by decide +kernel) ⟨Nat.le_of_ble_eq_true rfl, Nat.le_of_ble_eq_true rfl⟩) (va_recv hK hP (ci := 2) (q0 := 1) rfl rfl) rfl hl.1 rfl (Nat.le_of_ble_eq_true rfl) dX9_clear_39 ⟨Nat.zero_le _, Nat.zero_le _⟩ (fun u_1 H locs hw hP hS => ?_)
      refine lv_aload_n hx hb dX9_clear_42 rfl (lv_at hl 0 rfl) ?_
      refine lv_iconst (v := 0) hx hb dX9_clear_43 (by decide) ?_
      refine pC_X9_hasRun F hK hP hDs hS (hts _ mw_372) dX9_clear_44 (Or.inl rfl) (fun H locs hP hS => ?_)
      refine lv_iconst (v := 1) hx hb dX9_clear_47 (by decide) ?_
      exact rtZ F hr hlocks hK hw (Or.inr rfl) hP hS dX9_clear_48
  have hl := lv_entry ([.ref (ad 0), .int a1]) (n := 2) (Nat.le_of_ble_eq_true rfl)
  rw [lg_entry_eq]
  generalize (lg_sl ([.ref (ad 0), .int a1]) ++ List.replicate (2 - (lg_sl ([.ref (ad 0), .int a1])).length) Slot.unset).toArray = ls at hl ⊢
  have hl : lv_has ls 2 [(0, .ref (ad 0)), (1, .int a1)] := hl
  have key : ∀ (H : Heap) (locs : List Loc), va_P D vwCl ((wdC ad cI cJ) σ) H → va_S (AW ad 42 s.heap.size) s.heap H locs → W p l e (headSpec wU_X9_clear rm_X9_clear).room s m ([.ref (ad 0), .int a1] : List Value).toArray below meth c H locs 0 0 (MQ below (va_Qi (fun r u => zb r ∧ K r u) (inW D (wdC ad cI cJ) [(cI, .int), (cJ, .long)]) (AW ad 42 s.heap.size)) ([.ref (ad 0), .int a1] : List Value).toArray s 0 0 (AW ad 42 s.heap.size)) (F0 m 0 ls []) := by
    intro H locs hP hS
    unfold w_X9_clear at hw
    refine lv_iload_n hx hb dX9_clear_0 rfl (lv_at hl 1 rfl) ?_
    refine lv_if_lt (tgt := 9) hx hb dX9_clear_1 (by decide) (fun c_10 => ?_) (fun c_10 => ?_)
    · have hw := hw.1 c_10
      refine lv_iconst (v := 0) hx hb dX9_clear_9 (by decide) ?_
      exact rtZ F hr hlocks hK hw (Or.inl rfl) hP hS dX9_clear_10
    · have hw := hw.2 c_10
      refine lv_iload_n hx hb dX9_clear_4 rfl (lv_at hl 1 rfl) ?_
      refine lv_iconst (v := 2) hx hb dX9_clear_5 (by decide) ?_
      refine lv_icmp_le (tgt := 11) hx hb dX9_clear_6 (by decide) (fun c_9 => ?_) (fun c_9 => ?_)
      · have hw := hw.1 c_9
        refine lv_aload_n hx hb dX9_clear_11 rfl (lv_at hl 0 rfl) ?_
        refine gC_X9_graph F hK hP (hts _ mw_359) dX9_clear_12 ?_
        refine cvV (As := []) (rest := []) F hK hP hS (c_X2_dropTokens l D ad cI cJ hap H.size _ _ hw) (cwV 0 hts gU_X9_47 rfl rfl rfl (by decide +kernel) ⟨Nat.le_of_ble_eq_true rfl, Nat.le_of_ble_eq_true rfl⟩) (va_recv hK hP (ci := 2) (q0 := 1) rfl rfl) rfl hl.1 rfl (Nat.le_of_ble_eq_true rfl) dX9_clear_15 ⟨Nat.zero_le _, Nat.zero_le _⟩ (fun u_4 H locs hw hP hS => ?_)
        refine lv_iload_n hx hb dX9_clear_18 rfl (lv_at hl 1 rfl) ?_
        refine lv_iconst (v := 1) hx hb dX9_clear_19 (by decide) ?_
        refine lv_icmp_lt (tgt := 30) hx hb dX9_clear_20 (by decide) (fun c_8 => ?_) (fun c_8 => ?_)
        · have hw := hw.1 c_8
          exact lab_30 _ _ _ _ _ hw hP hS (lv_sub hl [0, 1] rfl)
        · have hw := hw.2 c_8
          refine lv_aload_n hx hb dX9_clear_23 rfl (lv_at hl 0 rfl) ?_
          refine gC_X9_graph F hK hP (hts _ mw_359) dX9_clear_24 ?_
          refine cvV (As := []) (rest := []) F hK hP hS (c_X2_dropWays l D ad cI cJ hap H.size _ _ hw) (cwV 0 hts gU_X9_50 rfl rfl rfl (by decide +kernel) ⟨Nat.le_of_ble_eq_true rfl, Nat.le_of_ble_eq_true rfl⟩) (va_recv hK hP (ci := 2) (q0 := 1) rfl rfl) rfl hl.1 rfl (Nat.le_of_ble_eq_true rfl) dX9_clear_27 ⟨Nat.zero_le _, Nat.zero_le _⟩ (fun u_6 H locs hw hP hS => ?_)
          exact lab_30 _ _ _ _ _ hw hP hS (lv_sub hl [0, 1] rfl)
      · have hw := hw.2 c_9
        refine lv_iconst (v := 0) hx hb dX9_clear_9 (by decide) ?_
        exact rtZ F hr hlocks hK hw (Or.inl rfl) hP hS dX9_clear_10
  exact key s.heap [] hP hS

abbrev rm_X9_isFuel : Room := { frames := 0, cells := 0, slots := 0, locals := 0 }
set_option maxHeartbeats 4000000 in
set_option maxRecDepth 100000 in
theorem c_X9_isFuel (l : Launch) (D : va_G) (ad : Nat → Nat) (cI cJ : ClassId) (hap : apart ad 42) (sz : Nat) (σ : St) (a1 : Int32) (K : Int32 → St → Prop) (hw : w_X9_isFuel σ a1 K) : Met l yX9_isFuel wU_X9_isFuel rm_X9_isFuel (va_Pc [.int a1] (fun U => U.heap.size = sz ∧ inW D (wdC ad cI cJ) [(cI, .int), (cJ, .long)] σ U)) (va_Qi (fun r u => zb r ∧ K r u) (inW D (wdC ad cI cJ) [(cI, .int), (cJ, .long)]) (AW ad 42 sz)) 0 0 (AW ad 42 sz) := by
  refine Met.ofW (cc := cX9_isFuel) (maxL := 1) (ret := (some .boolean)) (by decide) rfl ?_
  intro p e s m args below meth c s₁ B hml hv
  obtain ⟨rfl, hsz, ⟨hP, hK⟩⟩ := hv
  have F : CallFix p m c cX9_isFuel 1 s ([.int a1] : List Value).toArray lw_U RX9 := ⟨B.exec, B.bytes, hml, findClass_of_methodNamed B.named, fun w h => atoms_spec (ws := wU_X9_isFuel) B.pre w (List.mem_cons_of_mem _ h)⟩
  have hx := F.1
  have hb := F.2.1
  have hown := F.2.2.2.1
  have hts := F.2.2.2.2
  have hr := B.returns
  have hlocks := B.notSynchronized
  subst hsz
  have hDs : ∀ σ, va_D (AW ad 42 s.heap.size) ((wdC ad cI cJ) σ) := fun σ => wdC_D hap σ
  have hS : va_S (AW ad 42 s.heap.size) s.heap s.heap [] := va_S.rf
  have hl := lv_entry ([.int a1]) (n := 1) (Nat.le_of_ble_eq_true rfl)
  rw [lg_entry_eq]
  generalize (lg_sl ([.int a1]) ++ List.replicate (1 - (lg_sl ([.int a1])).length) Slot.unset).toArray = ls at hl ⊢
  have hl : lv_has ls 1 [(0, .int a1)] := hl
  have key : ∀ (H : Heap) (locs : List Loc), va_P D vwCl ((wdC ad cI cJ) σ) H → va_S (AW ad 42 s.heap.size) s.heap H locs → W p l e (headSpec wU_X9_isFuel rm_X9_isFuel).room s m ([.int a1] : List Value).toArray below meth c H locs 0 0 (MQ below (va_Qi (fun r u => zb r ∧ K r u) (inW D (wdC ad cI cJ) [(cI, .int), (cJ, .long)]) (AW ad 42 s.heap.size)) ([.int a1] : List Value).toArray s 0 0 (AW ad 42 s.heap.size)) (F0 m 0 ls []) := by
    intro H locs hP hS
    unfold w_X9_isFuel at hw
    refine lv_iload_n hx hb dX9_isFuel_0 rfl (lv_at hl 0 rfl) ?_
    refine lv_if_lt (tgt := 15) hx hb dX9_isFuel_1 (by decide) (fun c_2 => ?_) (fun c_2 => ?_)
    · have hw := hw.1 c_2
      refine lv_iconst (v := 0) hx hb dX9_isFuel_15 (by decide) ?_
      exact rtZ F hr hlocks hK hw (Or.inl rfl) hP hS dX9_isFuel_16
    · have hw := hw.2 c_2
      refine lv_iload_n hx hb dX9_isFuel_4 rfl (lv_at hl 0 rfl) ?_
      refine lv_sipush (v := 4000) hx hb dX9_isFuel_5 (by decide) ?_
      refine lv_icmp_gt (tgt := 15) hx hb dX9_isFuel_8 (by decide) (fun c_1 => ?_) (fun c_1 => ?_)
      · have hw := hw.1 c_1
        refine lv_iconst (v := 0) hx hb dX9_isFuel_15 (by decide) ?_
        exact rtZ F hr hlocks hK hw (Or.inl rfl) hP hS dX9_isFuel_16
      · have hw := hw.2 c_1
        refine lv_iconst (v := 1) hx hb dX9_isFuel_11 (by decide) ?_
        refine lv_goto (tgt := 16) hx hb dX9_isFuel_12 (by decide) ?_
        exact rtZ F hr hlocks hK hw (Or.inr rfl) hP hS dX9_isFuel_16
  exact key s.heap [] hP hS
