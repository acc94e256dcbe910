abbrev rm_X10_about : Room := { frames := 1, cells := 0, slots := 0, locals := 23 }
set_option maxHeartbeats 4000000 in
set_option maxRecDepth 100000 in
theorem c_X10_about (l : Launch) (D : va_G) (ad : Nat → Nat) (cI : ClassId) (hap : apart ad 40) (sz : Nat) (σ : St) (a1 : Int32) (K : Int32 → St → Prop) (hw : w_X10_about σ a1 K) : Met l yX10_about wsX10_about rm_X10_about (va_Pc [.ref (ad 0), .int a1] (fun U => U.heap.size = sz ∧ inW D (wdM ad cI) [(cI, .int)] σ U)) (va_Qi K (inW D (wdM ad cI) [(cI, .int)]) (AW ad 40 sz)) 0 0 (AW ad 40 sz) := by
  refine Met.ofW (cc := cX10_about) (maxL := 2) (ret := (some .int)) (by decide) rfl ?_
  intro p e s m args below meth c s₁ B hml hv
  obtain ⟨rfl, hsz, ⟨hP, hK⟩⟩ := hv
  have F : CallFix p m c cX10_about 2 s ([.ref (ad 0), .int a1] : List Value).toArray wsX10_about RX10 := ⟨B.exec, B.bytes, hml, findClass_of_methodNamed B.named, atoms_spec (ws := wsX10_about) B.pre⟩
  have hx := F.1
  have hb := F.2.1
  have hown := F.2.2.2.1
  have hts := F.2.2.2.2
  have hr := B.returns
  have hlocks := B.notSynchronized
  subst hsz
  have hDs : ∀ σ, va_D (AW ad 40 s.heap.size) ((wdM ad cI) σ) := fun σ => wdM_D hap σ
  have hS : va_S (AW ad 40 s.heap.size) s.heap s.heap [] := va_S.rf
  have iw_X10 : ∀ w ∈ u_ws RX10 TX10 57, w ∈ wsX10_about := by decide +kernel
  have f_f149 := hts (.fieldLink RX10 149 "TokenFloorModel" "isRun" "Z") (by decide +kernel)
  have f_f153 := hts (.fieldLink RX10 153 "TokenFloorModel" "how" "I") (by decide +kernel)
  have f_f156 := hts (.fieldLink RX10 156 "TokenFloorModel" "clash" "I") (by decide +kernel)
  have f_f162 := hts (.fieldLink RX10 162 "TokenFloorModel" "colours" "I") (by decide +kernel)
  have f_f175 := hts (.fieldLink RX10 175 "TokenFloorModel" "readyMany" "I") (by decide +kernel)
  have f_f218 := hts (.fieldLink RX10 218 "TokenFloorModel" "lost" "I") (by decide +kernel)
  have f_f231 := hts (.fieldLink RX10 231 "TokenFloorModel" "strays" "I") (by decide +kernel)
  have f_f245 := hts (.fieldLink RX10 245 "TokenFloorModel" "steps" "I") (by decide +kernel)
  have f_f248 := hts (.fieldLink RX10 248 "TokenFloorModel" "ticked" "I") (by decide +kernel)
  have f_f251 := hts (.fieldLink RX10 251 "TokenFloorModel" "most" "I") (by decide +kernel)
  have hl := lv_entry ([.ref (ad 0), .int a1]) (n := 2) (Nat.le_of_ble_eq_true rfl)
  rw [lg_entry_eq]
  generalize (lg_sl ([.ref (ad 0), .int a1]) ++ List.replicate (2 - (lg_sl ([.ref (ad 0), .int a1])).length) Slot.unset).toArray = ls at hl ⊢
  have hl : lv_has ls 2 [(0, .ref (ad 0)), (1, .int a1)] := hl
  have key : ∀ (H : Heap), va_P D vwCl ((wdM ad cI) σ) H → va_S (AW ad 40 s.heap.size) s.heap H [] → W p l e (headSpec wsX10_about rm_X10_about).room s m ([.ref (ad 0), .int a1] : List Value).toArray below meth c H [] 0 0 (MQ below (va_Qi K (inW D (wdM ad cI) [(cI, .int)]) (AW ad 40 s.heap.size)) ([.ref (ad 0), .int a1] : List Value).toArray s 0 0 (AW ad 40 s.heap.size)) (F0 m 0 ls []) := by
    intro H hP hS
    unfold w_X10_about at hw
    refine lv_aload_n hx hb dX10_about_0 rfl (lv_at hl 0 rfl) ?_
    refine gM_X10_isRun F hK iw_X10 hP f_f149 dX10_about_1 ?_
    refine W.eq (g2 := F0 m 4 ls [.int (gS σ 3)]) rfl ?_
    refine lv_if_ne (tgt := 9) hx hb dX10_about_4 (by decide) (fun c_39 => ?_) (fun c_39 => ?_)
    · have hw := hw.1 c_39
      refine lv_iload_n hx hb dX10_about_9 rfl (lv_at hl 1 rfl) ?_
      by_cases k_1 : a1 = 0
      · have hw := hw.1 k_1
        refine sw_in 0 (tgt := 68) F dX10_about_10 k_1 (by decide) (by decide) rfl (by decide) ?_
        refine lv_aload_n hx hb dX10_about_68 rfl (lv_at hl 0 rfl) ?_
        refine gM_X10_how F hK iw_X10 hP f_f153 dX10_about_69 ?_
        refine W.eq (g2 := F0 m 72 ls [.int (gS σ 5)]) rfl ?_
        exact rtI F hr hlocks hK hw hP hS dX10_about_72
      · have hw := hw.2 k_1
        by_cases k_2 : a1 = 1
        · have hw := hw.1 k_2
          refine sw_in 1 (tgt := 73) F dX10_about_10 k_2 (by decide) (by decide) rfl (by decide) ?_
          refine lv_aload_n hx hb dX10_about_73 rfl (lv_at hl 0 rfl) ?_
          refine gM_X10_steps F hK iw_X10 hP f_f245 dX10_about_74 ?_
          refine W.eq (g2 := F0 m 77 ls [.int (gS σ 6)]) rfl ?_
          exact rtI F hr hlocks hK hw hP hS dX10_about_77
        · have hw := hw.2 k_2
          by_cases k_3 : a1 = 2
          · have hw := hw.1 k_3
            refine sw_in 2 (tgt := 78) F dX10_about_10 k_3 (by decide) (by decide) rfl (by decide) ?_
            refine lv_aload_n hx hb dX10_about_78 rfl (lv_at hl 0 rfl) ?_
            refine gM_X10_ticked F hK iw_X10 hP f_f248 dX10_about_79 ?_
            refine W.eq (g2 := F0 m 82 ls [.int (gS σ 7)]) rfl ?_
            exact rtI F hr hlocks hK hw hP hS dX10_about_82
          · have hw := hw.2 k_3
            by_cases k_4 : a1 = 3
            · have hw := hw.1 k_4
              refine sw_in 3 (tgt := 83) F dX10_about_10 k_4 (by decide) (by decide) rfl (by decide) ?_
              refine lv_aload_n hx hb dX10_about_83 rfl (lv_at hl 0 rfl) ?_
              refine gM_X10_most F hK iw_X10 hP f_f251 dX10_about_84 ?_
              refine W.eq (g2 := F0 m 87 ls [.int (gS σ 8)]) rfl ?_
              exact rtI F hr hlocks hK hw hP hS dX10_about_87
            · have hw := hw.2 k_4
              by_cases k_5 : a1 = 4
              · have hw := hw.1 k_5
                refine sw_in 4 (tgt := 88) F dX10_about_10 k_5 (by decide) (by decide) rfl (by decide) ?_
                refine lv_aload_n hx hb dX10_about_88 rfl (lv_at hl 0 rfl) ?_
                refine cvI (As := []) (rest := []) F hK hP hS (c_X10_left l D ad cI hap H.size _ _ hw) (cwV 0 hts gX10_about_X10_left rfl rfl rfl (by decide +kernel) ⟨Nat.le_of_ble_eq_true rfl, Nat.le_of_ble_eq_true rfl⟩) (va_recv hK hP (ci := 7) (q0 := 0) rfl rfl) rfl hl.1 rfl (Nat.le_of_ble_eq_true rfl) dX10_about_89 ⟨Nat.zero_le _, Nat.zero_le _⟩ (fun r_7 u_6 H locs hw hP hS => ?_)
                exact rtI F hr hlocks hK hw hP hS dX10_about_92
              · have hw := hw.2 k_5
                by_cases k_8 : a1 = 5
                · have hw := hw.1 k_8
                  refine sw_in 5 (tgt := 93) F dX10_about_10 k_8 (by decide) (by decide) rfl (by decide) ?_
                  refine lv_aload_n hx hb dX10_about_93 rfl (lv_at hl 0 rfl) ?_
                  refine cvI (As := []) (rest := []) F hK hP hS (c_X10_waiting l D ad cI hap H.size _ _ hw) (cwV 0 hts gX10_about_X10_waiting rfl rfl rfl (by decide +kernel) ⟨Nat.le_of_ble_eq_true rfl, Nat.le_of_ble_eq_true rfl⟩) (va_recv hK hP (ci := 7) (q0 := 0) rfl rfl) rfl hl.1 rfl (Nat.le_of_ble_eq_true rfl) dX10_about_94 ⟨Nat.zero_le _, Nat.zero_le _⟩ (fun r_10 u_9 H locs hw hP hS => ?_)
                  exact rtI F hr hlocks hK hw hP hS dX10_about_97
                · have hw := hw.2 k_8
                  by_cases k_11 : a1 = 6
                  · have hw := hw.1 k_11
                    refine sw_in 6 (tgt := 98) F dX10_about_10 k_11 (by decide) (by decide) rfl (by decide) ?_
                    refine lv_aload_n hx hb dX10_about_98 rfl (lv_at hl 0 rfl) ?_
                    refine gM_X10_lost F hK iw_X10 hP f_f218 dX10_about_99 ?_
                    refine W.eq (g2 := F0 m 102 ls [.int (gS σ 9)]) rfl ?_
                    exact rtI F hr hlocks hK hw hP hS dX10_about_102
                  · have hw := hw.2 k_11
                    by_cases k_12 : a1 = 7
                    · have hw := hw.1 k_12
                      refine sw_in 7 (tgt := 103) F dX10_about_10 k_12 (by decide) (by decide) rfl (by decide) ?_
                      refine lv_aload_n hx hb dX10_about_103 rfl (lv_at hl 0 rfl) ?_
                      refine gM_X10_strays F hK iw_X10 hP f_f231 dX10_about_104 ?_
                      refine W.eq (g2 := F0 m 107 ls [.int (gS σ 10)]) rfl ?_
                      exact rtI F hr hlocks hK hw hP hS dX10_about_107
                    · have hw := hw.2 k_12
                      by_cases k_13 : a1 = 8
                      · have hw := hw.1 k_13
                        refine sw_in 8 (tgt := 108) F dX10_about_10 k_13 (by decide) (by decide) rfl (by decide) ?_
                        refine lv_aload_n hx hb dX10_about_108 rfl (lv_at hl 0 rfl) ?_
                        refine gM_X10_colours F hK iw_X10 hP f_f162 dX10_about_109 ?_
                        refine W.eq (g2 := F0 m 112 ls [.int (gS σ 12)]) rfl ?_
                        exact rtI F hr hlocks hK hw hP hS dX10_about_112
                      · have hw := hw.2 k_13
                        by_cases k_14 : a1 = 9
                        · have hw := hw.1 k_14
                          refine sw_in 9 (tgt := 113) F dX10_about_10 k_14 (by decide) (by decide) rfl (by decide) ?_
                          refine lv_aload_n hx hb dX10_about_113 rfl (lv_at hl 0 rfl) ?_
                          refine gM_X10_clash F hK iw_X10 hP f_f156 dX10_about_114 ?_
                          refine W.eq (g2 := F0 m 117 ls [.int (gS σ 11)]) rfl ?_
                          exact rtI F hr hlocks hK hw hP hS dX10_about_117
                        · have hw := hw.2 k_14
                          by_cases k_15 : a1 = 10
                          · have hw := hw.1 k_15
                            refine sw_in 10 (tgt := 118) F dX10_about_10 k_15 (by decide) (by decide) rfl (by decide) ?_
                            refine lv_aload_n hx hb dX10_about_118 rfl (lv_at hl 0 rfl) ?_
                            refine gM_X10_readyMany F hK iw_X10 hP f_f175 dX10_about_119 ?_
                            refine W.eq (g2 := F0 m 122 ls [.int (gS σ 14)]) rfl ?_
                            exact rtI F hr hlocks hK hw hP hS dX10_about_122
                          · have hw := hw.2 k_15
                            have z_16 : ¬ a1.toInt = 0 := lv_neT (fun z => k_1 z) (k := 0) (by decide)
                            have z_17 : ¬ a1.toInt = 1 := lv_neT (fun z => k_2 z) (k := 1) (by decide)
                            have z_18 : ¬ a1.toInt = 2 := lv_neT (fun z => k_3 z) (k := 2) (by decide)
                            have z_19 : ¬ a1.toInt = 3 := lv_neT (fun z => k_4 z) (k := 3) (by decide)
                            have z_20 : ¬ a1.toInt = 4 := lv_neT (fun z => k_5 z) (k := 4) (by decide)
                            have z_21 : ¬ a1.toInt = 5 := lv_neT (fun z => k_8 z) (k := 5) (by decide)
                            have z_22 : ¬ a1.toInt = 6 := lv_neT (fun z => k_11 z) (k := 6) (by decide)
                            have z_23 : ¬ a1.toInt = 7 := lv_neT (fun z => k_12 z) (k := 7) (by decide)
                            have z_24 : ¬ a1.toInt = 8 := lv_neT (fun z => k_13 z) (k := 8) (by decide)
                            have z_25 : ¬ a1.toInt = 9 := lv_neT (fun z => k_14 z) (k := 9) (by decide)
                            have z_26 : ¬ a1.toInt = 10 := lv_neT (fun z => k_15 z) (k := 10) (by decide)
                            have kd : W p l e (headSpec wsX10_about rm_X10_about).room s m ([.ref (ad 0), .int a1] : List Value).toArray below meth c H locs 0 0 (MQ below (va_Qi K (inW D (wdM ad cI) [(cI, .int)]) (AW ad 40 s.heap.size)) ([.ref (ad 0), .int a1] : List Value).toArray s 0 0 (AW ad 40 s.heap.size)) (F0 m 123 ls []) := by
                              refine lv_iconst (v := (-1)) hx hb dX10_about_123 (by decide) ?_
                              exact rtI F hr hlocks hK hw hP hS dX10_about_124
                            rcases (show (a1.toInt < 0 ∨ 10 < a1.toInt) by omega) with o_27
                            · exact lv_tableOut hx hb dX10_about_10 o_27 (by decide) kd
    · have hw := hw.2 c_39
      refine lv_iconst (v := (-1)) hx hb dX10_about_7 (by decide) ?_
      exact rtI F hr hlocks hK hw hP hS dX10_about_8
  exact key s.heap hP hS

abbrev rm_X10_told1 : Room := { frames := 0, cells := 0, slots := 0, locals := 0 }
set_option maxHeartbeats 4000000 in
set_option maxRecDepth 100000 in
theorem c_X10_told1 (l : Launch) (D : va_G) (ad : Nat → Nat) (cI : ClassId) (hap : apart ad 40) (sz : Nat) (σ : St) (a1 : Int32) (a2 : Int32) (a3 : Int32) (a4 : Int32) (K : Int32 → St → Prop) (hw : w_X10_told1 σ a1 a2 a3 a4 K) : Met l yX10_told1 wsX10_told1 rm_X10_told1 (va_Pc [.ref (ad 0), .int a1, .int a2, .int a3, .int a4] (fun U => U.heap.size = sz ∧ inW D (wdM ad cI) [(cI, .int)] σ U)) (va_Qi K (inW D (wdM ad cI) [(cI, .int)]) (AW ad 40 sz)) 0 0 (AW ad 40 sz) := by
  refine Met.ofW (cc := cX10_told1) (maxL := 5) (ret := (some .int)) (by decide) rfl ?_
  intro p e s m args below meth c s₁ B hml hv
  obtain ⟨rfl, hsz, ⟨hP, hK⟩⟩ := hv
  have F : CallFix p m c cX10_told1 5 s ([.ref (ad 0), .int a1, .int a2, .int a3, .int a4] : List Value).toArray wsX10_told1 RX10 := ⟨B.exec, B.bytes, hml, findClass_of_methodNamed B.named, atoms_spec (ws := wsX10_told1) B.pre⟩
  have hx := F.1
  have hb := F.2.1
  have hown := F.2.2.2.1
  have hts := F.2.2.2.2
  have hr := B.returns
  have hlocks := B.notSynchronized
  subst hsz
  have hDs : ∀ σ, va_D (AW ad 40 s.heap.size) ((wdM ad cI) σ) := fun σ => wdM_D hap σ
  have hS : va_S (AW ad 40 s.heap.size) s.heap s.heap [] := va_S.rf
  have iw_X10 : ∀ w ∈ u_ws RX10 TX10 57, w ∈ wsX10_told1 := by decide +kernel
  have f_f88 := hts (.fieldLink RX10 88 "TokenFloorModel" "rSize" "[I") (by decide +kernel)
  have hl := lv_entry ([.ref (ad 0), .int a1, .int a2, .int a3, .int a4]) (n := 5) (Nat.le_of_ble_eq_true rfl)
  rw [lg_entry_eq]
  generalize (lg_sl ([.ref (ad 0), .int a1, .int a2, .int a3, .int a4]) ++ List.replicate (5 - (lg_sl ([.ref (ad 0), .int a1, .int a2, .int a3, .int a4])).length) Slot.unset).toArray = ls at hl ⊢
  have hl : lv_has ls 5 [(0, .ref (ad 0)), (1, .int a1), (2, .int a2), (3, .int a3), (4, .int a4)] := hl
  have key : ∀ (H : Heap), va_P D vwCl ((wdM ad cI) σ) H → va_S (AW ad 40 s.heap.size) s.heap H [] → W p l e (headSpec wsX10_told1 rm_X10_told1).room s m ([.ref (ad 0), .int a1, .int a2, .int a3, .int a4] : List Value).toArray below meth c H [] 0 0 (MQ below (va_Qi K (inW D (wdM ad cI) [(cI, .int)]) (AW ad 40 s.heap.size)) ([.ref (ad 0), .int a1, .int a2, .int a3, .int a4] : List Value).toArray s 0 0 (AW ad 40 s.heap.size)) (F0 m 0 ls []) := by
    intro H hP hS
    unfold w_X10_told1 at hw
    refine lv_iload hx hb dX10_told1_0 (lv_at hl 4 rfl) ?_
    refine lv_if_ne (tgt := 7) hx hb dX10_told1_2 (by decide) (fun c_6 => ?_) (fun c_6 => ?_)
    · have hw := hw.1 c_6
      refine lv_iload hx hb dX10_told1_7 (lv_at hl 4 rfl) ?_
      refine lv_iconst (v := 1) hx hb dX10_told1_9 (by decide) ?_
      refine lv_icmp_ne (tgt := 37) hx hb dX10_told1_10 (by decide) (fun c_5 => ?_) (fun c_5 => ?_)
      · have hw := hw.1 c_5
        refine lv_iload_n hx hb dX10_told1_37 rfl (lv_at hl 1 rfl) ?_
        refine lv_iconst (v := 3) hx hb dX10_told1_38 (by decide) ?_
        refine lv_icmp_ne (tgt := 46) hx hb dX10_told1_39 (by decide) (fun c_1 => ?_) (fun c_1 => ?_)
        · have hw := hw.1 c_1
          refine lv_iconst (v := (-1)) hx hb dX10_told1_46 (by decide) ?_
          exact rtI F hr hlocks hK hw hP hS dX10_told1_47
        · have hw := hw.2 c_1
          refine lv_iload_n hx hb dX10_told1_42 rfl (lv_at hl 3 rfl) ?_
          refine lv_goto (tgt := 47) hx hb dX10_told1_43 (by decide) ?_
          exact rtI F hr hlocks hK hw hP hS dX10_told1_47
      · have hw := hw.2 c_5
        refine lv_iload_n hx hb dX10_told1_13 rfl (lv_at hl 1 rfl) ?_
        refine lv_if_ne (tgt := 21) hx hb dX10_told1_14 (by decide) (fun c_4 => ?_) (fun c_4 => ?_)
        · have hw := hw.1 c_4
          refine lv_iload_n hx hb dX10_told1_21 rfl (lv_at hl 1 rfl) ?_
          refine lv_iconst (v := 2) hx hb dX10_told1_22 (by decide) ?_
          refine lv_icmp_ne (tgt := 35) hx hb dX10_told1_23 (by decide) (fun c_3 => ?_) (fun c_3 => ?_)
          · have hw := hw.1 c_3
            refine lv_iload_n hx hb dX10_told1_35 rfl (lv_at hl 2 rfl) ?_
            exact rtI F hr hlocks hK hw hP hS dX10_told1_36
          · have hw := hw.2 c_3
            refine lv_aload_n hx hb dX10_told1_26 rfl (lv_at hl 0 rfl) ?_
            refine gM_X10_rSize F hK iw_X10 hP f_f88 dX10_told1_27 ?_
            refine lv_iload_n hx hb dX10_told1_30 rfl (lv_at hl 2 rfl) ?_
            obtain ⟨i_2, hw⟩ := hw
            refine lM_X10_rSize F hK hP i_2 dX10_told1_31 ?_
            refine lv_goto (tgt := 36) hx hb dX10_told1_32 (by decide) ?_
            exact rtI F hr hlocks hK hw hP hS dX10_told1_36
        · have hw := hw.2 c_4
          refine lv_iconst (v := (-1)) hx hb dX10_told1_17 (by decide) ?_
          refine lv_goto (tgt := 36) hx hb dX10_told1_18 (by decide) ?_
          exact rtI F hr hlocks hK hw hP hS dX10_told1_36
    · have hw := hw.2 c_6
      refine lv_iload_n hx hb dX10_told1_5 rfl (lv_at hl 1 rfl) ?_
      exact rtI F hr hlocks hK hw hP hS dX10_told1_6
  exact key s.heap hP hS

abbrev rm_X10_end : Room := { frames := 1, cells := 0, slots := 0, locals := 24 }
set_option maxHeartbeats 4000000 in
set_option maxRecDepth 100000 in
theorem c_X10_end (l : Launch) (D : va_G) (ad : Nat → Nat) (cI : ClassId) (hap : apart ad 40) (sz : Nat) (σ : St) (a1 : Int32) (a2 : Int32) (K : Int32 → St → Prop) (hw : w_X10_end σ a1 a2 K) : Met l yX10_end wsX10_end rm_X10_end (va_Pc [.ref (ad 0), .int a1, .int a2] (fun U => U.heap.size = sz ∧ inW D (wdM ad cI) [(cI, .int)] σ U)) (va_Qi K (inW D (wdM ad cI) [(cI, .int)]) (AW ad 40 sz)) 0 0 (AW ad 40 sz) := by
  refine Met.ofW (cc := cX10_end) (maxL := 3) (ret := (some .int)) (by decide) rfl ?_
  intro p e s m args below meth c s₁ B hml hv
  obtain ⟨rfl, hsz, ⟨hP, hK⟩⟩ := hv
  have F : CallFix p m c cX10_end 3 s ([.ref (ad 0), .int a1, .int a2] : List Value).toArray wsX10_end RX10 := ⟨B.exec, B.bytes, hml, findClass_of_methodNamed B.named, atoms_spec (ws := wsX10_end) B.pre⟩
  have hx := F.1
  have hb := F.2.1
  have hown := F.2.2.2.1
  have hts := F.2.2.2.2
  have hr := B.returns
  have hlocks := B.notSynchronized
  subst hsz
  have hDs : ∀ σ, va_D (AW ad 40 s.heap.size) ((wdM ad cI) σ) := fun σ => wdM_D hap σ
  have hS : va_S (AW ad 40 s.heap.size) s.heap s.heap [] := va_S.rf
  have iw_X10 : ∀ w ∈ u_ws RX10 TX10 57, w ∈ wsX10_end := by decide +kernel
  have f_f112 := hts (.fieldLink RX10 112 "TokenFloorModel" "endKind" "[I") (by decide +kernel)
  have f_f115 := hts (.fieldLink RX10 115 "TokenFloorModel" "endValue" "[I") (by decide +kernel)
  have f_f118 := hts (.fieldLink RX10 118 "TokenFloorModel" "endOf" "[I") (by decide +kernel)
  have f_f149 := hts (.fieldLink RX10 149 "TokenFloorModel" "isRun" "Z") (by decide +kernel)
  have hl := lv_entry ([.ref (ad 0), .int a1, .int a2]) (n := 3) (Nat.le_of_ble_eq_true rfl)
  rw [lg_entry_eq]
  generalize (lg_sl ([.ref (ad 0), .int a1, .int a2]) ++ List.replicate (3 - (lg_sl ([.ref (ad 0), .int a1, .int a2])).length) Slot.unset).toArray = ls at hl ⊢
  have hl : lv_has ls 3 [(0, .ref (ad 0)), (1, .int a1), (2, .int a2)] := hl
  have key : ∀ (H : Heap), va_P D vwCl ((wdM ad cI) σ) H → va_S (AW ad 40 s.heap.size) s.heap H [] → W p l e (headSpec wsX10_end rm_X10_end).room s m ([.ref (ad 0), .int a1, .int a2] : List Value).toArray below meth c H [] 0 0 (MQ below (va_Qi K (inW D (wdM ad cI) [(cI, .int)]) (AW ad 40 s.heap.size)) ([.ref (ad 0), .int a1, .int a2] : List Value).toArray s 0 0 (AW ad 40 s.heap.size)) (F0 m 0 ls []) := by
    intro H hP hS
    unfold w_X10_end at hw
    refine lv_aload_n hx hb dX10_end_0 rfl (lv_at hl 0 rfl) ?_
    refine gM_X10_isRun F hK iw_X10 hP f_f149 dX10_end_1 ?_
    refine W.eq (g2 := F0 m 4 ls [.int (gS σ 3)]) rfl ?_
    refine lv_if_eq (tgt := 52) hx hb dX10_end_4 (by decide) (fun c_12 => ?_) (fun c_12 => ?_)
    · have hw := hw.1 c_12
      refine lv_iconst (v := (-1)) hx hb dX10_end_52 (by decide) ?_
      exact rtI F hr hlocks hK hw hP hS dX10_end_53
    · have hw := hw.2 c_12
      refine lv_iload_n hx hb dX10_end_7 rfl (lv_at hl 1 rfl) ?_
      refine lv_iconst (v := 0) hx hb dX10_end_8 (by decide) ?_
      refine lv_bipush (v := 9) hx hb dX10_end_9 (by decide) ?_
      refine csI (As := [.int a1, .int 0, .int 9]) (rest := []) F hK hP hS (c_X10_in l D ad cI hap H.size _ _ _ _ _ hw) (va_cwS 3 hts gX10_end_X10_in rfl rfl rfl (by decide +kernel) ⟨Nat.le_of_ble_eq_true rfl, Nat.le_of_ble_eq_true rfl⟩) rfl hl.1 rfl (Nat.le_of_ble_eq_true rfl) dX10_end_11 ⟨Nat.zero_le _, Nat.zero_le _⟩ (fun r_2 u_1 H locs hw hP hS => ?_)
      obtain ⟨zr_2, hw⟩ := hw
      refine lv_if_eq (tgt := 52) hx hb dX10_end_14 (by decide) (fun c_11 => ?_) (fun c_11 => ?_)
      · have hw := hw.1 c_11
        refine lv_iconst (v := (-1)) hx hb dX10_end_52 (by decide) ?_
        exact rtI F hr hlocks hK hw hP hS dX10_end_53
      · have hw := hw.2 c_11
        refine lv_iload_n hx hb dX10_end_17 rfl (lv_at hl 2 rfl) ?_
        refine lv_iconst (v := 0) hx hb dX10_end_18 (by decide) ?_
        refine lv_iconst (v := 2) hx hb dX10_end_19 (by decide) ?_
        refine csI (As := [.int a2, .int 0, .int 2]) (rest := []) F hK hP hS (c_X10_in l D ad cI hap H.size _ _ _ _ _ hw) (va_cwS 3 hts gX10_end_X10_in rfl rfl rfl (by decide +kernel) ⟨Nat.le_of_ble_eq_true rfl, Nat.le_of_ble_eq_true rfl⟩) rfl hl.1 rfl (Nat.le_of_ble_eq_true rfl) dX10_end_20 ⟨Nat.zero_le _, Nat.zero_le _⟩ (fun r_4 u_3 H locs hw hP hS => ?_)
        obtain ⟨zr_4, hw⟩ := hw
        refine lv_if_eq (tgt := 52) hx hb dX10_end_23 (by decide) (fun c_10 => ?_) (fun c_10 => ?_)
        · have hw := hw.1 c_10
          refine lv_iconst (v := (-1)) hx hb dX10_end_52 (by decide) ?_
          exact rtI F hr hlocks hK hw hP hS dX10_end_53
        · have hw := hw.2 c_10
          refine lv_aload_n hx hb dX10_end_26 rfl (lv_at hl 0 rfl) ?_
          refine lv_aload_n hx hb dX10_end_27 rfl (lv_at hl 0 rfl) ?_
          refine gM_X10_endKind F hK iw_X10 hP f_f112 dX10_end_28 ?_
          refine lv_iload_n hx hb dX10_end_31 rfl (lv_at hl 1 rfl) ?_
          obtain ⟨i_9, hw⟩ := hw
          refine lM_X10_endKind F hK hP i_9 dX10_end_32 ?_
          refine lv_aload_n hx hb dX10_end_33 rfl (lv_at hl 0 rfl) ?_
          refine gM_X10_endValue F hK iw_X10 hP f_f115 dX10_end_34 ?_
          refine lv_iload_n hx hb dX10_end_37 rfl (lv_at hl 1 rfl) ?_
          obtain ⟨i_8, hw⟩ := hw
          refine lM_X10_endValue F hK hP i_8 dX10_end_38 ?_
          refine lv_aload_n hx hb dX10_end_39 rfl (lv_at hl 0 rfl) ?_
          refine gM_X10_endOf F hK iw_X10 hP f_f118 dX10_end_40 ?_
          refine lv_iload_n hx hb dX10_end_43 rfl (lv_at hl 1 rfl) ?_
          obtain ⟨i_7, hw⟩ := hw
          refine lM_X10_endOf F hK hP i_7 dX10_end_44 ?_
          refine lv_iload_n hx hb dX10_end_45 rfl (lv_at hl 2 rfl) ?_
          refine cvI (As := [.int (gA u_3 34 (a1).toNatClampNeg), .int (gA u_3 35 (a1).toNatClampNeg), .int (gA u_3 36 (a1).toNatClampNeg), .int a2]) (rest := []) F hK hP hS (c_X10_told1 l D ad cI hap H.size _ _ _ _ _ _ hw) (cwV 4 hts gX10_end_X10_told1 rfl rfl rfl (by decide +kernel) ⟨Nat.le_of_ble_eq_true rfl, Nat.le_of_ble_eq_true rfl⟩) (va_recv hK hP (ci := 7) (q0 := 0) rfl rfl) rfl hl.1 rfl (Nat.le_of_ble_eq_true rfl) dX10_end_46 ⟨Nat.zero_le _, Nat.zero_le _⟩ (fun r_6 u_5 H locs hw hP hS => ?_)
          refine lv_goto (tgt := 53) hx hb dX10_end_49 (by decide) ?_
          exact rtI F hr hlocks hK hw hP hS dX10_end_53
  exact key s.heap hP hS

abbrev rm_X10_fired : Room := { frames := 2, cells := 0, slots := 0, locals := 43 }
set_option maxHeartbeats 4000000 in
set_option maxRecDepth 100000 in
theorem c_X10_fired (l : Launch) (D : va_G) (ad : Nat → Nat) (cI : ClassId) (hap : apart ad 40) (sz : Nat) (σ : St) (a1 : Int32) (K : Int32 → St → Prop) (hw : w_X10_fired σ a1 K) : Met l yX10_fired wsX10_fired rm_X10_fired (va_Pc [.ref (ad 0), .int a1] (fun U => U.heap.size = sz ∧ inW D (wdM ad cI) [(cI, .int)] σ U)) (va_Qi K (inW D (wdM ad cI) [(cI, .int)]) (AW ad 40 sz)) 0 0 (AW ad 40 sz) := by
  refine Met.ofW (cc := cX10_fired) (maxL := 2) (ret := (some .int)) (by decide) rfl ?_
  intro p e s m args below meth c s₁ B hml hv
  obtain ⟨rfl, hsz, ⟨hP, hK⟩⟩ := hv
  have F : CallFix p m c cX10_fired 2 s ([.ref (ad 0), .int a1] : List Value).toArray wsX10_fired RX10 := ⟨B.exec, B.bytes, hml, findClass_of_methodNamed B.named, atoms_spec (ws := wsX10_fired) B.pre⟩
  have hx := F.1
  have hb := F.2.1
  have hown := F.2.2.2.1
  have hts := F.2.2.2.2
  have hr := B.returns
  have hlocks := B.notSynchronized
  subst hsz
  have hDs : ∀ σ, va_D (AW ad 40 s.heap.size) ((wdM ad cI) σ) := fun σ => wdM_D hap σ
  have hS : va_S (AW ad 40 s.heap.size) s.heap s.heap [] := va_S.rf
  have iw_X10 : ∀ w ∈ u_ws RX10 TX10 57, w ∈ wsX10_fired := by decide +kernel
  have f_f149 := hts (.fieldLink RX10 149 "TokenFloorModel" "isRun" "Z") (by decide +kernel)
  have f_f79 := hts (.fieldLink RX10 79 "TokenFloorModel" "fired" "[I") (by decide +kernel)
  have hl := lv_entry ([.ref (ad 0), .int a1]) (n := 2) (Nat.le_of_ble_eq_true rfl)
  rw [lg_entry_eq]
  generalize (lg_sl ([.ref (ad 0), .int a1]) ++ List.replicate (2 - (lg_sl ([.ref (ad 0), .int a1])).length) Slot.unset).toArray = ls at hl ⊢
  have hl : lv_has ls 2 [(0, .ref (ad 0)), (1, .int a1)] := hl
  have key : ∀ (H : Heap), va_P D vwCl ((wdM ad cI) σ) H → va_S (AW ad 40 s.heap.size) s.heap H [] → W p l e (headSpec wsX10_fired rm_X10_fired).room s m ([.ref (ad 0), .int a1] : List Value).toArray below meth c H [] 0 0 (MQ below (va_Qi K (inW D (wdM ad cI) [(cI, .int)]) (AW ad 40 s.heap.size)) ([.ref (ad 0), .int a1] : List Value).toArray s 0 0 (AW ad 40 s.heap.size)) (F0 m 0 ls []) := by
    intro H hP hS
    unfold w_X10_fired at hw
    refine lv_aload_n hx hb dX10_fired_0 rfl (lv_at hl 0 rfl) ?_
    refine gM_X10_isRun F hK iw_X10 hP f_f149 dX10_fired_1 ?_
    refine W.eq (g2 := F0 m 4 ls [.int (gS σ 3)]) rfl ?_
    refine lv_if_eq (tgt := 24) hx hb dX10_fired_4 (by decide) (fun c_5 => ?_) (fun c_5 => ?_)
    · have hw := hw.1 c_5
      refine lv_iconst (v := (-1)) hx hb dX10_fired_24 (by decide) ?_
      exact rtI F hr hlocks hK hw hP hS dX10_fired_25
    · have hw := hw.2 c_5
      refine lv_aload_n hx hb dX10_fired_7 rfl (lv_at hl 0 rfl) ?_
      refine lv_iload_n hx hb dX10_fired_8 rfl (lv_at hl 1 rfl) ?_
      refine cvI (As := [.int a1]) (rest := []) F hK hP hS (c_X10_isAct l D ad cI hap H.size _ _ _ hw) (cwV 1 hts gX10_fired_X10_isAct rfl rfl rfl (by decide +kernel) ⟨Nat.le_of_ble_eq_true rfl, Nat.le_of_ble_eq_true rfl⟩) (va_recv hK hP (ci := 7) (q0 := 0) rfl rfl) rfl hl.1 rfl (Nat.le_of_ble_eq_true rfl) dX10_fired_9 ⟨Nat.zero_le _, Nat.zero_le _⟩ (fun r_2 u_1 H locs hw hP hS => ?_)
      obtain ⟨zr_2, hw⟩ := hw
      refine lv_if_eq (tgt := 24) hx hb dX10_fired_12 (by decide) (fun c_4 => ?_) (fun c_4 => ?_)
      · have hw := hw.1 c_4
        refine lv_iconst (v := (-1)) hx hb dX10_fired_24 (by decide) ?_
        exact rtI F hr hlocks hK hw hP hS dX10_fired_25
      · have hw := hw.2 c_4
        refine lv_aload_n hx hb dX10_fired_15 rfl (lv_at hl 0 rfl) ?_
        refine gM_X10_fired F hK iw_X10 hP f_f79 dX10_fired_16 ?_
        refine lv_iload_n hx hb dX10_fired_19 rfl (lv_at hl 1 rfl) ?_
        obtain ⟨i_3, hw⟩ := hw
        refine lM_X10_fired F hK hP i_3 dX10_fired_20 ?_
        refine lv_goto (tgt := 25) hx hb dX10_fired_21 (by decide) ?_
        exact rtI F hr hlocks hK hw hP hS dX10_fired_25
  exact key s.heap hP hS

abbrev rm_X10_cell : Room := { frames := 1, cells := 0, slots := 0, locals := 24 }
set_option maxHeartbeats 4000000 in
set_option maxRecDepth 100000 in
theorem c_X10_cell (l : Launch) (D : va_G) (ad : Nat → Nat) (cI : ClassId) (hap : apart ad 40) (sz : Nat) (σ : St) (a1 : Int32) (a2 : Int32) (a3 : Int32) (K : Int32 → St → Prop) (hw : w_X10_cell σ a1 a2 a3 K) : Met l yX10_cell wsX10_cell rm_X10_cell (va_Pc [.ref (ad 0), .int a1, .int a2, .int a3] (fun U => U.heap.size = sz ∧ inW D (wdM ad cI) [(cI, .int)] σ U)) (va_Qi K (inW D (wdM ad cI) [(cI, .int)]) (AW ad 40 sz)) 0 0 (AW ad 40 sz) := by
  refine Met.ofW (cc := cX10_cell) (maxL := 6) (ret := (some .int)) (by decide) rfl ?_
  intro p e s m args below meth c s₁ B hml hv
  obtain ⟨rfl, hsz, ⟨hP, hK⟩⟩ := hv
  have F : CallFix p m c cX10_cell 6 s ([.ref (ad 0), .int a1, .int a2, .int a3] : List Value).toArray wsX10_cell RX10 := ⟨B.exec, B.bytes, hml, findClass_of_methodNamed B.named, atoms_spec (ws := wsX10_cell) B.pre⟩
  have hx := F.1
  have hb := F.2.1
  have hown := F.2.2.2.1
  have hts := F.2.2.2.2
  have hr := B.returns
  have hlocks := B.notSynchronized
  subst hsz
  have hDs : ∀ σ, va_D (AW ad 40 s.heap.size) ((wdM ad cI) σ) := fun σ => wdM_D hap σ
  have hS : va_S (AW ad 40 s.heap.size) s.heap s.heap [] := va_S.rf
  have iw_X10 : ∀ w ∈ u_ws RX10 TX10 57, w ∈ wsX10_cell := by decide +kernel
  have f_f100 := hts (.fieldLink RX10 100 "TokenFloorModel" "cellValue" "[I") (by decide +kernel)
  have f_f103 := hts (.fieldLink RX10 103 "TokenFloorModel" "cellOf" "[I") (by decide +kernel)
  have f_f149 := hts (.fieldLink RX10 149 "TokenFloorModel" "isRun" "Z") (by decide +kernel)
  have f_f237 := hts (.fieldLink RX10 237 "TokenFloorModel" "rows" "I") (by decide +kernel)
  have f_f85 := hts (.fieldLink RX10 85 "TokenFloorModel" "rFrom" "[I") (by decide +kernel)
  have f_f88 := hts (.fieldLink RX10 88 "TokenFloorModel" "rSize" "[I") (by decide +kernel)
  have f_f91 := hts (.fieldLink RX10 91 "TokenFloorModel" "rAct" "[I") (by decide +kernel)
  have f_f94 := hts (.fieldLink RX10 94 "TokenFloorModel" "rColour" "[I") (by decide +kernel)
  have f_f97 := hts (.fieldLink RX10 97 "TokenFloorModel" "cellKind" "[I") (by decide +kernel)
  have lab_21 : ∀ (n : Nat), ∀ (σ : St) (x1 : Int32) (x2 : Int32) (x3 : Int32) (x4 : Int32) (H : Heap) (locs : List Loc) (ls : Array Slot), w_X10_cell_21 K n σ x1 x2 x3 x4 → va_P D vwCl ((wdM ad cI) σ) H → va_S (AW ad 40 s.heap.size) s.heap H locs → lv_has ls 6 [(0, .ref (ad 0)), (1, .int x1), (2, .int x2), (3, .int x3), (4, .int x4)] → W p l e (headSpec wsX10_cell rm_X10_cell).room s m ([.ref (ad 0), .int a1, .int a2, .int a3] : List Value).toArray below meth c H locs 0 0 (MQ below (va_Qi K (inW D (wdM ad cI) [(cI, .int)]) (AW ad 40 s.heap.size)) ([.ref (ad 0), .int a1, .int a2, .int a3] : List Value).toArray s 0 0 (AW ad 40 s.heap.size)) (F0 m 21 ls []) := by
    intro n
    induction n with
    | zero =>
      intro σ x1 x2 x3 x4 H locs ls hw
      exact hw.elim
    | succ n hL21 =>
      intro σ x1 x2 x3 x4 H locs ls hw hP hS hl
      have hw : b_X10_cell_21 (w_X10_cell_21 K n) K σ x1 x2 x3 x4 := hw
      unfold b_X10_cell_21 at hw
      generalize w_X10_cell_21 K n = L21 at hw hL21
      refine lv_iload hx hb dX10_cell_21 (lv_at hl 4 rfl) ?_
      refine lv_aload_n hx hb dX10_cell_23 rfl (lv_at hl 0 rfl) ?_
      refine gM_X10_rows F hK iw_X10 hP f_f237 dX10_cell_24 ?_
      refine W.eq (g2 := F0 m 27 ls [.int (gS σ 15), .int x4]) rfl ?_
      refine lv_icmp_ge (tgt := 117) hx hb dX10_cell_27 (by decide) (fun c_15 => ?_) (fun c_15 => ?_)
      · have hw := hw.1 c_15
        refine lv_iconst (v := (-1)) hx hb dX10_cell_117 (by decide) ?_
        exact rtI F hr hlocks hK hw hP hS dX10_cell_118
      · have hw := hw.2 c_15
        refine lv_aload_n hx hb dX10_cell_30 rfl (lv_at hl 0 rfl) ?_
        refine gM_X10_rAct F hK iw_X10 hP f_f91 dX10_cell_31 ?_
        refine lv_iload hx hb dX10_cell_34 (lv_at hl 4 rfl) ?_
        obtain ⟨i_14, hw⟩ := hw
        refine lM_X10_rAct F hK hP i_14 dX10_cell_36 ?_
        refine lv_iload_n hx hb dX10_cell_37 rfl (lv_at hl 1 rfl) ?_
        refine lv_icmp_ne (tgt := 111) hx hb dX10_cell_38 (by decide) (fun c_13 => ?_) (fun c_13 => ?_)
        · have hw := hw.1 c_13
          refine lv_iinc (v := (x4 + 1)) (lv' := [(4, .int (x4 + 1)), (0, .ref (ad 0)), (1, .int x1), (2, .int x2), (3, .int x3)]) hx hb dX10_cell_111 hl (k := 4) rfl rfl (by decide) rfl (fun ls hl => ?_)
          refine lv_goto (tgt := 21) hx hb dX10_cell_114 (by decide) ?_
          exact hL21 _ _ _ _ _ _ _ _ hw hP hS (lv_sub hl [1, 2, 3, 4, 0] rfl)
        · have hw := hw.2 c_13
          refine lv_aload_n hx hb dX10_cell_41 rfl (lv_at hl 0 rfl) ?_
          refine gM_X10_rColour F hK iw_X10 hP f_f94 dX10_cell_42 ?_
          refine lv_iload hx hb dX10_cell_45 (lv_at hl 4 rfl) ?_
          obtain ⟨i_12, hw⟩ := hw
          refine lM_X10_rColour F hK hP i_12 dX10_cell_47 ?_
          refine lv_if_eq (tgt := 54) hx hb dX10_cell_48 (by decide) (fun c_11 => ?_) (fun c_11 => ?_)
          · have hw := hw.1 c_11
            refine lv_iload_n hx hb dX10_cell_54 rfl (lv_at hl 2 rfl) ?_
            refine lv_iconst (v := 0) hx hb dX10_cell_55 (by decide) ?_
            refine lv_aload_n hx hb dX10_cell_56 rfl (lv_at hl 0 rfl) ?_
            refine gM_X10_rSize F hK iw_X10 hP f_f88 dX10_cell_57 ?_
            refine lv_iload hx hb dX10_cell_60 (lv_at hl 4 rfl) ?_
            obtain ⟨i_10, hw⟩ := hw
            refine lM_X10_rSize F hK hP i_10 dX10_cell_62 ?_
            refine lv_iconst (v := 1) hx hb dX10_cell_63 (by decide) ?_
            refine lv_isub hx hb dX10_cell_64 ?_
            refine csI (As := [.int x2, .int 0, .int ((gA σ 26 (x4).toNatClampNeg) - 1)]) (rest := []) F hK hP hS (c_X10_in l D ad cI hap H.size _ _ _ _ _ hw) (va_cwS 3 hts gX10_cell_X10_in rfl rfl rfl (by decide +kernel) ⟨Nat.le_of_ble_eq_true rfl, Nat.le_of_ble_eq_true rfl⟩) rfl hl.1 rfl (Nat.le_of_ble_eq_true rfl) dX10_cell_65 ⟨Nat.zero_le _, Nat.zero_le _⟩ (fun r_2 u_1 H locs hw hP hS => ?_)
            obtain ⟨zr_2, hw⟩ := hw
            refine lv_if_ne (tgt := 73) hx hb dX10_cell_68 (by decide) (fun c_9 => ?_) (fun c_9 => ?_)
            · have hw := hw.1 c_9
              refine lv_aload_n hx hb dX10_cell_73 rfl (lv_at hl 0 rfl) ?_
              refine gM_X10_rFrom F hK iw_X10 hP f_f85 dX10_cell_74 ?_
              refine lv_iload hx hb dX10_cell_77 (lv_at hl 4 rfl) ?_
              obtain ⟨i_8, hw⟩ := hw
              refine lM_X10_rFrom F hK hP i_8 dX10_cell_79 ?_
              refine lv_iload_n hx hb dX10_cell_80 rfl (lv_at hl 2 rfl) ?_
              refine lv_iadd hx hb dX10_cell_81 ?_
              refine lv_istore (lv' := [(5, .int ((gA u_1 25 (x4).toNatClampNeg) + x2)), (0, .ref (ad 0)), (1, .int x1), (2, .int x2), (3, .int x3), (4, .int x4)]) hx hb dX10_cell_82 hl (by decide) rfl (fun ls hl => ?_)
              refine lv_aload_n hx hb dX10_cell_84 rfl (lv_at hl 1 rfl) ?_
              refine lv_aload_n hx hb dX10_cell_85 rfl (lv_at hl 1 rfl) ?_
              refine gM_X10_cellKind F hK iw_X10 hP f_f97 dX10_cell_86 ?_
              refine lv_iload hx hb dX10_cell_89 (lv_at hl 0 rfl) ?_
              obtain ⟨i_7, hw⟩ := hw
              refine lM_X10_cellKind F hK hP i_7 dX10_cell_91 ?_
              refine lv_aload_n hx hb dX10_cell_92 rfl (lv_at hl 1 rfl) ?_
              refine gM_X10_cellValue F hK iw_X10 hP f_f100 dX10_cell_93 ?_
              refine lv_iload hx hb dX10_cell_96 (lv_at hl 0 rfl) ?_
              obtain ⟨i_6, hw⟩ := hw
              refine lM_X10_cellValue F hK hP i_6 dX10_cell_98 ?_
              refine lv_aload_n hx hb dX10_cell_99 rfl (lv_at hl 1 rfl) ?_
              refine gM_X10_cellOf F hK iw_X10 hP f_f103 dX10_cell_100 ?_
              refine lv_iload hx hb dX10_cell_103 (lv_at hl 0 rfl) ?_
              obtain ⟨i_5, hw⟩ := hw
              refine lM_X10_cellOf F hK hP i_5 dX10_cell_105 ?_
              refine lv_iload_n hx hb dX10_cell_106 rfl (lv_at hl 4 rfl) ?_
              refine cvI (As := [.int (gA u_1 29 (((gA u_1 25 (x4).toNatClampNeg) + x2)).toNatClampNeg), .int (gA u_1 30 (((gA u_1 25 (x4).toNatClampNeg) + x2)).toNatClampNeg), .int (gA u_1 31 (((gA u_1 25 (x4).toNatClampNeg) + x2)).toNatClampNeg), .int x3]) (rest := []) F hK hP hS (c_X10_told1 l D ad cI hap H.size _ _ _ _ _ _ hw) (cwV 4 hts gX10_cell_X10_told1 rfl rfl rfl (by decide +kernel) ⟨Nat.le_of_ble_eq_true rfl, Nat.le_of_ble_eq_true rfl⟩) (va_recv hK hP (ci := 7) (q0 := 0) rfl rfl) rfl hl.1 rfl (Nat.le_of_ble_eq_true rfl) dX10_cell_107 ⟨Nat.zero_le _, Nat.zero_le _⟩ (fun r_4 u_3 H locs hw hP hS => ?_)
              exact rtI F hr hlocks hK hw hP hS dX10_cell_110
            · have hw := hw.2 c_9
              refine lv_iconst (v := (-1)) hx hb dX10_cell_71 (by decide) ?_
              exact rtI F hr hlocks hK hw hP hS dX10_cell_72
          · have hw := hw.2 c_11
            refine lv_goto (tgt := 111) hx hb dX10_cell_51 (by decide) ?_
            refine lv_iinc (v := (x4 + 1)) (lv' := [(4, .int (x4 + 1)), (0, .ref (ad 0)), (1, .int x1), (2, .int x2), (3, .int x3)]) hx hb dX10_cell_111 hl (k := 4) rfl rfl (by decide) rfl (fun ls hl => ?_)
            refine lv_goto (tgt := 21) hx hb dX10_cell_114 (by decide) ?_
            exact hL21 _ _ _ _ _ _ _ _ hw hP hS (lv_sub hl [1, 2, 3, 4, 0] rfl)
  have hl := lv_entry ([.ref (ad 0), .int a1, .int a2, .int a3]) (n := 6) (Nat.le_of_ble_eq_true rfl)
  rw [lg_entry_eq]
  generalize (lg_sl ([.ref (ad 0), .int a1, .int a2, .int a3]) ++ List.replicate (6 - (lg_sl ([.ref (ad 0), .int a1, .int a2, .int a3])).length) Slot.unset).toArray = ls at hl ⊢
  have hl : lv_has ls 6 [(0, .ref (ad 0)), (1, .int a1), (2, .int a2), (3, .int a3)] := hl
  have key : ∀ (H : Heap), va_P D vwCl ((wdM ad cI) σ) H → va_S (AW ad 40 s.heap.size) s.heap H [] → W p l e (headSpec wsX10_cell rm_X10_cell).room s m ([.ref (ad 0), .int a1, .int a2, .int a3] : List Value).toArray below meth c H [] 0 0 (MQ below (va_Qi K (inW D (wdM ad cI) [(cI, .int)]) (AW ad 40 s.heap.size)) ([.ref (ad 0), .int a1, .int a2, .int a3] : List Value).toArray s 0 0 (AW ad 40 s.heap.size)) (F0 m 0 ls []) := by
    intro H hP hS
    unfold w_X10_cell at hw
    refine lv_aload_n hx hb dX10_cell_0 rfl (lv_at hl 0 rfl) ?_
    refine gM_X10_isRun F hK iw_X10 hP f_f149 dX10_cell_1 ?_
    refine W.eq (g2 := F0 m 4 ls [.int (gS σ 3)]) rfl ?_
    refine lv_if_eq (tgt := 16) hx hb dX10_cell_4 (by decide) (fun c_20 => ?_) (fun c_20 => ?_)
    · have hw := hw.1 c_20
      refine lv_iconst (v := (-1)) hx hb dX10_cell_16 (by decide) ?_
      exact rtI F hr hlocks hK hw hP hS dX10_cell_17
    · have hw := hw.2 c_20
      refine lv_iload_n hx hb dX10_cell_7 rfl (lv_at hl 3 rfl) ?_
      refine lv_iconst (v := 0) hx hb dX10_cell_8 (by decide) ?_
      refine lv_iconst (v := 2) hx hb dX10_cell_9 (by decide) ?_
      refine csI (As := [.int a3, .int 0, .int 2]) (rest := []) F hK hP hS (c_X10_in l D ad cI hap H.size _ _ _ _ _ hw) (va_cwS 3 hts gX10_cell_X10_in rfl rfl rfl (by decide +kernel) ⟨Nat.le_of_ble_eq_true rfl, Nat.le_of_ble_eq_true rfl⟩) rfl hl.1 rfl (Nat.le_of_ble_eq_true rfl) dX10_cell_10 ⟨Nat.zero_le _, Nat.zero_le _⟩ (fun r_17 u_16 H locs hw hP hS => ?_)
      obtain ⟨zr_17, hw⟩ := hw
      refine lv_if_ne (tgt := 18) hx hb dX10_cell_13 (by decide) (fun c_19 => ?_) (fun c_19 => ?_)
      · have hw := hw.1 c_19
        refine lv_iconst (v := 0) hx hb dX10_cell_18 (by decide) ?_
        refine lv_istore (lv' := [(4, .int 0), (0, .ref (ad 0)), (1, .int a1), (2, .int a2), (3, .int a3)]) hx hb dX10_cell_19 hl (by decide) rfl (fun ls hl => ?_)
        obtain ⟨n_18, hw⟩ := hw
        exact lab_21 n_18 _ _ _ _ _ _ _ _ hw hP hS (lv_sub hl [1, 2, 3, 4, 0] rfl)
      · have hw := hw.2 c_19
        refine lv_iconst (v := (-1)) hx hb dX10_cell_16 (by decide) ?_
        exact rtI F hr hlocks hK hw hP hS dX10_cell_17
  exact key s.heap hP hS

abbrev rm_X10_told : Room := { frames := 2, cells := 0, slots := 0, locals := 43 }
set_option maxHeartbeats 4000000 in
set_option maxRecDepth 100000 in
theorem c_X10_told (l : Launch) (D : va_G) (ad : Nat → Nat) (cI : ClassId) (hap : apart ad 40) (sz : Nat) (σ : St) (a1 : Int32) (a2 : Int32) (K : Int32 → St → Prop) (hw : w_X10_told σ a1 a2 K) : Met l yX10_told wsX10_told rm_X10_told (va_Pc [.ref (ad 0), .int a1, .int a2] (fun U => U.heap.size = sz ∧ inW D (wdM ad cI) [(cI, .int)] σ U)) (va_Qi K (inW D (wdM ad cI) [(cI, .int)]) (AW ad 40 sz)) 0 0 (AW ad 40 sz) := by
  refine Met.ofW (cc := cX10_told) (maxL := 5) (ret := (some .int)) (by decide) rfl ?_
  intro p e s m args below meth c s₁ B hml hv
  obtain ⟨rfl, hsz, ⟨hP, hK⟩⟩ := hv
  have F : CallFix p m c cX10_told 5 s ([.ref (ad 0), .int a1, .int a2] : List Value).toArray wsX10_told RX10 := ⟨B.exec, B.bytes, hml, findClass_of_methodNamed B.named, atoms_spec (ws := wsX10_told) B.pre⟩
  have hx := F.1
  have hb := F.2.1
  have hown := F.2.2.2.1
  have hts := F.2.2.2.2
  have hr := B.returns
  have hlocks := B.notSynchronized
  subst hsz
  have hDs : ∀ σ, va_D (AW ad 40 s.heap.size) ((wdM ad cI) σ) := fun σ => wdM_D hap σ
  have hS : va_S (AW ad 40 s.heap.size) s.heap s.heap [] := va_S.rf
  have iw_X10 : ∀ w ∈ u_ws RX10 TX10 57, w ∈ wsX10_told := by decide +kernel
  have f_f13 := hts (.fieldLink RX10 13 "TokenFloorModel" "own" "[I") (by decide +kernel)
  have f_f143 := hts (.fieldLink RX10 143 "TokenFloorModel" "ways" "I") (by decide +kernel)
  have f_f146 := hts (.fieldLink RX10 146 "TokenFloorModel" "tokens" "I") (by decide +kernel)
  have f_f16 := hts (.fieldLink RX10 16 "TokenFloorModel" "ports" "[I") (by decide +kernel)
  have f_f19 := hts (.fieldLink RX10 19 "TokenFloorModel" "wayFrom" "[I") (by decide +kernel)
  have f_f22 := hts (.fieldLink RX10 22 "TokenFloorModel" "waySide" "[I") (by decide +kernel)
  have f_f31 := hts (.fieldLink RX10 31 "TokenFloorModel" "tokenAct" "[I") (by decide +kernel)
  have f_f7 := hts (.fieldLink RX10 7 "TokenFloorModel" "kind" "[I") (by decide +kernel)
  have lab_128 : ∀ (n : Nat), ∀ (σ : St) (x1 : Int32) (x3 : Int32) (x4 : Int32) (H : Heap) (locs : List Loc) (ls : Array Slot), w_X10_told_128 K n σ x1 x3 x4 → va_P D vwCl ((wdM ad cI) σ) H → va_S (AW ad 40 s.heap.size) s.heap H locs → lv_has ls 5 [(0, .ref (ad 0)), (1, .int x1), (3, .int x3), (4, .int x4)] → W p l e (headSpec wsX10_told rm_X10_told).room s m ([.ref (ad 0), .int a1, .int a2] : List Value).toArray below meth c H locs 0 0 (MQ below (va_Qi K (inW D (wdM ad cI) [(cI, .int)]) (AW ad 40 s.heap.size)) ([.ref (ad 0), .int a1, .int a2] : List Value).toArray s 0 0 (AW ad 40 s.heap.size)) (F0 m 128 ls []) := by
    intro n
    induction n with
    | zero =>
      intro σ x1 x3 x4 H locs ls hw
      exact hw.elim
    | succ n hL128 =>
      intro σ x1 x3 x4 H locs ls hw hP hS hl
      have hw : b_X10_told_128 (w_X10_told_128 K n) K σ x1 x3 x4 := hw
      unfold b_X10_told_128 at hw
      generalize w_X10_told_128 K n = L128 at hw hL128
      refine lv_iload hx hb dX10_told_128 (lv_at hl 3 rfl) ?_
      refine lv_aload_n hx hb dX10_told_130 rfl (lv_at hl 0 rfl) ?_
      refine gM_X10_tokens F hK iw_X10 hP f_f146 dX10_told_131 ?_
      refine W.eq (g2 := F0 m 134 ls [.int (gS σ 2), .int x4]) rfl ?_
      refine lv_icmp_ge (tgt := 162) hx hb dX10_told_134 (by decide) (fun c_3 => ?_) (fun c_3 => ?_)
      · have hw := hw.1 c_3
        refine lv_iload_n hx hb dX10_told_162 rfl (lv_at hl 2 rfl) ?_
        exact rtI F hr hlocks hK hw hP hS dX10_told_163
      · have hw := hw.2 c_3
        refine lv_iload_n hx hb dX10_told_137 rfl (lv_at hl 2 rfl) ?_
        refine lv_aload_n hx hb dX10_told_138 rfl (lv_at hl 0 rfl) ?_
        refine gM_X10_tokenAct F hK iw_X10 hP f_f31 dX10_told_139 ?_
        refine lv_iload hx hb dX10_told_142 (lv_at hl 3 rfl) ?_
        obtain ⟨i_2, hw⟩ := hw
        refine lM_X10_tokenAct F hK hP i_2 dX10_told_144 ?_
        refine lv_iload_n hx hb dX10_told_145 rfl (lv_at hl 1 rfl) ?_
        refine lv_icmp_ne (tgt := 153) hx hb dX10_told_146 (by decide) (fun c_1 => ?_) (fun c_1 => ?_)
        · have hw := hw.1 c_1
          refine lv_iconst (v := 0) hx hb dX10_told_153 (by decide) ?_
          refine lv_iadd hx hb dX10_told_154 ?_
          refine lv_istore_n (lv' := [(3, .int (x3 + 0)), (0, .ref (ad 0)), (1, .int x1), (4, .int x4)]) hx hb dX10_told_155 rfl hl (by decide) rfl (fun ls hl => ?_)
          refine lv_iinc (v := (x4 + 1)) (lv' := [(4, .int (x4 + 1)), (3, .int (x3 + 0)), (0, .ref (ad 0)), (1, .int x1)]) hx hb dX10_told_156 hl (k := 3) rfl rfl (by decide) rfl (fun ls hl => ?_)
          refine lv_goto (tgt := 128) hx hb dX10_told_159 (by decide) ?_
          exact hL128 _ _ _ _ _ _ _ hw hP hS (lv_sub hl [2, 3, 1, 0] rfl)
        · have hw := hw.2 c_1
          refine lv_iconst (v := 1) hx hb dX10_told_149 (by decide) ?_
          refine lv_goto (tgt := 154) hx hb dX10_told_150 (by decide) ?_
          refine lv_iadd hx hb dX10_told_154 ?_
          refine lv_istore_n (lv' := [(3, .int (x3 + 1)), (0, .ref (ad 0)), (1, .int x1), (4, .int x4)]) hx hb dX10_told_155 rfl hl (by decide) rfl (fun ls hl => ?_)
          refine lv_iinc (v := (x4 + 1)) (lv' := [(4, .int (x4 + 1)), (3, .int (x3 + 1)), (0, .ref (ad 0)), (1, .int x1)]) hx hb dX10_told_156 hl (k := 3) rfl rfl (by decide) rfl (fun ls hl => ?_)
          refine lv_goto (tgt := 128) hx hb dX10_told_159 (by decide) ?_
          exact hL128 _ _ _ _ _ _ _ hw hP hS (lv_sub hl [2, 3, 1, 0] rfl)
  have lab_76 : ∀ (n : Nat), ∀ (σ : St) (x1 : Int32) (x2 : Int32) (x3 : Int32) (x4 : Int32) (H : Heap) (locs : List Loc) (ls : Array Slot), w_X10_told_76 K n σ x1 x2 x3 x4 → va_P D vwCl ((wdM ad cI) σ) H → va_S (AW ad 40 s.heap.size) s.heap H locs → lv_has ls 5 [(0, .ref (ad 0)), (1, .int x1), (2, .int x2), (3, .int x3), (4, .int x4)] → W p l e (headSpec wsX10_told rm_X10_told).room s m ([.ref (ad 0), .int a1, .int a2] : List Value).toArray below meth c H locs 0 0 (MQ below (va_Qi K (inW D (wdM ad cI) [(cI, .int)]) (AW ad 40 s.heap.size)) ([.ref (ad 0), .int a1, .int a2] : List Value).toArray s 0 0 (AW ad 40 s.heap.size)) (F0 m 76 ls []) := by
    intro n
    induction n with
    | zero =>
      intro σ x1 x2 x3 x4 H locs ls hw
      exact hw.elim
    | succ n hL76 =>
      intro σ x1 x2 x3 x4 H locs ls hw hP hS hl
      have hw : b_X10_told_76 (w_X10_told_76 K n) K σ x1 x2 x3 x4 := hw
      unfold b_X10_told_76 at hw
      generalize w_X10_told_76 K n = L76 at hw hL76
      refine lv_iload hx hb dX10_told_76 (lv_at hl 4 rfl) ?_
      refine lv_aload_n hx hb dX10_told_78 rfl (lv_at hl 0 rfl) ?_
      refine gM_X10_ways F hK iw_X10 hP f_f143 dX10_told_79 ?_
      refine W.eq (g2 := F0 m 82 ls [.int (gS σ 1), .int x4]) rfl ?_
      refine lv_icmp_ge (tgt := 123) hx hb dX10_told_82 (by decide) (fun c_8 => ?_) (fun c_8 => ?_)
      · have hw := hw.1 c_8
        refine lv_iload_n hx hb dX10_told_123 rfl (lv_at hl 3 rfl) ?_
        exact rtI F hr hlocks hK hw hP hS dX10_told_124
      · have hw := hw.2 c_8
        refine lv_iload_n hx hb dX10_told_85 rfl (lv_at hl 3 rfl) ?_
        refine lv_aload_n hx hb dX10_told_86 rfl (lv_at hl 0 rfl) ?_
        refine gM_X10_wayFrom F hK iw_X10 hP f_f19 dX10_told_87 ?_
        refine lv_iload hx hb dX10_told_90 (lv_at hl 4 rfl) ?_
        obtain ⟨i_7, hw⟩ := hw
        refine lM_X10_wayFrom F hK hP i_7 dX10_told_92 ?_
        refine lv_iload_n hx hb dX10_told_93 rfl (lv_at hl 1 rfl) ?_
        refine lv_icmp_ne (tgt := 114) hx hb dX10_told_94 (by decide) (fun c_6 => ?_) (fun c_6 => ?_)
        · have hw := hw.1 c_6
          refine lv_iconst (v := 0) hx hb dX10_told_114 (by decide) ?_
          refine lv_iadd hx hb dX10_told_115 ?_
          refine lv_istore_n (lv' := [(3, .int (x3 + 0)), (0, .ref (ad 0)), (1, .int x1), (2, .int x2), (4, .int x4)]) hx hb dX10_told_116 rfl hl (by decide) rfl (fun ls hl => ?_)
          refine lv_iinc (v := (x4 + 1)) (lv' := [(4, .int (x4 + 1)), (3, .int (x3 + 0)), (0, .ref (ad 0)), (1, .int x1), (2, .int x2)]) hx hb dX10_told_117 hl (k := 4) rfl rfl (by decide) rfl (fun ls hl => ?_)
          refine lv_goto (tgt := 76) hx hb dX10_told_120 (by decide) ?_
          exact hL76 _ _ _ _ _ _ _ _ hw hP hS (lv_sub hl [2, 3, 4, 1, 0] rfl)
        · have hw := hw.2 c_6
          refine lv_aload_n hx hb dX10_told_97 rfl (lv_at hl 0 rfl) ?_
          refine gM_X10_waySide F hK iw_X10 hP f_f22 dX10_told_98 ?_
          refine lv_iload hx hb dX10_told_101 (lv_at hl 4 rfl) ?_
          obtain ⟨i_5, hw⟩ := hw
          refine lM_X10_waySide F hK hP i_5 dX10_told_103 ?_
          refine lv_iload_n hx hb dX10_told_104 rfl (lv_at hl 2 rfl) ?_
          refine lv_iconst (v := 3) hx hb dX10_told_105 (by decide) ?_
          refine lv_isub hx hb dX10_told_106 ?_
          refine lv_icmp_ne (tgt := 114) hx hb dX10_told_107 (by decide) (fun c_4 => ?_) (fun c_4 => ?_)
          · have hw := hw.1 c_4
            refine lv_iconst (v := 0) hx hb dX10_told_114 (by decide) ?_
            refine lv_iadd hx hb dX10_told_115 ?_
            refine lv_istore_n (lv' := [(3, .int (x3 + 0)), (0, .ref (ad 0)), (1, .int x1), (2, .int x2), (4, .int x4)]) hx hb dX10_told_116 rfl hl (by decide) rfl (fun ls hl => ?_)
            refine lv_iinc (v := (x4 + 1)) (lv' := [(4, .int (x4 + 1)), (3, .int (x3 + 0)), (0, .ref (ad 0)), (1, .int x1), (2, .int x2)]) hx hb dX10_told_117 hl (k := 4) rfl rfl (by decide) rfl (fun ls hl => ?_)
            refine lv_goto (tgt := 76) hx hb dX10_told_120 (by decide) ?_
            exact hL76 _ _ _ _ _ _ _ _ hw hP hS (lv_sub hl [2, 3, 4, 1, 0] rfl)
          · have hw := hw.2 c_4
            refine lv_iconst (v := 1) hx hb dX10_told_110 (by decide) ?_
            refine lv_goto (tgt := 115) hx hb dX10_told_111 (by decide) ?_
            refine lv_iadd hx hb dX10_told_115 ?_
            refine lv_istore_n (lv' := [(3, .int (x3 + 1)), (0, .ref (ad 0)), (1, .int x1), (2, .int x2), (4, .int x4)]) hx hb dX10_told_116 rfl hl (by decide) rfl (fun ls hl => ?_)
            refine lv_iinc (v := (x4 + 1)) (lv' := [(4, .int (x4 + 1)), (3, .int (x3 + 1)), (0, .ref (ad 0)), (1, .int x1), (2, .int x2)]) hx hb dX10_told_117 hl (k := 4) rfl rfl (by decide) rfl (fun ls hl => ?_)
            refine lv_goto (tgt := 76) hx hb dX10_told_120 (by decide) ?_
            exact hL76 _ _ _ _ _ _ _ _ hw hP hS (lv_sub hl [2, 3, 4, 1, 0] rfl)
  have hl := lv_entry ([.ref (ad 0), .int a1, .int a2]) (n := 5) (Nat.le_of_ble_eq_true rfl)
  rw [lg_entry_eq]
  generalize (lg_sl ([.ref (ad 0), .int a1, .int a2]) ++ List.replicate (5 - (lg_sl ([.ref (ad 0), .int a1, .int a2])).length) Slot.unset).toArray = ls at hl ⊢
  have hl : lv_has ls 5 [(0, .ref (ad 0)), (1, .int a1), (2, .int a2)] := hl
  have key : ∀ (H : Heap), va_P D vwCl ((wdM ad cI) σ) H → va_S (AW ad 40 s.heap.size) s.heap H [] → W p l e (headSpec wsX10_told rm_X10_told).room s m ([.ref (ad 0), .int a1, .int a2] : List Value).toArray below meth c H [] 0 0 (MQ below (va_Qi K (inW D (wdM ad cI) [(cI, .int)]) (AW ad 40 s.heap.size)) ([.ref (ad 0), .int a1, .int a2] : List Value).toArray s 0 0 (AW ad 40 s.heap.size)) (F0 m 0 ls []) := by
    intro H hP hS
    unfold w_X10_told at hw
    refine lv_aload_n hx hb dX10_told_0 rfl (lv_at hl 0 rfl) ?_
    refine lv_iload_n hx hb dX10_told_1 rfl (lv_at hl 1 rfl) ?_
    refine cvI (As := [.int a1]) (rest := []) F hK hP hS (c_X10_isAct l D ad cI hap H.size _ _ _ hw) (cwV 1 hts gX10_told_X10_isAct rfl rfl rfl (by decide +kernel) ⟨Nat.le_of_ble_eq_true rfl, Nat.le_of_ble_eq_true rfl⟩) (va_recv hK hP (ci := 7) (q0 := 0) rfl rfl) rfl hl.1 rfl (Nat.le_of_ble_eq_true rfl) dX10_told_2 ⟨Nat.zero_le _, Nat.zero_le _⟩ (fun r_10 u_9 H locs hw hP hS => ?_)
    obtain ⟨zr_10, hw⟩ := hw
    refine lv_if_ne (tgt := 10) hx hb dX10_told_5 (by decide) (fun c_33 => ?_) (fun c_33 => ?_)
    · have hw := hw.1 c_33
      refine lv_iconst (v := 0) hx hb dX10_told_10 (by decide) ?_
      refine lv_istore_n (lv' := [(3, .int 0), (0, .ref (ad 0)), (1, .int a1), (2, .int a2)]) hx hb dX10_told_11 rfl hl (by decide) rfl (fun ls hl => ?_)
      refine lv_iload_n hx hb dX10_told_12 rfl (lv_at hl 3 rfl) ?_
      by_cases k_11 : a2 = 0
      · have hw := hw.1 k_11
        refine sw_in 0 (tgt := 52) F dX10_told_13 k_11 (by decide) (by decide) rfl (by decide) ?_
        refine lv_aload_n hx hb dX10_told_52 rfl (lv_at hl 1 rfl) ?_
        refine gM_X10_kind F hK iw_X10 hP f_f7 dX10_told_53 ?_
        refine lv_iload_n hx hb dX10_told_56 rfl (lv_at hl 2 rfl) ?_
        obtain ⟨i_12, hw⟩ := hw
        refine lM_X10_kind F hK hP i_12 dX10_told_57 ?_
        exact rtI F hr hlocks hK hw hP hS dX10_told_58
      · have hw := hw.2 k_11
        by_cases k_13 : a2 = 1
        · have hw := hw.1 k_13
          refine sw_in 1 (tgt := 59) F dX10_told_13 k_13 (by decide) (by decide) rfl (by decide) ?_
          refine lv_aload_n hx hb dX10_told_59 rfl (lv_at hl 1 rfl) ?_
          refine gM_X10_own F hK iw_X10 hP f_f13 dX10_told_60 ?_
          refine lv_iload_n hx hb dX10_told_63 rfl (lv_at hl 2 rfl) ?_
          obtain ⟨i_14, hw⟩ := hw
          refine lM_X10_own F hK hP i_14 dX10_told_64 ?_
          exact rtI F hr hlocks hK hw hP hS dX10_told_65
        · have hw := hw.2 k_13
          by_cases k_15 : a2 = 2
          · have hw := hw.1 k_15
            refine sw_in 2 (tgt := 66) F dX10_told_13 k_15 (by decide) (by decide) rfl (by decide) ?_
            refine lv_aload_n hx hb dX10_told_66 rfl (lv_at hl 1 rfl) ?_
            refine gM_X10_ports F hK iw_X10 hP f_f16 dX10_told_67 ?_
            refine lv_iload_n hx hb dX10_told_70 rfl (lv_at hl 2 rfl) ?_
            obtain ⟨i_16, hw⟩ := hw
            refine lM_X10_ports F hK hP i_16 dX10_told_71 ?_
            exact rtI F hr hlocks hK hw hP hS dX10_told_72
          · have hw := hw.2 k_15
            by_cases k_17 : a2 = 3 ∨ a2 = 4
            · have hw := hw.1 k_17
              have kd : W p l e (headSpec wsX10_told rm_X10_told).room s m ([.ref (ad 0), .int a1, .int a2] : List Value).toArray below meth c H locs 0 0 (MQ below (va_Qi K (inW D (wdM ad cI) [(cI, .int)]) (AW ad 40 s.heap.size)) ([.ref (ad 0), .int a1, .int a2] : List Value).toArray s 0 0 (AW ad 40 s.heap.size)) (F0 m 73 ls []) := by
                refine lv_iconst (v := 0) hx hb dX10_told_73 (by decide) ?_
                refine lv_istore (lv' := [(4, .int 0), (3, .int 0), (0, .ref (ad 0)), (1, .int a1), (2, .int a2)]) hx hb dX10_told_74 hl (by decide) rfl (fun ls hl => ?_)
                obtain ⟨n_18, hw⟩ := hw
                exact lab_76 n_18 _ _ _ _ _ _ _ _ hw hP hS (lv_sub hl [2, 3, 4, 1, 0] rfl)
              rcases k_17 with k_29 | k_29
              · exact sw_in 3 (tgt := 73) F dX10_told_13 k_29 (by decide) (by decide) rfl (by decide) kd
              · exact sw_in 4 (tgt := 73) F dX10_told_13 k_29 (by decide) (by decide) rfl (by decide) kd
            · have hw := hw.2 k_17
              by_cases k_19 : a2 = 5
              · have hw := hw.1 k_19
                refine sw_in 5 (tgt := 125) F dX10_told_13 k_19 (by decide) (by decide) rfl (by decide) ?_
                refine lv_iconst (v := 0) hx hb dX10_told_125 (by decide) ?_
                refine lv_istore (lv' := [(4, .int 0), (3, .int 0), (0, .ref (ad 0)), (1, .int a1), (2, .int a2)]) hx hb dX10_told_126 hl (by decide) rfl (fun ls hl => ?_)
                obtain ⟨n_20, hw⟩ := hw
                exact lab_128 n_20 _ _ _ _ _ _ _ hw hP hS (lv_sub hl [2, 3, 1, 0] rfl)
              · have hw := hw.2 k_19
                have z_21 : ¬ a2.toInt = 0 := lv_neT (fun z => k_11 z) (k := 0) (by decide)
                have z_22 : ¬ a2.toInt = 1 := lv_neT (fun z => k_13 z) (k := 1) (by decide)
                have z_23 : ¬ a2.toInt = 2 := lv_neT (fun z => k_15 z) (k := 2) (by decide)
                have z_24 : ¬ a2.toInt = 3 := lv_neT (fun z => k_17 (Or.inl z)) (k := 3) (by decide)
                have z_25 : ¬ a2.toInt = 4 := lv_neT (fun z => k_17 (Or.inr z)) (k := 4) (by decide)
                have z_26 : ¬ a2.toInt = 5 := lv_neT (fun z => k_19 z) (k := 5) (by decide)
                have kd : W p l e (headSpec wsX10_told rm_X10_told).room s m ([.ref (ad 0), .int a1, .int a2] : List Value).toArray below meth c H locs 0 0 (MQ below (va_Qi K (inW D (wdM ad cI) [(cI, .int)]) (AW ad 40 s.heap.size)) ([.ref (ad 0), .int a1, .int a2] : List Value).toArray s 0 0 (AW ad 40 s.heap.size)) (F0 m 164 ls []) := by
                  refine lv_iconst (v := (-1)) hx hb dX10_told_164 (by decide) ?_
                  exact rtI F hr hlocks hK hw hP hS dX10_told_165
                rcases (show (a2.toInt < 0 ∨ 5 < a2.toInt) by omega) with o_27
                · exact lv_tableOut hx hb dX10_told_13 o_27 (by decide) kd
    · have hw := hw.2 c_33
      refine lv_iconst (v := (-1)) hx hb dX10_told_8 (by decide) ?_
      exact rtI F hr hlocks hK hw hP hS dX10_told_9
  exact key s.heap hP hS

abbrev rm_X10_notes_was : Room := { frames := 2, cells := 0, slots := 0, locals := 46 }
set_option maxHeartbeats 4000000 in
set_option maxRecDepth 100000 in
theorem c_X10_notes_was (l : Launch) (D : va_G) (ad : Nat → Nat) (cI : ClassId) (hap : apart ad 40) (sz : Nat) (σ : St) (K : St → Prop) (hw : w_X10_notes_was σ K) : Met l yX10_notes wsX10_notes rm_X10_notes_was (va_Pc [.ref (ad 0), .ref (ad 38)] (fun U => U.heap.size = sz ∧ inW D (wdM ad cI) [(cI, .int)] σ U)) (va_Qv K (inW D (wdM ad cI) [(cI, .int)]) (AW ad 40 sz)) 0 0 (AW ad 40 sz) := by
  refine Met.ofW (cc := cX10_notes) (maxL := 4) (ret := none) (by decide) rfl ?_
  intro p e s m args below meth c s₁ B hml hv
  obtain ⟨rfl, hsz, ⟨hP, hK⟩⟩ := hv
  have F : CallFix p m c cX10_notes 4 s ([.ref (ad 0), .ref (ad 38)] : List Value).toArray wsX10_notes RX10 := ⟨B.exec, B.bytes, hml, findClass_of_methodNamed B.named, atoms_spec (ws := wsX10_notes) B.pre⟩
  have hx := F.1
  have hb := F.2.1
  have hown := F.2.2.2.1
  have hts := F.2.2.2.2
  have hr := B.returns
  have hlocks := B.notSynchronized
  subst hsz
  have hDs : ∀ σ, va_D (AW ad 40 s.heap.size) ((wdM ad cI) σ) := fun σ => wdM_D hap σ
  have hS : va_S (AW ad 40 s.heap.size) s.heap s.heap [] := va_S.rf
  have iw_X10 : ∀ w ∈ u_ws RX10 TX10 57, w ∈ wsX10_notes := by decide +kernel
  have f_f153 := hts (.fieldLink RX10 153 "TokenFloorModel" "how" "I") (by decide +kernel)
  have f_f218 := hts (.fieldLink RX10 218 "TokenFloorModel" "lost" "I") (by decide +kernel)
  have f_f231 := hts (.fieldLink RX10 231 "TokenFloorModel" "strays" "I") (by decide +kernel)
  have f_f245 := hts (.fieldLink RX10 245 "TokenFloorModel" "steps" "I") (by decide +kernel)
  have f_f79 := hts (.fieldLink RX10 79 "TokenFloorModel" "fired" "[I") (by decide +kernel)
  have lab_87 : ∀ (n : Nat), ∀ (σ : St) (x2 : Int32) (H : Heap) (locs : List Loc) (ls : Array Slot), w_X10_notes_was_87 K n σ x2 → va_P D vwCl ((wdM ad cI) σ) H → va_S (AW ad 40 s.heap.size) s.heap H locs → lv_has ls 4 [(0, .ref (ad 0)), (1, .ref (ad 38)), (2, .int x2)] → W p l e (headSpec wsX10_notes rm_X10_notes_was).room s m ([.ref (ad 0), .ref (ad 38)] : List Value).toArray below meth c H locs 0 0 (MQ below (va_Qv K (inW D (wdM ad cI) [(cI, .int)]) (AW ad 40 s.heap.size)) ([.ref (ad 0), .ref (ad 38)] : List Value).toArray s 0 0 (AW ad 40 s.heap.size)) (F0 m 87 ls []) := by
    intro n
    induction n with
    | zero =>
      intro σ x2 H locs ls hw
      exact hw.elim
    | succ n hL87 =>
      intro σ x2 H locs ls hw hP hS hl
      have hw : b_X10_notes_was_87 (w_X10_notes_was_87 K n) K σ x2 := hw
      unfold b_X10_notes_was_87 at hw
      generalize w_X10_notes_was_87 K n = L87 at hw hL87
      refine lv_iload_n hx hb dX10_notes_87 rfl (lv_at hl 2 rfl) ?_
      refine lv_bipush (v := 80) hx hb dX10_notes_88 (by decide) ?_
      refine lv_icmp_ge (tgt := 111) hx hb dX10_notes_90 (by decide) (fun c_3 => ?_) (fun c_3 => ?_)
      · have hw := hw.1 c_3
        exact rtV F hr hlocks hK hw hP hS dX10_notes_111
      · have hw := hw.2 c_3
        refine lv_aload_n hx hb dX10_notes_93 rfl (lv_at hl 1 rfl) ?_
        refine lv_bipush (v := 36) hx hb dX10_notes_94 (by decide) ?_
        refine lv_iload_n hx hb dX10_notes_96 rfl (lv_at hl 2 rfl) ?_
        refine lv_iadd hx hb dX10_notes_97 ?_
        refine lv_aload_n hx hb dX10_notes_98 rfl (lv_at hl 0 rfl) ?_
        refine gM_X10_fired F hK iw_X10 hP f_f79 dX10_notes_99 ?_
        refine lv_iload_n hx hb dX10_notes_102 rfl (lv_at hl 2 rfl) ?_
        obtain ⟨i_2, hw⟩ := hw
        refine lM_X10_fired F hK hP i_2 dX10_notes_103 ?_
        obtain ⟨i_1, hw⟩ := hw
        refine sM_X10_was F hK hP hDs hS i_1 dX10_notes_104 (fun H locs hP hS => ?_)
        refine lv_iinc (v := (x2 + 1)) (lv' := [(2, .int (x2 + 1)), (0, .ref (ad 0)), (1, .ref (ad 38))]) hx hb dX10_notes_105 hl (k := 2) rfl rfl (by decide) rfl (fun ls hl => ?_)
        refine lv_goto (tgt := 87) hx hb dX10_notes_108 (by decide) ?_
        exact hL87 _ _ _ _ _ hw hP hS (lv_sub hl [1, 2, 0] rfl)
  have lab_52 : ∀ (L44 : St → Int32 → Prop) (hL44 : ∀ (σ : St) (x2 : Int32) (H : Heap) (locs : List Loc) (ls : Array Slot), L44 σ x2 → va_P D vwCl ((wdM ad cI) σ) H → va_S (AW ad 40 s.heap.size) s.heap H locs → lv_has ls 4 [(0, .ref (ad 0)), (1, .ref (ad 38)), (2, .int x2)] → W p l e (headSpec wsX10_notes rm_X10_notes_was).room s m ([.ref (ad 0), .ref (ad 38)] : List Value).toArray below meth c H locs 0 0 (MQ below (va_Qv K (inW D (wdM ad cI) [(cI, .int)]) (AW ad 40 s.heap.size)) ([.ref (ad 0), .ref (ad 38)] : List Value).toArray s 0 0 (AW ad 40 s.heap.size)) (F0 m 44 ls [])) (n : Nat), ∀ (σ : St) (x2 : Int32) (x3 : Int32) (H : Heap) (locs : List Loc) (ls : Array Slot), w_X10_notes_was_52 L44 K n σ x2 x3 → va_P D vwCl ((wdM ad cI) σ) H → va_S (AW ad 40 s.heap.size) s.heap H locs → lv_has ls 4 [(0, .ref (ad 0)), (1, .ref (ad 38)), (2, .int x2), (3, .int x3)] → W p l e (headSpec wsX10_notes rm_X10_notes_was).room s m ([.ref (ad 0), .ref (ad 38)] : List Value).toArray below meth c H locs 0 0 (MQ below (va_Qv K (inW D (wdM ad cI) [(cI, .int)]) (AW ad 40 s.heap.size)) ([.ref (ad 0), .ref (ad 38)] : List Value).toArray s 0 0 (AW ad 40 s.heap.size)) (F0 m 52 ls []) := by
    intro L44 hL44
    intro n
    induction n with
    | zero =>
      intro σ x2 x3 H locs ls hw
      exact hw.elim
    | succ n hL52 =>
      intro σ x2 x3 H locs ls hw hP hS hl
      have hw : b_X10_notes_was_52 L44 (w_X10_notes_was_52 L44 K n) K σ x2 x3 := hw
      unfold b_X10_notes_was_52 at hw
      generalize w_X10_notes_was_52 L44 K n = L52 at hw hL52
      refine lv_iload_n hx hb dX10_notes_52 rfl (lv_at hl 3 rfl) ?_
      refine lv_iconst (v := 3) hx hb dX10_notes_53 (by decide) ?_
      refine lv_icmp_ge (tgt := 79) hx hb dX10_notes_54 (by decide) (fun c_7 => ?_) (fun c_7 => ?_)
      · have hw := hw.1 c_7
        refine lv_iinc (v := (x2 + 1)) (lv' := [(2, .int (x2 + 1)), (0, .ref (ad 0)), (1, .ref (ad 38)), (3, .int x3)]) hx hb dX10_notes_79 hl (k := 2) rfl rfl (by decide) rfl (fun ls hl => ?_)
        refine lv_goto (tgt := 44) hx hb dX10_notes_82 (by decide) ?_
        exact hL44 _ _ _ _ _ hw hP hS (lv_sub hl [1, 2, 0] rfl)
      · have hw := hw.2 c_7
        refine lv_aload_n hx hb dX10_notes_57 rfl (lv_at hl 1 rfl) ?_
        refine lv_bipush (v := 6) hx hb dX10_notes_58 (by decide) ?_
        refine lv_iconst (v := 3) hx hb dX10_notes_60 (by decide) ?_
        refine lv_iload_n hx hb dX10_notes_61 rfl (lv_at hl 2 rfl) ?_
        refine lv_imul hx hb dX10_notes_62 ?_
        refine lv_iadd hx hb dX10_notes_63 ?_
        refine lv_iload_n hx hb dX10_notes_64 rfl (lv_at hl 3 rfl) ?_
        refine lv_iadd hx hb dX10_notes_65 ?_
        refine lv_aload_n hx hb dX10_notes_66 rfl (lv_at hl 0 rfl) ?_
        refine lv_iload_n hx hb dX10_notes_67 rfl (lv_at hl 2 rfl) ?_
        refine lv_iload_n hx hb dX10_notes_68 rfl (lv_at hl 3 rfl) ?_
        refine cvI (As := [.int x2, .int x3]) (rest := [.int ((6 + (3 * x2)) + x3), .ref (ad 38)]) F hK hP hS (c_X10_end l D ad cI hap H.size _ _ _ _ hw) (cwV 2 hts gX10_notes_X10_end rfl rfl rfl (by decide +kernel) ⟨Nat.le_of_ble_eq_true rfl, Nat.le_of_ble_eq_true rfl⟩) (va_recv hK hP (ci := 7) (q0 := 0) rfl rfl) rfl hl.1 rfl (Nat.le_of_ble_eq_true rfl) dX10_notes_69 ⟨Nat.zero_le _, Nat.zero_le _⟩ (fun r_5 u_4 H locs hw hP hS => ?_)
        obtain ⟨i_6, hw⟩ := hw
        refine sM_X10_was F hK hP hDs hS i_6 dX10_notes_72 (fun H locs hP hS => ?_)
        refine lv_iinc (v := (x3 + 1)) (lv' := [(3, .int (x3 + 1)), (0, .ref (ad 0)), (1, .ref (ad 38)), (2, .int x2)]) hx hb dX10_notes_73 hl (k := 3) rfl rfl (by decide) rfl (fun ls hl => ?_)
        refine lv_goto (tgt := 52) hx hb dX10_notes_76 (by decide) ?_
        exact hL52 _ _ _ _ _ _ hw hP hS (lv_sub hl [1, 2, 3, 0] rfl)
  have lab_44 : ∀ (n : Nat), ∀ (σ : St) (x2 : Int32) (H : Heap) (locs : List Loc) (ls : Array Slot), w_X10_notes_was_44 K n σ x2 → va_P D vwCl ((wdM ad cI) σ) H → va_S (AW ad 40 s.heap.size) s.heap H locs → lv_has ls 4 [(0, .ref (ad 0)), (1, .ref (ad 38)), (2, .int x2)] → W p l e (headSpec wsX10_notes rm_X10_notes_was).room s m ([.ref (ad 0), .ref (ad 38)] : List Value).toArray below meth c H locs 0 0 (MQ below (va_Qv K (inW D (wdM ad cI) [(cI, .int)]) (AW ad 40 s.heap.size)) ([.ref (ad 0), .ref (ad 38)] : List Value).toArray s 0 0 (AW ad 40 s.heap.size)) (F0 m 44 ls []) := by
    intro n
    induction n with
    | zero =>
      intro σ x2 H locs ls hw
      exact hw.elim
    | succ n hL44 =>
      intro σ x2 H locs ls hw hP hS hl
      have hw : b_X10_notes_was_44 (w_X10_notes_was_44 K n) K σ x2 := hw
      unfold b_X10_notes_was_44 at hw
      generalize w_X10_notes_was_44 K n = L44 at hw hL44
      refine lv_iload_n hx hb dX10_notes_44 rfl (lv_at hl 2 rfl) ?_
      refine lv_bipush (v := 10) hx hb dX10_notes_45 (by decide) ?_
      refine lv_icmp_ge (tgt := 85) hx hb dX10_notes_47 (by decide) (fun c_10 => ?_) (fun c_10 => ?_)
      · have hw := hw.1 c_10
        refine lv_iconst (v := 0) hx hb dX10_notes_85 (by decide) ?_
        refine lv_istore_n (lv' := [(2, .int 0), (0, .ref (ad 0)), (1, .ref (ad 38))]) hx hb dX10_notes_86 rfl hl (by decide) rfl (fun ls hl => ?_)
        obtain ⟨n_8, hw⟩ := hw
        exact lab_87 n_8 _ _ _ _ _ hw hP hS (lv_sub hl [1, 2, 0] rfl)
      · have hw := hw.2 c_10
        refine lv_iconst (v := 0) hx hb dX10_notes_50 (by decide) ?_
        refine lv_istore_n (lv' := [(3, .int 0), (0, .ref (ad 0)), (1, .ref (ad 38)), (2, .int x2)]) hx hb dX10_notes_51 rfl hl (by decide) rfl (fun ls hl => ?_)
        obtain ⟨n_9, hw⟩ := hw
        exact lab_52 L44 hL44 n_9 _ _ _ _ _ _ hw hP hS (lv_sub hl [1, 2, 3, 0] rfl)
  have hl := lv_entry ([.ref (ad 0), .ref (ad 38)]) (n := 4) (Nat.le_of_ble_eq_true rfl)
  rw [lg_entry_eq]
  generalize (lg_sl ([.ref (ad 0), .ref (ad 38)]) ++ List.replicate (4 - (lg_sl ([.ref (ad 0), .ref (ad 38)])).length) Slot.unset).toArray = ls at hl ⊢
  have hl : lv_has ls 4 [(0, .ref (ad 0)), (1, .ref (ad 38))] := hl
  have key : ∀ (H : Heap), va_P D vwCl ((wdM ad cI) σ) H → va_S (AW ad 40 s.heap.size) s.heap H [] → W p l e (headSpec wsX10_notes rm_X10_notes_was).room s m ([.ref (ad 0), .ref (ad 38)] : List Value).toArray below meth c H [] 0 0 (MQ below (va_Qv K (inW D (wdM ad cI) [(cI, .int)]) (AW ad 40 s.heap.size)) ([.ref (ad 0), .ref (ad 38)] : List Value).toArray s 0 0 (AW ad 40 s.heap.size)) (F0 m 0 ls []) := by
    intro H hP hS
    unfold w_X10_notes_was at hw
    refine lv_aload_n hx hb dX10_notes_0 rfl (lv_at hl 1 rfl) ?_
    refine lv_iconst (v := 0) hx hb dX10_notes_1 (by decide) ?_
    refine lv_aload_n hx hb dX10_notes_2 rfl (lv_at hl 0 rfl) ?_
    refine gM_X10_how F hK iw_X10 hP f_f153 dX10_notes_3 ?_
    refine W.eq (g2 := F0 m 6 ls [.int (gS σ 5), .int 0, .ref (ad 38)]) rfl ?_
    refine sM_X10_was F hK hP hDs hS (by unfold vp_in; decide) dX10_notes_6 (fun H locs hP hS => ?_)
    refine lv_aload_n hx hb dX10_notes_7 rfl (lv_at hl 1 rfl) ?_
    refine lv_iconst (v := 1) hx hb dX10_notes_8 (by decide) ?_
    refine lv_aload_n hx hb dX10_notes_9 rfl (lv_at hl 0 rfl) ?_
    refine gM_X10_steps F hK iw_X10 hP f_f245 dX10_notes_10 ?_
    refine W.eq (g2 := F0 m 13 ls [.int (gS σ 6), .int 1, .ref (ad 38)]) rfl ?_
    refine sM_X10_was F hK hP hDs hS (by unfold vp_in; decide) dX10_notes_13 (fun H locs hP hS => ?_)
    refine lv_aload_n hx hb dX10_notes_14 rfl (lv_at hl 1 rfl) ?_
    refine lv_iconst (v := 2) hx hb dX10_notes_15 (by decide) ?_
    refine lv_aload_n hx hb dX10_notes_16 rfl (lv_at hl 0 rfl) ?_
    refine cvI (As := []) (rest := [.int 2, .ref (ad 38)]) F hK hP hS (c_X10_left l D ad cI hap H.size _ _ hw) (cwV 0 hts gX10_notes_X10_left rfl rfl rfl (by decide +kernel) ⟨Nat.le_of_ble_eq_true rfl, Nat.le_of_ble_eq_true rfl⟩) (va_recv hK hP (ci := 7) (q0 := 0) rfl rfl) rfl hl.1 rfl (Nat.le_of_ble_eq_true rfl) dX10_notes_17 ⟨Nat.zero_le _, Nat.zero_le _⟩ (fun r_12 u_11 H locs hw hP hS => ?_)
    refine sM_X10_was F hK hP hDs hS (by unfold vp_in; decide) dX10_notes_20 (fun H locs hP hS => ?_)
    refine lv_aload_n hx hb dX10_notes_21 rfl (lv_at hl 1 rfl) ?_
    refine lv_iconst (v := 3) hx hb dX10_notes_22 (by decide) ?_
    refine lv_aload_n hx hb dX10_notes_23 rfl (lv_at hl 0 rfl) ?_
    refine cvI (As := []) (rest := [.int 3, .ref (ad 38)]) F hK hP hS (c_X10_waiting l D ad cI hap H.size _ _ hw) (cwV 0 hts gX10_notes_X10_waiting rfl rfl rfl (by decide +kernel) ⟨Nat.le_of_ble_eq_true rfl, Nat.le_of_ble_eq_true rfl⟩) (va_recv hK hP (ci := 7) (q0 := 0) rfl rfl) rfl hl.1 rfl (Nat.le_of_ble_eq_true rfl) dX10_notes_24 ⟨Nat.zero_le _, Nat.zero_le _⟩ (fun r_14 u_13 H locs hw hP hS => ?_)
    refine sM_X10_was F hK hP hDs hS (by unfold vp_in; decide) dX10_notes_27 (fun H locs hP hS => ?_)
    refine lv_aload_n hx hb dX10_notes_28 rfl (lv_at hl 1 rfl) ?_
    refine lv_iconst (v := 4) hx hb dX10_notes_29 (by decide) ?_
    refine lv_aload_n hx hb dX10_notes_30 rfl (lv_at hl 0 rfl) ?_
    refine gM_X10_lost F hK iw_X10 hP f_f218 dX10_notes_31 ?_
    refine W.eq (g2 := F0 m 34 ls [.int (gS u_13 9), .int 4, .ref (ad 38)]) rfl ?_
    refine sM_X10_was F hK hP hDs hS (by unfold vp_in; decide) dX10_notes_34 (fun H locs hP hS => ?_)
    refine lv_aload_n hx hb dX10_notes_35 rfl (lv_at hl 1 rfl) ?_
    refine lv_iconst (v := 5) hx hb dX10_notes_36 (by decide) ?_
    refine lv_aload_n hx hb dX10_notes_37 rfl (lv_at hl 0 rfl) ?_
    refine gM_X10_strays F hK iw_X10 hP f_f231 dX10_notes_38 ?_
    refine W.eq (g2 := F0 m 41 ls [.int (gS u_13 10), .int 5, .ref (ad 38)]) rfl ?_
    refine sM_X10_was F hK hP hDs hS (by unfold vp_in; decide) dX10_notes_41 (fun H locs hP hS => ?_)
    refine lv_iconst (v := 0) hx hb dX10_notes_42 (by decide) ?_
    refine lv_istore_n (lv' := [(2, .int 0), (0, .ref (ad 0)), (1, .ref (ad 38))]) hx hb dX10_notes_43 rfl hl (by decide) rfl (fun ls hl => ?_)
    obtain ⟨n_15, hw⟩ := hw
    exact lab_44 n_15 _ _ _ _ _ hw hP hS (lv_sub hl [1, 2, 0] rfl)
  exact key s.heap hP hS
