abbrev rm_X9_cell : Room := { frames := 2, cells := 0, slots := 0, locals := 46 }
set_option maxHeartbeats 4000000 in
set_option maxRecDepth 100000 in
theorem c_X9_cell (l : Launch) (D : va_G) (ad : Nat → Nat) (cI cJ : ClassId) (hap : apart ad 42) (sz : Nat) (σ : St) (a1 : Int32) (a2 : Int32) (a3 : Int32) (K : Int32 → St → Prop) (hw : w_X9_cell σ a1 a2 a3 K) : Met l yX9_cell wsX9_cell rm_X9_cell (va_Pc [.ref (ad 0), .int a1, .int a2, .int a3] (fun U => U.heap.size = sz ∧ inW D (wdC ad cI cJ) [(cI, .int), (cJ, .long)] σ U)) (va_Qi K (inW D (wdC ad cI cJ) [(cI, .int), (cJ, .long)]) (AW ad 42 sz)) 0 0 (AW ad 42 sz) := by
  refine Met.ofW (cc := cX9_cell) (maxL := 5) (ret := (some .int)) (by decide) rfl ?_
  intro p e s m args below meth c s₁ B hml hv
  obtain ⟨rfl, hsz, ⟨hP, hK⟩⟩ := hv
  have F : CallFix p m c cX9_cell 5 s ([.ref (ad 0), .int a1, .int a2, .int a3] : List Value).toArray wsX9_cell RX9 := ⟨B.exec, B.bytes, hml, findClass_of_methodNamed B.named, atoms_spec (ws := wsX9_cell) B.pre⟩
  have hx := F.1
  have hb := F.2.1
  have hown := F.2.2.2.1
  have hts := F.2.2.2.2
  have hr := B.returns
  have hlocks := B.notSynchronized
  subst hsz
  have hDs : ∀ σ, va_D (AW ad 42 s.heap.size) ((wdC ad cI cJ) σ) := fun σ => wdC_D hap σ
  have hS : va_S (AW ad 42 s.heap.size) s.heap s.heap [] := va_S.rf
  have iw_X4 : ∀ w ∈ u_ws RX4 TX4 14, w ∈ wsX9_cell := by decide +kernel
  have iw_X6 : ∀ w ∈ u_ws RX6 TX6 10, w ∈ wsX9_cell := by decide +kernel
  have iw_X9 : ∀ w ∈ u_ws RX9 TX9 5, w ∈ wsX9_cell := by decide +kernel
  have f_f10 := hts (.fieldLink RX9 10 "TokenFloor" "graph" "LTokenFloor$Graph;") (by decide +kernel)
  have f_f21 := hts (.fieldLink RX9 21 "TokenFloor" "machine" "LTokenFloor$Machine;") (by decide +kernel)
  have f_f32 := hts (.fieldLink RX9 32 "TokenFloor" "hasRun" "Z") (by decide +kernel)
  have f_f85 := hts (.fieldLink RX9 85 "TokenFloor$Machine" "store" "LTokenFloor$Store;") (by decide +kernel)
  have f_f89 := hts (.fieldLink RX9 89 "TokenFloor$Store" "rowOfAct" "[I") (by decide +kernel)
  have f_f97 := hts (.fieldLink RX9 97 "TokenFloor$Store" "written" "[J") (by decide +kernel)
  have hl := lv_entry ([.ref (ad 0), .int a1, .int a2, .int a3]) (n := 5) (Nat.le_of_ble_eq_true rfl)
  rw [lg_entry_eq]
  generalize (lg_sl ([.ref (ad 0), .int a1, .int a2, .int a3]) ++ List.replicate (5 - (lg_sl ([.ref (ad 0), .int a1, .int a2, .int a3])).length) Slot.unset).toArray = ls at hl ⊢
  have hl : lv_has ls 5 [(0, .ref (ad 0)), (1, .int a1), (2, .int a2), (3, .int a3)] := hl
  have key : ∀ (H : Heap), va_P D vwCl ((wdC ad cI cJ) σ) H → va_S (AW ad 42 s.heap.size) s.heap H [] → W p l e (headSpec wsX9_cell rm_X9_cell).room s m ([.ref (ad 0), .int a1, .int a2, .int a3] : List Value).toArray below meth c H [] 0 0 (MQ below (va_Qi K (inW D (wdC ad cI cJ) [(cI, .int), (cJ, .long)]) (AW ad 42 s.heap.size)) ([.ref (ad 0), .int a1, .int a2, .int a3] : List Value).toArray s 0 0 (AW ad 42 s.heap.size)) (F0 m 0 ls []) := by
    intro H hP hS
    unfold w_X9_cell at hw
    refine lv_aload_n hx hb dX9_cell_0 rfl (lv_at hl 0 rfl) ?_
    refine gC_X9_hasRun F hK iw_X9 hP f_f32 dX9_cell_1 ?_
    refine W.eq (g2 := F0 m 4 ls [.int (gS σ 0)]) rfl ?_
    refine lv_if_eq (tgt := 18) hx hb dX9_cell_4 (by decide) (fun c_11 => ?_) (fun c_11 => ?_)
    · have hw := hw.1 c_11
      refine lv_iconst (v := (-1)) hx hb dX9_cell_18 (by decide) ?_
      exact rtI F hr hlocks hK hw hP hS dX9_cell_19
    · have hw := hw.2 c_11
      refine lv_aload_n hx hb dX9_cell_7 rfl (lv_at hl 0 rfl) ?_
      refine gC_X9_graph F hK iw_X9 hP f_f10 dX9_cell_8 ?_
      refine lv_iload_n hx hb dX9_cell_11 rfl (lv_at hl 1 rfl) ?_
      refine cvI (As := [.int a1]) (rest := []) F hK hP hS (c_X2_hasAct l D ad cI cJ hap H.size _ _ _ hw) (cwV 1 hts gX9_cell_X2_hasAct rfl rfl rfl (by decide +kernel) ⟨Nat.le_of_ble_eq_true rfl, Nat.le_of_ble_eq_true rfl⟩) (va_recv hK hP (ci := 2) (q0 := 1) rfl rfl) rfl hl.1 rfl (Nat.le_of_ble_eq_true rfl) dX9_cell_12 ⟨Nat.zero_le _, Nat.zero_le _⟩ (fun r_2 u_1 H locs hw hP hS => ?_)
      obtain ⟨zr_2, hw⟩ := hw
      refine lv_if_ne (tgt := 20) hx hb dX9_cell_15 (by decide) (fun c_10 => ?_) (fun c_10 => ?_)
      · have hw := hw.1 c_10
        refine lv_aload_n hx hb dX9_cell_20 rfl (lv_at hl 0 rfl) ?_
        refine gC_X9_machine F hK iw_X9 hP f_f21 dX9_cell_21 ?_
        refine gC_X4_store F hK iw_X4 hP f_f85 dX9_cell_24 ?_
        refine lv_aload_n hx hb dX9_cell_27 rfl (lv_at hl 0 rfl) ?_
        refine gC_X9_machine F hK iw_X9 hP f_f21 dX9_cell_28 ?_
        refine gC_X4_store F hK iw_X4 hP f_f85 dX9_cell_31 ?_
        refine gC_X6_rowOfAct F hK iw_X6 hP f_f89 dX9_cell_34 ?_
        refine lv_iload_n hx hb dX9_cell_37 rfl (lv_at hl 1 rfl) ?_
        obtain ⟨i_9, hw⟩ := hw
        refine lC_X6_rowOfAct F hK hP i_9 dX9_cell_38 ?_
        refine lv_iload_n hx hb dX9_cell_39 rfl (lv_at hl 2 rfl) ?_
        refine cvI (As := [.int (gA u_1 13 (a1).toNatClampNeg), .int a2]) (rest := []) F hK hP hS (c_X6_placeIn l D ad cI cJ hap H.size _ _ _ _ hw) (cwV 2 hts gX9_cell_X6_placeIn rfl rfl rfl (by decide +kernel) ⟨Nat.le_of_ble_eq_true rfl, Nat.le_of_ble_eq_true rfl⟩) (va_recv hK hP (ci := 5) (q0 := 3) rfl rfl) rfl hl.1 rfl (Nat.le_of_ble_eq_true rfl) dX9_cell_40 ⟨Nat.zero_le _, Nat.zero_le _⟩ (fun r_4 u_3 H locs hw hP hS => ?_)
        refine lv_istore (lv' := [(4, .int r_4), (0, .ref (ad 0)), (1, .int a1), (2, .int a2), (3, .int a3)]) hx hb dX9_cell_43 hl (by decide) rfl (fun ls hl => ?_)
        refine lv_iload hx hb dX9_cell_45 (lv_at hl 0 rfl) ?_
        refine lv_iconst (v := (-1)) hx hb dX9_cell_47 (by decide) ?_
        refine lv_icmp_ne (tgt := 55) hx hb dX9_cell_48 (by decide) (fun c_8 => ?_) (fun c_8 => ?_)
        · have hw := hw.1 c_8
          refine lv_aload_n hx hb dX9_cell_55 rfl (lv_at hl 1 rfl) ?_
          refine gC_X9_machine F hK iw_X9 hP f_f21 dX9_cell_56 ?_
          refine lv_aload_n hx hb dX9_cell_59 rfl (lv_at hl 1 rfl) ?_
          refine gC_X9_machine F hK iw_X9 hP f_f21 dX9_cell_60 ?_
          refine gC_X4_store F hK iw_X4 hP f_f85 dX9_cell_63 ?_
          refine gC_X6_written F hK iw_X6 hP f_f97 dX9_cell_66 ?_
          refine lv_iload hx hb dX9_cell_69 (lv_at hl 0 rfl) ?_
          obtain ⟨i_7, hw⟩ := hw
          refine lC_X6_written F hK hP i_7 dX9_cell_71 ?_
          refine lv_iload_n hx hb dX9_cell_72 rfl (lv_at hl 4 rfl) ?_
          refine cvI (As := [.long (gL u_3 3 (r_4).toNatClampNeg), .int a3]) (rest := []) F hK hP hS (c_X4_describe l D ad cI cJ hap H.size _ _ _ _ hw) (cwV 2 hts gX9_cell_X4_describe rfl rfl rfl (by decide +kernel) ⟨Nat.le_of_ble_eq_true rfl, Nat.le_of_ble_eq_true rfl⟩) (va_recv hK hP (ci := 3) (q0 := 2) rfl rfl) rfl hl.1 rfl (Nat.le_of_ble_eq_true rfl) dX9_cell_73 ⟨Nat.zero_le _, Nat.zero_le _⟩ (fun r_6 u_5 H locs hw hP hS => ?_)
          exact rtI F hr hlocks hK hw hP hS dX9_cell_76
        · have hw := hw.2 c_8
          refine lv_iconst (v := (-1)) hx hb dX9_cell_51 (by decide) ?_
          refine lv_goto (tgt := 76) hx hb dX9_cell_52 (by decide) ?_
          exact rtI F hr hlocks hK hw hP hS dX9_cell_76
      · have hw := hw.2 c_10
        refine lv_iconst (v := (-1)) hx hb dX9_cell_18 (by decide) ?_
        exact rtI F hr hlocks hK hw hP hS dX9_cell_19
  exact key s.heap hP hS

abbrev rm_X9_told : Room := { frames := 2, cells := 0, slots := 0, locals := 46 }
set_option maxHeartbeats 4000000 in
set_option maxRecDepth 100000 in
theorem c_X9_told (l : Launch) (D : va_G) (ad : Nat → Nat) (cI cJ : ClassId) (hap : apart ad 42) (sz : Nat) (σ : St) (a1 : Int32) (a2 : Int32) (K : Int32 → St → Prop) (hw : w_X9_told σ a1 a2 K) : Met l yX9_told wsX9_told rm_X9_told (va_Pc [.ref (ad 0), .int a1, .int a2] (fun U => U.heap.size = sz ∧ inW D (wdC ad cI cJ) [(cI, .int), (cJ, .long)] σ U)) (va_Qi K (inW D (wdC ad cI cJ) [(cI, .int), (cJ, .long)]) (AW ad 42 sz)) 0 0 (AW ad 42 sz) := by
  refine Met.ofW (cc := cX9_told) (maxL := 3) (ret := (some .int)) (by decide) rfl ?_
  intro p e s m args below meth c s₁ B hml hv
  obtain ⟨rfl, hsz, ⟨hP, hK⟩⟩ := hv
  have F : CallFix p m c cX9_told 3 s ([.ref (ad 0), .int a1, .int a2] : List Value).toArray wsX9_told RX9 := ⟨B.exec, B.bytes, hml, findClass_of_methodNamed B.named, atoms_spec (ws := wsX9_told) B.pre⟩
  have hx := F.1
  have hb := F.2.1
  have hown := F.2.2.2.1
  have hts := F.2.2.2.2
  have hr := B.returns
  have hlocks := B.notSynchronized
  subst hsz
  have hDs : ∀ σ, va_D (AW ad 42 s.heap.size) ((wdC ad cI cJ) σ) := fun σ => wdC_D hap σ
  have hS : va_S (AW ad 42 s.heap.size) s.heap s.heap [] := va_S.rf
  have iw_X2 : ∀ w ∈ u_ws RX2 TX2 15, w ∈ wsX9_told := by decide +kernel
  have iw_X9 : ∀ w ∈ u_ws RX9 TX9 5, w ∈ wsX9_told := by decide +kernel
  have f_f10 := hts (.fieldLink RX9 10 "TokenFloor" "graph" "LTokenFloor$Graph;") (by decide +kernel)
  have f_f100 := hts (.fieldLink RX9 100 "TokenFloor$Graph" "kind" "[I") (by decide +kernel)
  have f_f103 := hts (.fieldLink RX9 103 "TokenFloor$Graph" "number" "[I") (by decide +kernel)
  have f_f106 := hts (.fieldLink RX9 106 "TokenFloor$Graph" "ports" "[I") (by decide +kernel)
  have hl := lv_entry ([.ref (ad 0), .int a1, .int a2]) (n := 3) (Nat.le_of_ble_eq_true rfl)
  rw [lg_entry_eq]
  generalize (lg_sl ([.ref (ad 0), .int a1, .int a2]) ++ List.replicate (3 - (lg_sl ([.ref (ad 0), .int a1, .int a2])).length) Slot.unset).toArray = ls at hl ⊢
  have hl : lv_has ls 3 [(0, .ref (ad 0)), (1, .int a1), (2, .int a2)] := hl
  have key : ∀ (H : Heap), va_P D vwCl ((wdC ad cI cJ) σ) H → va_S (AW ad 42 s.heap.size) s.heap H [] → W p l e (headSpec wsX9_told rm_X9_told).room s m ([.ref (ad 0), .int a1, .int a2] : List Value).toArray below meth c H [] 0 0 (MQ below (va_Qi K (inW D (wdC ad cI cJ) [(cI, .int), (cJ, .long)]) (AW ad 42 s.heap.size)) ([.ref (ad 0), .int a1, .int a2] : List Value).toArray s 0 0 (AW ad 42 s.heap.size)) (F0 m 0 ls []) := by
    intro H hP hS
    unfold w_X9_told at hw
    refine lv_aload_n hx hb dX9_told_0 rfl (lv_at hl 0 rfl) ?_
    refine gC_X9_graph F hK iw_X9 hP f_f10 dX9_told_1 ?_
    refine lv_iload_n hx hb dX9_told_4 rfl (lv_at hl 1 rfl) ?_
    refine cvI (As := [.int a1]) (rest := []) F hK hP hS (c_X2_hasAct l D ad cI cJ hap H.size _ _ _ hw) (cwV 1 hts gX9_told_X2_hasAct rfl rfl rfl (by decide +kernel) ⟨Nat.le_of_ble_eq_true rfl, Nat.le_of_ble_eq_true rfl⟩) (va_recv hK hP (ci := 2) (q0 := 1) rfl rfl) rfl hl.1 rfl (Nat.le_of_ble_eq_true rfl) dX9_told_5 ⟨Nat.zero_le _, Nat.zero_le _⟩ (fun r_2 u_1 H locs hw hP hS => ?_)
    obtain ⟨zr_2, hw⟩ := hw
    refine lv_if_ne (tgt := 13) hx hb dX9_told_8 (by decide) (fun c_31 => ?_) (fun c_31 => ?_)
    · have hw := hw.1 c_31
      refine lv_iload_n hx hb dX9_told_13 rfl (lv_at hl 2 rfl) ?_
      by_cases k_3 : a2 = 0
      · have hw := hw.1 k_3
        refine sw_in 0 (tgt := 52) F dX9_told_14 k_3 (by decide) (by decide) rfl (by decide) ?_
        refine lv_aload_n hx hb dX9_told_52 rfl (lv_at hl 0 rfl) ?_
        refine gC_X9_graph F hK iw_X9 hP f_f10 dX9_told_53 ?_
        refine gC_X2_kind F hK iw_X2 hP f_f100 dX9_told_56 ?_
        refine lv_iload_n hx hb dX9_told_59 rfl (lv_at hl 1 rfl) ?_
        obtain ⟨i_4, hw⟩ := hw
        refine lC_X2_kind F hK hP i_4 dX9_told_60 ?_
        exact rtI F hr hlocks hK hw hP hS dX9_told_61
      · have hw := hw.2 k_3
        by_cases k_5 : a2 = 1
        · have hw := hw.1 k_5
          refine sw_in 1 (tgt := 62) F dX9_told_14 k_5 (by decide) (by decide) rfl (by decide) ?_
          refine lv_aload_n hx hb dX9_told_62 rfl (lv_at hl 0 rfl) ?_
          refine gC_X9_graph F hK iw_X9 hP f_f10 dX9_told_63 ?_
          refine gC_X2_number F hK iw_X2 hP f_f103 dX9_told_66 ?_
          refine lv_iload_n hx hb dX9_told_69 rfl (lv_at hl 1 rfl) ?_
          obtain ⟨i_6, hw⟩ := hw
          refine lC_X2_number F hK hP i_6 dX9_told_70 ?_
          exact rtI F hr hlocks hK hw hP hS dX9_told_71
        · have hw := hw.2 k_5
          by_cases k_7 : a2 = 2
          · have hw := hw.1 k_7
            refine sw_in 2 (tgt := 72) F dX9_told_14 k_7 (by decide) (by decide) rfl (by decide) ?_
            refine lv_aload_n hx hb dX9_told_72 rfl (lv_at hl 0 rfl) ?_
            refine gC_X9_graph F hK iw_X9 hP f_f10 dX9_told_73 ?_
            refine gC_X2_ports F hK iw_X2 hP f_f106 dX9_told_76 ?_
            refine lv_iload_n hx hb dX9_told_79 rfl (lv_at hl 1 rfl) ?_
            obtain ⟨i_8, hw⟩ := hw
            refine lC_X2_ports F hK hP i_8 dX9_told_80 ?_
            exact rtI F hr hlocks hK hw hP hS dX9_told_81
          · have hw := hw.2 k_7
            by_cases k_9 : a2 = 3
            · have hw := hw.1 k_9
              refine sw_in 3 (tgt := 82) F dX9_told_14 k_9 (by decide) (by decide) rfl (by decide) ?_
              refine lv_aload_n hx hb dX9_told_82 rfl (lv_at hl 0 rfl) ?_
              refine gC_X9_graph F hK iw_X9 hP f_f10 dX9_told_83 ?_
              refine lv_iload_n hx hb dX9_told_86 rfl (lv_at hl 1 rfl) ?_
              refine lv_iconst (v := 0) hx hb dX9_told_87 (by decide) ?_
              refine cvI (As := [.int a1, .int 0]) (rest := []) F hK hP hS (c_X2_countWays l D ad cI cJ hap H.size _ _ _ _ hw) (cwV 2 hts gX9_told_X2_countWays rfl rfl rfl (by decide +kernel) ⟨Nat.le_of_ble_eq_true rfl, Nat.le_of_ble_eq_true rfl⟩) (va_recv hK hP (ci := 2) (q0 := 1) rfl rfl) rfl hl.1 rfl (Nat.le_of_ble_eq_true rfl) dX9_told_88 ⟨Nat.zero_le _, Nat.zero_le _⟩ (fun r_11 u_10 H locs hw hP hS => ?_)
              exact rtI F hr hlocks hK hw hP hS dX9_told_91
            · have hw := hw.2 k_9
              by_cases k_12 : a2 = 4
              · have hw := hw.1 k_12
                refine sw_in 4 (tgt := 92) F dX9_told_14 k_12 (by decide) (by decide) rfl (by decide) ?_
                refine lv_aload_n hx hb dX9_told_92 rfl (lv_at hl 0 rfl) ?_
                refine gC_X9_graph F hK iw_X9 hP f_f10 dX9_told_93 ?_
                refine lv_iload_n hx hb dX9_told_96 rfl (lv_at hl 1 rfl) ?_
                refine lv_iconst (v := 1) hx hb dX9_told_97 (by decide) ?_
                refine cvI (As := [.int a1, .int 1]) (rest := []) F hK hP hS (c_X2_countWays l D ad cI cJ hap H.size _ _ _ _ hw) (cwV 2 hts gX9_told_X2_countWays rfl rfl rfl (by decide +kernel) ⟨Nat.le_of_ble_eq_true rfl, Nat.le_of_ble_eq_true rfl⟩) (va_recv hK hP (ci := 2) (q0 := 1) rfl rfl) rfl hl.1 rfl (Nat.le_of_ble_eq_true rfl) dX9_told_98 ⟨Nat.zero_le _, Nat.zero_le _⟩ (fun r_14 u_13 H locs hw hP hS => ?_)
                exact rtI F hr hlocks hK hw hP hS dX9_told_101
              · have hw := hw.2 k_12
                by_cases k_15 : a2 = 5
                · have hw := hw.1 k_15
                  refine sw_in 5 (tgt := 102) F dX9_told_14 k_15 (by decide) (by decide) rfl (by decide) ?_
                  refine lv_aload_n hx hb dX9_told_102 rfl (lv_at hl 0 rfl) ?_
                  refine gC_X9_graph F hK iw_X9 hP f_f10 dX9_told_103 ?_
                  refine lv_iload_n hx hb dX9_told_106 rfl (lv_at hl 1 rfl) ?_
                  refine cvI (As := [.int a1]) (rest := []) F hK hP hS (c_X2_countTokens l D ad cI cJ hap H.size _ _ _ hw) (cwV 1 hts gX9_told_X2_countTokens rfl rfl rfl (by decide +kernel) ⟨Nat.le_of_ble_eq_true rfl, Nat.le_of_ble_eq_true rfl⟩) (va_recv hK hP (ci := 2) (q0 := 1) rfl rfl) rfl hl.1 rfl (Nat.le_of_ble_eq_true rfl) dX9_told_107 ⟨Nat.zero_le _, Nat.zero_le _⟩ (fun r_17 u_16 H locs hw hP hS => ?_)
                  exact rtI F hr hlocks hK hw hP hS dX9_told_110
                · have hw := hw.2 k_15
                  have z_18 : ¬ a2.toInt = 0 := lv_neT (fun z => k_3 z) (k := 0) (by decide)
                  have z_19 : ¬ a2.toInt = 1 := lv_neT (fun z => k_5 z) (k := 1) (by decide)
                  have z_20 : ¬ a2.toInt = 2 := lv_neT (fun z => k_7 z) (k := 2) (by decide)
                  have z_21 : ¬ a2.toInt = 3 := lv_neT (fun z => k_9 z) (k := 3) (by decide)
                  have z_22 : ¬ a2.toInt = 4 := lv_neT (fun z => k_12 z) (k := 4) (by decide)
                  have z_23 : ¬ a2.toInt = 5 := lv_neT (fun z => k_15 z) (k := 5) (by decide)
                  have kd : W p l e (headSpec wsX9_told rm_X9_told).room s m ([.ref (ad 0), .int a1, .int a2] : List Value).toArray below meth c H locs 0 0 (MQ below (va_Qi K (inW D (wdC ad cI cJ) [(cI, .int), (cJ, .long)]) (AW ad 42 s.heap.size)) ([.ref (ad 0), .int a1, .int a2] : List Value).toArray s 0 0 (AW ad 42 s.heap.size)) (F0 m 111 ls []) := by
                    refine lv_iconst (v := (-1)) hx hb dX9_told_111 (by decide) ?_
                    exact rtI F hr hlocks hK hw hP hS dX9_told_112
                  rcases (show (a2.toInt < 0 ∨ 5 < a2.toInt) by omega) with o_24
                  · exact lv_tableOut hx hb dX9_told_14 o_24 (by decide) kd
    · have hw := hw.2 c_31
      refine lv_iconst (v := (-1)) hx hb dX9_told_11 (by decide) ?_
      exact rtI F hr hlocks hK hw hP hS dX9_told_12
  exact key s.heap hP hS

abbrev rm_X9_firstDifference : Room := { frames := 0, cells := 0, slots := 0, locals := 0 }
set_option maxHeartbeats 4000000 in
set_option maxRecDepth 100000 in
theorem c_X9_firstDifference (l : Launch) (D : va_G) (ad : Nat → Nat) (cI cJ : ClassId) (hap : apart ad 42) (sz : Nat) (σ : St) (K : Int32 → St → Prop) (hw : w_X9_firstDifference σ K) : Met l yX9_firstDifference wsX9_firstDifference rm_X9_firstDifference (va_Pc [.ref (ad 0)] (fun U => U.heap.size = sz ∧ inW D (wdC ad cI cJ) [(cI, .int), (cJ, .long)] σ U)) (va_Qi K (inW D (wdC ad cI cJ) [(cI, .int), (cJ, .long)]) (AW ad 42 sz)) 0 0 (AW ad 42 sz) := by
  refine Met.ofW (cc := cX9_firstDifference) (maxL := 2) (ret := (some .int)) (by decide) rfl ?_
  intro p e s m args below meth c s₁ B hml hv
  obtain ⟨rfl, hsz, ⟨hP, hK⟩⟩ := hv
  have F : CallFix p m c cX9_firstDifference 2 s ([.ref (ad 0)] : List Value).toArray wsX9_firstDifference RX9 := ⟨B.exec, B.bytes, hml, findClass_of_methodNamed B.named, atoms_spec (ws := wsX9_firstDifference) B.pre⟩
  have hx := F.1
  have hb := F.2.1
  have hown := F.2.2.2.1
  have hts := F.2.2.2.2
  have hr := B.returns
  have hlocks := B.notSynchronized
  subst hsz
  have hDs : ∀ σ, va_D (AW ad 42 s.heap.size) ((wdC ad cI cJ) σ) := fun σ => wdC_D hap σ
  have hS : va_S (AW ad 42 s.heap.size) s.heap s.heap [] := va_S.rf
  have iw_X9 : ∀ w ∈ u_ws RX9 TX9 5, w ∈ wsX9_firstDifference := by decide +kernel
  have f_f25 := hts (.fieldLink RX9 25 "TokenFloor" "figuresA" "[J") (by decide +kernel)
  have f_f29 := hts (.fieldLink RX9 29 "TokenFloor" "figuresB" "[J") (by decide +kernel)
  have lab_2 : ∀ (n : Nat), ∀ (σ : St) (x1 : Int32) (H : Heap) (locs : List Loc) (ls : Array Slot), w_X9_firstDifference_2 K n σ x1 → va_P D vwCl ((wdC ad cI cJ) σ) H → va_S (AW ad 42 s.heap.size) s.heap H locs → lv_has ls 2 [(0, .ref (ad 0)), (1, .int x1)] → W p l e (headSpec wsX9_firstDifference rm_X9_firstDifference).room s m ([.ref (ad 0)] : List Value).toArray below meth c H locs 0 0 (MQ below (va_Qi K (inW D (wdC ad cI cJ) [(cI, .int), (cJ, .long)]) (AW ad 42 s.heap.size)) ([.ref (ad 0)] : List Value).toArray s 0 0 (AW ad 42 s.heap.size)) (F0 m 2 ls []) := by
    intro n
    induction n with
    | zero =>
      intro σ x1 H locs ls hw
      exact hw.elim
    | succ n hL2 =>
      intro σ x1 H locs ls hw hP hS hl
      have hw : b_X9_firstDifference_2 (w_X9_firstDifference_2 K n) K σ x1 := hw
      unfold b_X9_firstDifference_2 at hw
      generalize w_X9_firstDifference_2 K n = L2 at hw hL2
      refine lv_iload_n hx hb dX9_firstDifference_2 rfl (lv_at hl 1 rfl) ?_
      refine lv_bipush (v := 100) hx hb dX9_firstDifference_3 (by decide) ?_
      refine lv_icmp_ge (tgt := 32) hx hb dX9_firstDifference_5 (by decide) (fun c_4 => ?_) (fun c_4 => ?_)
      · have hw := hw.1 c_4
        refine lv_iconst (v := (-1)) hx hb dX9_firstDifference_32 (by decide) ?_
        exact rtI F hr hlocks hK hw hP hS dX9_firstDifference_33
      · have hw := hw.2 c_4
        refine lv_aload_n hx hb dX9_firstDifference_8 rfl (lv_at hl 0 rfl) ?_
        refine gC_X9_figuresA F hK iw_X9 hP f_f25 dX9_firstDifference_9 ?_
        refine lv_iload_n hx hb dX9_firstDifference_12 rfl (lv_at hl 1 rfl) ?_
        obtain ⟨i_3, hw⟩ := hw
        refine lC_X9_figuresA F hK hP i_3 dX9_firstDifference_13 ?_
        refine lv_aload_n hx hb dX9_firstDifference_14 rfl (lv_at hl 0 rfl) ?_
        refine gC_X9_figuresB F hK iw_X9 hP f_f29 dX9_firstDifference_15 ?_
        refine lv_iload_n hx hb dX9_firstDifference_18 rfl (lv_at hl 1 rfl) ?_
        obtain ⟨i_2, hw⟩ := hw
        refine lC_X9_figuresB F hK hP i_2 dX9_firstDifference_19 ?_
        refine W.lcmp hx hb dX9_firstDifference_20 ?_
        refine lv_if_eq (tgt := 26) hx hb dX9_firstDifference_21 (by decide) (fun c_1 => ?_) (fun c_1 => ?_)
        · have hw := hw.1 c_1
          refine lv_iinc (v := (x1 + 1)) (lv' := [(1, .int (x1 + 1)), (0, .ref (ad 0))]) hx hb dX9_firstDifference_26 hl (k := 1) rfl rfl (by decide) rfl (fun ls hl => ?_)
          refine lv_goto (tgt := 2) hx hb dX9_firstDifference_29 (by decide) ?_
          exact hL2 _ _ _ _ _ hw hP hS (lv_sub hl [1, 0] rfl)
        · have hw := hw.2 c_1
          refine lv_iload_n hx hb dX9_firstDifference_24 rfl (lv_at hl 1 rfl) ?_
          exact rtI F hr hlocks hK hw hP hS dX9_firstDifference_25
  have hl := lv_entry ([.ref (ad 0)]) (n := 2) (Nat.le_of_ble_eq_true rfl)
  rw [lg_entry_eq]
  generalize (lg_sl ([.ref (ad 0)]) ++ List.replicate (2 - (lg_sl ([.ref (ad 0)])).length) Slot.unset).toArray = ls at hl ⊢
  have hl : lv_has ls 2 [(0, .ref (ad 0))] := hl
  have key : ∀ (H : Heap), va_P D vwCl ((wdC ad cI cJ) σ) H → va_S (AW ad 42 s.heap.size) s.heap H [] → W p l e (headSpec wsX9_firstDifference rm_X9_firstDifference).room s m ([.ref (ad 0)] : List Value).toArray below meth c H [] 0 0 (MQ below (va_Qi K (inW D (wdC ad cI cJ) [(cI, .int), (cJ, .long)]) (AW ad 42 s.heap.size)) ([.ref (ad 0)] : List Value).toArray s 0 0 (AW ad 42 s.heap.size)) (F0 m 0 ls []) := by
    intro H hP hS
    unfold w_X9_firstDifference at hw
    refine lv_iconst (v := 0) hx hb dX9_firstDifference_0 (by decide) ?_
    refine lv_istore_n (lv' := [(1, .int 0), (0, .ref (ad 0))]) hx hb dX9_firstDifference_1 rfl hl (by decide) rfl (fun ls hl => ?_)
    obtain ⟨n_5, hw⟩ := hw
    exact lab_2 n_5 _ _ _ _ _ hw hP hS (lv_sub hl [1, 0] rfl)
  exact key s.heap hP hS

abbrev rm_X9_beside : Room := { frames := 7, cells := 0, slots := 0, locals := 177 }
set_option maxHeartbeats 4000000 in
set_option maxRecDepth 100000 in
theorem c_X9_beside (l : Launch) (D : va_G) (ad : Nat → Nat) (cI cJ : ClassId) (hap : apart ad 42) (sz : Nat) (σ : St) (a1 : Int32) (a2 : Int32) (a3 : Int32) (K : Int32 → St → Prop) (hw : w_X9_beside σ a1 a2 a3 K) : Met l yX9_beside wsX9_beside rm_X9_beside (va_Pc [.ref (ad 0), .int a1, .int a2, .int a3] (fun U => U.heap.size = sz ∧ inW D (wdC ad cI cJ) [(cI, .int), (cJ, .long)] σ U)) (va_Qi K (inW D (wdC ad cI cJ) [(cI, .int), (cJ, .long)]) (AW ad 42 sz)) 0 0 (AW ad 42 sz) := by
  refine Met.ofW (cc := cX9_beside) (maxL := 6) (ret := (some .int)) (by decide) rfl ?_
  intro p e s m args below meth c s₁ B hml hv
  obtain ⟨rfl, hsz, ⟨hP, hK⟩⟩ := hv
  have F : CallFix p m c cX9_beside 6 s ([.ref (ad 0), .int a1, .int a2, .int a3] : List Value).toArray wsX9_beside RX9 := ⟨B.exec, B.bytes, hml, findClass_of_methodNamed B.named, atoms_spec (ws := wsX9_beside) B.pre⟩
  have hx := F.1
  have hb := F.2.1
  have hown := F.2.2.2.1
  have hts := F.2.2.2.2
  have hr := B.returns
  have hlocks := B.notSynchronized
  subst hsz
  have hDs : ∀ σ, va_D (AW ad 42 s.heap.size) ((wdC ad cI cJ) σ) := fun σ => wdC_D hap σ
  have hS : va_S (AW ad 42 s.heap.size) s.heap s.heap [] := va_S.rf
  have iw_X9 : ∀ w ∈ u_ws RX9 TX9 5, w ∈ wsX9_beside := by decide +kernel
  have f_f21 := hts (.fieldLink RX9 21 "TokenFloor" "machine" "LTokenFloor$Machine;") (by decide +kernel)
  have f_f25 := hts (.fieldLink RX9 25 "TokenFloor" "figuresA" "[J") (by decide +kernel)
  have f_f29 := hts (.fieldLink RX9 29 "TokenFloor" "figuresB" "[J") (by decide +kernel)
  have f_f32 := hts (.fieldLink RX9 32 "TokenFloor" "hasRun" "Z") (by decide +kernel)
  have hl := lv_entry ([.ref (ad 0), .int a1, .int a2, .int a3]) (n := 6) (Nat.le_of_ble_eq_true rfl)
  rw [lg_entry_eq]
  generalize (lg_sl ([.ref (ad 0), .int a1, .int a2, .int a3]) ++ List.replicate (6 - (lg_sl ([.ref (ad 0), .int a1, .int a2, .int a3])).length) Slot.unset).toArray = ls at hl ⊢
  have hl : lv_has ls 6 [(0, .ref (ad 0)), (1, .int a1), (2, .int a2), (3, .int a3)] := hl
  have key : ∀ (H : Heap), va_P D vwCl ((wdC ad cI cJ) σ) H → va_S (AW ad 42 s.heap.size) s.heap H [] → W p l e (headSpec wsX9_beside rm_X9_beside).room s m ([.ref (ad 0), .int a1, .int a2, .int a3] : List Value).toArray below meth c H [] 0 0 (MQ below (va_Qi K (inW D (wdC ad cI cJ) [(cI, .int), (cJ, .long)]) (AW ad 42 s.heap.size)) ([.ref (ad 0), .int a1, .int a2, .int a3] : List Value).toArray s 0 0 (AW ad 42 s.heap.size)) (F0 m 0 ls []) := by
    intro H hP hS
    unfold w_X9_beside at hw
    refine lv_iload_n hx hb dX9_beside_0 rfl (lv_at hl 3 rfl) ?_
    refine csI (As := [.int a3]) (rest := []) F hK hP hS (c_X9_isFuel l D ad cI cJ hap H.size _ _ _ hw) (va_cwS 1 hts gX9_beside_X9_isFuel rfl rfl rfl (by decide +kernel) ⟨Nat.le_of_ble_eq_true rfl, Nat.le_of_ble_eq_true rfl⟩) rfl hl.1 rfl (Nat.le_of_ble_eq_true rfl) dX9_beside_1 ⟨Nat.zero_le _, Nat.zero_le _⟩ (fun r_2 u_1 H locs hw hP hS => ?_)
    obtain ⟨zr_2, hw⟩ := hw
    refine lv_if_ne (tgt := 10) hx hb dX9_beside_4 (by decide) (fun c_17 => ?_) (fun c_17 => ?_)
    · have hw := hw.1 c_17
      refine lv_aload_n hx hb dX9_beside_10 rfl (lv_at hl 0 rfl) ?_
      refine lv_iconst (v := 1) hx hb dX9_beside_11 (by decide) ?_
      refine pC_X9_hasRun F hK iw_X9 hP hDs hS f_f32 dX9_beside_12 (Or.inr rfl) (fun H locs hP hS => ?_)
      refine lv_aload_n hx hb dX9_beside_15 rfl (lv_at hl 0 rfl) ?_
      refine gC_X9_machine F hK iw_X9 hP f_f21 dX9_beside_16 ?_
      refine lv_iload_n hx hb dX9_beside_19 rfl (lv_at hl 1 rfl) ?_
      refine lv_iload_n hx hb dX9_beside_20 rfl (lv_at hl 3 rfl) ?_
      refine cvI (As := [.int a1, .int a3]) (rest := []) F hK hP hS (c_X4_goBySeed l D ad cI cJ hap H.size _ _ _ _ hw) (cwV 2 hts gX9_beside_X4_goBySeed rfl rfl rfl (by decide +kernel) ⟨Nat.le_of_ble_eq_true rfl, Nat.le_of_ble_eq_true rfl⟩) (va_recv hK hP (ci := 3) (q0 := 2) rfl rfl) rfl hl.1 rfl (Nat.le_of_ble_eq_true rfl) dX9_beside_21 ⟨Nat.zero_le _, Nat.zero_le _⟩ (fun r_4 u_3 H locs hw hP hS => ?_)
      refine lv_istore (lv' := [(4, .int r_4), (0, .ref (ad 0)), (1, .int a1), (2, .int a2), (3, .int a3)]) hx hb dX9_beside_24 hl (by decide) rfl (fun ls hl => ?_)
      refine lv_aload_n hx hb dX9_beside_26 rfl (lv_at hl 1 rfl) ?_
      refine gC_X9_machine F hK iw_X9 hP f_f21 dX9_beside_27 ?_
      refine lv_aload_n hx hb dX9_beside_30 rfl (lv_at hl 1 rfl) ?_
      refine gC_X9_figuresA F hK iw_X9 hP f_f25 dX9_beside_31 ?_
      refine cvV (As := [.ref (ad 7)]) (rest := []) F hK hP hS (c_X4_copyFigures_figuresA l D ad cI cJ hap H.size _ _ hw) (cwV 1 hts gX9_beside_X4_copyFigures rfl rfl rfl (by decide +kernel) ⟨Nat.le_of_ble_eq_true rfl, Nat.le_of_ble_eq_true rfl⟩) (va_recv hK hP (ci := 3) (q0 := 2) rfl rfl) rfl hl.1 rfl (Nat.le_of_ble_eq_true rfl) dX9_beside_34 ⟨Nat.zero_le _, Nat.zero_le _⟩ (fun u_5 H locs hw hP hS => ?_)
      refine lv_aload_n hx hb dX9_beside_37 rfl (lv_at hl 1 rfl) ?_
      refine gC_X9_machine F hK iw_X9 hP f_f21 dX9_beside_38 ?_
      refine lv_iload_n hx hb dX9_beside_41 rfl (lv_at hl 3 rfl) ?_
      refine lv_iload_n hx hb dX9_beside_42 rfl (lv_at hl 4 rfl) ?_
      refine cvI (As := [.int a2, .int a3]) (rest := []) F hK hP hS (c_X4_goBySeed l D ad cI cJ hap H.size _ _ _ _ hw) (cwV 2 hts gX9_beside_X4_goBySeed rfl rfl rfl (by decide +kernel) ⟨Nat.le_of_ble_eq_true rfl, Nat.le_of_ble_eq_true rfl⟩) (va_recv hK hP (ci := 3) (q0 := 2) rfl rfl) rfl hl.1 rfl (Nat.le_of_ble_eq_true rfl) dX9_beside_43 ⟨Nat.zero_le _, Nat.zero_le _⟩ (fun r_8 u_7 H locs hw hP hS => ?_)
      refine lv_istore (lv' := [(5, .int r_8), (4, .int r_4), (0, .ref (ad 0)), (1, .int a1), (2, .int a2), (3, .int a3)]) hx hb dX9_beside_46 hl (by decide) rfl (fun ls hl => ?_)
      refine lv_aload_n hx hb dX9_beside_48 rfl (lv_at hl 2 rfl) ?_
      refine gC_X9_machine F hK iw_X9 hP f_f21 dX9_beside_49 ?_
      refine lv_aload_n hx hb dX9_beside_52 rfl (lv_at hl 2 rfl) ?_
      refine gC_X9_figuresB F hK iw_X9 hP f_f29 dX9_beside_53 ?_
      refine cvV (As := [.ref (ad 8)]) (rest := []) F hK hP hS (c_X4_copyFigures_figuresB l D ad cI cJ hap H.size _ _ hw) (cwV 1 hts gX9_beside_X4_copyFigures rfl rfl rfl (by decide +kernel) ⟨Nat.le_of_ble_eq_true rfl, Nat.le_of_ble_eq_true rfl⟩) (va_recv hK hP (ci := 3) (q0 := 2) rfl rfl) rfl hl.1 rfl (Nat.le_of_ble_eq_true rfl) dX9_beside_56 ⟨Nat.zero_le _, Nat.zero_le _⟩ (fun u_9 H locs hw hP hS => ?_)
      refine lv_iload hx hb dX9_beside_59 (lv_at hl 1 rfl) ?_
      refine lv_iload hx hb dX9_beside_61 (lv_at hl 0 rfl) ?_
      refine lv_icmp_ne (tgt := 73) hx hb dX9_beside_63 (by decide) (fun c_16 => ?_) (fun c_16 => ?_)
      · have hw := hw.1 c_16
        refine lv_aload_n hx hb dX9_beside_73 rfl (lv_at hl 2 rfl) ?_
        refine cvI (As := []) (rest := []) F hK hP hS (c_X9_firstDifference l D ad cI cJ hap H.size _ _ hw) (cwV 0 hts gX9_beside_X9_firstDifference rfl rfl rfl (by decide +kernel) ⟨Nat.le_of_ble_eq_true rfl, Nat.le_of_ble_eq_true rfl⟩) (va_recv hK hP (ci := 6) (q0 := 0) rfl rfl) rfl hl.1 rfl (Nat.le_of_ble_eq_true rfl) dX9_beside_74 ⟨Nat.zero_le _, Nat.zero_le _⟩ (fun r_12 u_11 H locs hw hP hS => ?_)
        exact rtI F hr hlocks hK hw hP hS dX9_beside_77
      · have hw := hw.2 c_16
        refine lv_iload hx hb dX9_beside_66 (lv_at hl 1 rfl) ?_
        refine lv_if_eq (tgt := 73) hx hb dX9_beside_68 (by decide) (fun c_15 => ?_) (fun c_15 => ?_)
        · have hw := hw.1 c_15
          refine lv_aload_n hx hb dX9_beside_73 rfl (lv_at hl 2 rfl) ?_
          refine cvI (As := []) (rest := []) F hK hP hS (c_X9_firstDifference l D ad cI cJ hap H.size _ _ hw) (cwV 0 hts gX9_beside_X9_firstDifference rfl rfl rfl (by decide +kernel) ⟨Nat.le_of_ble_eq_true rfl, Nat.le_of_ble_eq_true rfl⟩) (va_recv hK hP (ci := 6) (q0 := 0) rfl rfl) rfl hl.1 rfl (Nat.le_of_ble_eq_true rfl) dX9_beside_74 ⟨Nat.zero_le _, Nat.zero_le _⟩ (fun r_14 u_13 H locs hw hP hS => ?_)
          exact rtI F hr hlocks hK hw hP hS dX9_beside_77
        · have hw := hw.2 c_15
          refine lv_iconst (v := (-1)) hx hb dX9_beside_71 (by decide) ?_
          exact rtI F hr hlocks hK hw hP hS dX9_beside_72
    · have hw := hw.2 c_17
      refine lv_bipush (v := (-2)) hx hb dX9_beside_7 (by decide) ?_
      exact rtI F hr hlocks hK hw hP hS dX9_beside_9
  exact key s.heap hP hS

abbrev rm_X10_in : Room := { frames := 0, cells := 0, slots := 0, locals := 0 }
set_option maxHeartbeats 4000000 in
set_option maxRecDepth 100000 in
theorem c_X10_in (l : Launch) (D : va_G) (ad : Nat → Nat) (cI : ClassId) (hap : apart ad 40) (sz : Nat) (σ : St) (a1 : Int32) (a2 : Int32) (a3 : Int32) (K : Int32 → St → Prop) (hw : w_X10_in σ a1 a2 a3 K) : Met l yX10_in wsX10_in rm_X10_in (va_Pc [.int a1, .int a2, .int a3] (fun U => U.heap.size = sz ∧ inW D (wdM ad cI) [(cI, .int)] σ U)) (va_Qi (fun r u => zb r ∧ K r u) (inW D (wdM ad cI) [(cI, .int)]) (AW ad 40 sz)) 0 0 (AW ad 40 sz) := by
  refine Met.ofW (cc := cX10_in) (maxL := 3) (ret := (some .boolean)) (by decide) rfl ?_
  intro p e s m args below meth c s₁ B hml hv
  obtain ⟨rfl, hsz, ⟨hP, hK⟩⟩ := hv
  have F : CallFix p m c cX10_in 3 s ([.int a1, .int a2, .int a3] : List Value).toArray wsX10_in RX10 := ⟨B.exec, B.bytes, hml, findClass_of_methodNamed B.named, atoms_spec (ws := wsX10_in) B.pre⟩
  have hx := F.1
  have hb := F.2.1
  have hown := F.2.2.2.1
  have hts := F.2.2.2.2
  have hr := B.returns
  have hlocks := B.notSynchronized
  subst hsz
  have hDs : ∀ σ, va_D (AW ad 40 s.heap.size) ((wdM ad cI) σ) := fun σ => wdM_D hap σ
  have hS : va_S (AW ad 40 s.heap.size) s.heap s.heap [] := va_S.rf
  have hl := lv_entry ([.int a1, .int a2, .int a3]) (n := 3) (Nat.le_of_ble_eq_true rfl)
  rw [lg_entry_eq]
  generalize (lg_sl ([.int a1, .int a2, .int a3]) ++ List.replicate (3 - (lg_sl ([.int a1, .int a2, .int a3])).length) Slot.unset).toArray = ls at hl ⊢
  have hl : lv_has ls 3 [(0, .int a1), (1, .int a2), (2, .int a3)] := hl
  have key : ∀ (H : Heap), va_P D vwCl ((wdM ad cI) σ) H → va_S (AW ad 40 s.heap.size) s.heap H [] → W p l e (headSpec wsX10_in rm_X10_in).room s m ([.int a1, .int a2, .int a3] : List Value).toArray below meth c H [] 0 0 (MQ below (va_Qi (fun r u => zb r ∧ K r u) (inW D (wdM ad cI) [(cI, .int)]) (AW ad 40 s.heap.size)) ([.int a1, .int a2, .int a3] : List Value).toArray s 0 0 (AW ad 40 s.heap.size)) (F0 m 0 ls []) := by
    intro H hP hS
    unfold w_X10_in at hw
    refine lv_iload_n hx hb dX10_in_0 rfl (lv_at hl 0 rfl) ?_
    refine lv_iload_n hx hb dX10_in_1 rfl (lv_at hl 1 rfl) ?_
    refine lv_icmp_lt (tgt := 14) hx hb dX10_in_2 (by decide) (fun c_2 => ?_) (fun c_2 => ?_)
    · have hw := hw.1 c_2
      refine lv_iconst (v := 0) hx hb dX10_in_14 (by decide) ?_
      exact rtZ F hr hlocks hK hw (Or.inl rfl) hP hS dX10_in_15
    · have hw := hw.2 c_2
      refine lv_iload_n hx hb dX10_in_5 rfl (lv_at hl 0 rfl) ?_
      refine lv_iload_n hx hb dX10_in_6 rfl (lv_at hl 2 rfl) ?_
      refine lv_icmp_gt (tgt := 14) hx hb dX10_in_7 (by decide) (fun c_1 => ?_) (fun c_1 => ?_)
      · have hw := hw.1 c_1
        refine lv_iconst (v := 0) hx hb dX10_in_14 (by decide) ?_
        exact rtZ F hr hlocks hK hw (Or.inl rfl) hP hS dX10_in_15
      · have hw := hw.2 c_1
        refine lv_iconst (v := 1) hx hb dX10_in_10 (by decide) ?_
        refine lv_goto (tgt := 15) hx hb dX10_in_11 (by decide) ?_
        exact rtZ F hr hlocks hK hw (Or.inr rfl) hP hS dX10_in_15
  exact key s.heap hP hS

abbrev rm_X10_isAct : Room := { frames := 1, cells := 0, slots := 0, locals := 22 }
set_option maxHeartbeats 4000000 in
set_option maxRecDepth 100000 in
theorem c_X10_isAct (l : Launch) (D : va_G) (ad : Nat → Nat) (cI : ClassId) (hap : apart ad 40) (sz : Nat) (σ : St) (a1 : Int32) (K : Int32 → St → Prop) (hw : w_X10_isAct σ a1 K) : Met l yX10_isAct wsX10_isAct rm_X10_isAct (va_Pc [.ref (ad 0), .int a1] (fun U => U.heap.size = sz ∧ inW D (wdM ad cI) [(cI, .int)] σ U)) (va_Qi (fun r u => zb r ∧ K r u) (inW D (wdM ad cI) [(cI, .int)]) (AW ad 40 sz)) 0 0 (AW ad 40 sz) := by
  refine Met.ofW (cc := cX10_isAct) (maxL := 2) (ret := (some .boolean)) (by decide) rfl ?_
  intro p e s m args below meth c s₁ B hml hv
  obtain ⟨rfl, hsz, ⟨hP, hK⟩⟩ := hv
  have F : CallFix p m c cX10_isAct 2 s ([.ref (ad 0), .int a1] : List Value).toArray wsX10_isAct RX10 := ⟨B.exec, B.bytes, hml, findClass_of_methodNamed B.named, atoms_spec (ws := wsX10_isAct) B.pre⟩
  have hx := F.1
  have hb := F.2.1
  have hown := F.2.2.2.1
  have hts := F.2.2.2.2
  have hr := B.returns
  have hlocks := B.notSynchronized
  subst hsz
  have hDs : ∀ σ, va_D (AW ad 40 s.heap.size) ((wdM ad cI) σ) := fun σ => wdM_D hap σ
  have hS : va_S (AW ad 40 s.heap.size) s.heap s.heap [] := va_S.rf
  have iw_X10 : ∀ w ∈ u_ws RX10 TX10 57, w ∈ wsX10_isAct := by decide +kernel
  have f_f127 := hts (.fieldLink RX10 127 "TokenFloorModel" "acts" "I") (by decide +kernel)
  have hl := lv_entry ([.ref (ad 0), .int a1]) (n := 2) (Nat.le_of_ble_eq_true rfl)
  rw [lg_entry_eq]
  generalize (lg_sl ([.ref (ad 0), .int a1]) ++ List.replicate (2 - (lg_sl ([.ref (ad 0), .int a1])).length) Slot.unset).toArray = ls at hl ⊢
  have hl : lv_has ls 2 [(0, .ref (ad 0)), (1, .int a1)] := hl
  have key : ∀ (H : Heap), va_P D vwCl ((wdM ad cI) σ) H → va_S (AW ad 40 s.heap.size) s.heap H [] → W p l e (headSpec wsX10_isAct rm_X10_isAct).room s m ([.ref (ad 0), .int a1] : List Value).toArray below meth c H [] 0 0 (MQ below (va_Qi (fun r u => zb r ∧ K r u) (inW D (wdM ad cI) [(cI, .int)]) (AW ad 40 s.heap.size)) ([.ref (ad 0), .int a1] : List Value).toArray s 0 0 (AW ad 40 s.heap.size)) (F0 m 0 ls []) := by
    intro H hP hS
    unfold w_X10_isAct at hw
    refine lv_iload_n hx hb dX10_isAct_0 rfl (lv_at hl 1 rfl) ?_
    refine lv_iconst (v := 0) hx hb dX10_isAct_1 (by decide) ?_
    refine lv_aload_n hx hb dX10_isAct_2 rfl (lv_at hl 0 rfl) ?_
    refine gM_X10_acts F hK iw_X10 hP f_f127 dX10_isAct_3 ?_
    refine W.eq (g2 := F0 m 6 ls [.int (gS σ 0), .int 0, .int a1]) rfl ?_
    refine lv_iconst (v := 1) hx hb dX10_isAct_6 (by decide) ?_
    refine lv_isub hx hb dX10_isAct_7 ?_
    refine csI (As := [.int a1, .int 0, .int ((gS σ 0) - 1)]) (rest := []) F hK hP hS (c_X10_in l D ad cI hap H.size _ _ _ _ _ hw) (va_cwS 3 hts gX10_isAct_X10_in rfl rfl rfl (by decide +kernel) ⟨Nat.le_of_ble_eq_true rfl, Nat.le_of_ble_eq_true rfl⟩) rfl hl.1 rfl (Nat.le_of_ble_eq_true rfl) dX10_isAct_8 ⟨Nat.zero_le _, Nat.zero_le _⟩ (fun r_2 u_1 H locs hw hP hS => ?_)
    obtain ⟨zr_2, hw⟩ := hw
    exact rtZ F hr hlocks hK hw zr_2 hP hS dX10_isAct_11
  exact key s.heap hP hS

abbrev rm_X10_portsOf : Room := { frames := 1, cells := 0, slots := 0, locals := 22 }
set_option maxHeartbeats 4000000 in
set_option maxRecDepth 100000 in
theorem c_X10_portsOf (l : Launch) (D : va_G) (ad : Nat → Nat) (cI : ClassId) (hap : apart ad 40) (sz : Nat) (σ : St) (a1 : Int32) (a2 : Int32) (K : Int32 → St → Prop) (hw : w_X10_portsOf σ a1 a2 K) : Met l yX10_portsOf wsX10_portsOf rm_X10_portsOf (va_Pc [.int a1, .int a2] (fun U => U.heap.size = sz ∧ inW D (wdM ad cI) [(cI, .int)] σ U)) (va_Qi K (inW D (wdM ad cI) [(cI, .int)]) (AW ad 40 sz)) 0 0 (AW ad 40 sz) := by
  refine Met.ofW (cc := cX10_portsOf) (maxL := 2) (ret := (some .int)) (by decide) rfl ?_
  intro p e s m args below meth c s₁ B hml hv
  obtain ⟨rfl, hsz, ⟨hP, hK⟩⟩ := hv
  have F : CallFix p m c cX10_portsOf 2 s ([.int a1, .int a2] : List Value).toArray wsX10_portsOf RX10 := ⟨B.exec, B.bytes, hml, findClass_of_methodNamed B.named, atoms_spec (ws := wsX10_portsOf) B.pre⟩
  have hx := F.1
  have hb := F.2.1
  have hown := F.2.2.2.1
  have hts := F.2.2.2.2
  have hr := B.returns
  have hlocks := B.notSynchronized
  subst hsz
  have hDs : ∀ σ, va_D (AW ad 40 s.heap.size) ((wdM ad cI) σ) := fun σ => wdM_D hap σ
  have hS : va_S (AW ad 40 s.heap.size) s.heap s.heap [] := va_S.rf
  have hl := lv_entry ([.int a1, .int a2]) (n := 2) (Nat.le_of_ble_eq_true rfl)
  rw [lg_entry_eq]
  generalize (lg_sl ([.int a1, .int a2]) ++ List.replicate (2 - (lg_sl ([.int a1, .int a2])).length) Slot.unset).toArray = ls at hl ⊢
  have hl : lv_has ls 2 [(0, .int a1), (1, .int a2)] := hl
  have key : ∀ (H : Heap), va_P D vwCl ((wdM ad cI) σ) H → va_S (AW ad 40 s.heap.size) s.heap H [] → W p l e (headSpec wsX10_portsOf rm_X10_portsOf).room s m ([.int a1, .int a2] : List Value).toArray below meth c H [] 0 0 (MQ below (va_Qi K (inW D (wdM ad cI) [(cI, .int)]) (AW ad 40 s.heap.size)) ([.int a1, .int a2] : List Value).toArray s 0 0 (AW ad 40 s.heap.size)) (F0 m 0 ls []) := by
    intro H hP hS
    unfold w_X10_portsOf at hw
    refine lv_iload_n hx hb dX10_portsOf_0 rfl (lv_at hl 0 rfl) ?_
    refine lv_bipush (v := 14) hx hb dX10_portsOf_1 (by decide) ?_
    refine lv_icmp_ne (tgt := 8) hx hb dX10_portsOf_3 (by decide) (fun c_7 => ?_) (fun c_7 => ?_)
    · have hw := hw.1 c_7
      refine lv_iload_n hx hb dX10_portsOf_8 rfl (lv_at hl 0 rfl) ?_
      refine lv_bipush (v := 19) hx hb dX10_portsOf_9 (by decide) ?_
      refine lv_icmp_ne (tgt := 16) hx hb dX10_portsOf_11 (by decide) (fun c_6 => ?_) (fun c_6 => ?_)
      · have hw := hw.1 c_6
        refine lv_iload_n hx hb dX10_portsOf_16 rfl (lv_at hl 0 rfl) ?_
        refine lv_iconst (v := 2) hx hb dX10_portsOf_17 (by decide) ?_
        refine lv_bipush (v := 8) hx hb dX10_portsOf_18 (by decide) ?_
        refine csI (As := [.int a1, .int 2, .int 8]) (rest := []) F hK hP hS (c_X10_in l D ad cI hap H.size _ _ _ _ _ hw) (va_cwS 3 hts gX10_portsOf_X10_in rfl rfl rfl (by decide +kernel) ⟨Nat.le_of_ble_eq_true rfl, Nat.le_of_ble_eq_true rfl⟩) rfl hl.1 rfl (Nat.le_of_ble_eq_true rfl) dX10_portsOf_20 ⟨Nat.zero_le _, Nat.zero_le _⟩ (fun r_2 u_1 H locs hw hP hS => ?_)
        obtain ⟨zr_2, hw⟩ := hw
        refine lv_if_ne (tgt := 38) hx hb dX10_portsOf_23 (by decide) (fun c_5 => ?_) (fun c_5 => ?_)
        · have hw := hw.1 c_5
          refine lv_iconst (v := 2) hx hb dX10_portsOf_38 (by decide) ?_
          refine lv_goto (tgt := 43) hx hb dX10_portsOf_39 (by decide) ?_
          exact rtI F hr hlocks hK hw hP hS dX10_portsOf_43
        · have hw := hw.2 c_5
          refine lv_iload_n hx hb dX10_portsOf_26 rfl (lv_at hl 0 rfl) ?_
          refine lv_bipush (v := 10) hx hb dX10_portsOf_27 (by decide) ?_
          refine lv_icmp_eq (tgt := 38) hx hb dX10_portsOf_29 (by decide) (fun c_4 => ?_) (fun c_4 => ?_)
          · have hw := hw.1 c_4
            refine lv_iconst (v := 2) hx hb dX10_portsOf_38 (by decide) ?_
            refine lv_goto (tgt := 43) hx hb dX10_portsOf_39 (by decide) ?_
            exact rtI F hr hlocks hK hw hP hS dX10_portsOf_43
          · have hw := hw.2 c_4
            refine lv_iload_n hx hb dX10_portsOf_32 rfl (lv_at hl 0 rfl) ?_
            refine lv_bipush (v := 18) hx hb dX10_portsOf_33 (by decide) ?_
            refine lv_icmp_ne (tgt := 42) hx hb dX10_portsOf_35 (by decide) (fun c_3 => ?_) (fun c_3 => ?_)
            · have hw := hw.1 c_3
              refine lv_iconst (v := 1) hx hb dX10_portsOf_42 (by decide) ?_
              exact rtI F hr hlocks hK hw hP hS dX10_portsOf_43
            · have hw := hw.2 c_3
              refine lv_iconst (v := 2) hx hb dX10_portsOf_38 (by decide) ?_
              refine lv_goto (tgt := 43) hx hb dX10_portsOf_39 (by decide) ?_
              exact rtI F hr hlocks hK hw hP hS dX10_portsOf_43
      · have hw := hw.2 c_6
        refine lv_iconst (v := 3) hx hb dX10_portsOf_14 (by decide) ?_
        exact rtI F hr hlocks hK hw hP hS dX10_portsOf_15
    · have hw := hw.2 c_7
      refine lv_iload_n hx hb dX10_portsOf_6 rfl (lv_at hl 1 rfl) ?_
      exact rtI F hr hlocks hK hw hP hS dX10_portsOf_7
  exact key s.heap hP hS

abbrev rm_X10_act : Room := { frames := 2, cells := 0, slots := 0, locals := 43 }
set_option maxHeartbeats 4000000 in
set_option maxRecDepth 100000 in
theorem c_X10_act (l : Launch) (D : va_G) (ad : Nat → Nat) (cI : ClassId) (hap : apart ad 40) (sz : Nat) (σ : St) (a1 : Int32) (a2 : Int32) (a3 : Int32) (K : Int32 → St → Prop) (hw : w_X10_act σ a1 a2 a3 K) : Met l yX10_act wsX10_act rm_X10_act (va_Pc [.ref (ad 0), .int a1, .int a2, .int a3] (fun U => U.heap.size = sz ∧ inW D (wdM ad cI) [(cI, .int)] σ U)) (va_Qi K (inW D (wdM ad cI) [(cI, .int)]) (AW ad 40 sz)) 0 0 (AW ad 40 sz) := by
  refine Met.ofW (cc := cX10_act) (maxL := 4) (ret := (some .int)) (by decide) rfl ?_
  intro p e s m args below meth c s₁ B hml hv
  obtain ⟨rfl, hsz, ⟨hP, hK⟩⟩ := hv
  have F : CallFix p m c cX10_act 4 s ([.ref (ad 0), .int a1, .int a2, .int a3] : List Value).toArray wsX10_act RX10 := ⟨B.exec, B.bytes, hml, findClass_of_methodNamed B.named, atoms_spec (ws := wsX10_act) B.pre⟩
  have hx := F.1
  have hb := F.2.1
  have hown := F.2.2.2.1
  have hts := F.2.2.2.2
  have hr := B.returns
  have hlocks := B.notSynchronized
  subst hsz
  have hDs : ∀ σ, va_D (AW ad 40 s.heap.size) ((wdM ad cI) σ) := fun σ => wdM_D hap σ
  have hS : va_S (AW ad 40 s.heap.size) s.heap s.heap [] := va_S.rf
  have iw_X10 : ∀ w ∈ u_ws RX10 TX10 57, w ∈ wsX10_act := by decide +kernel
  have f_f127 := hts (.fieldLink RX10 127 "TokenFloorModel" "acts" "I") (by decide +kernel)
  have f_f13 := hts (.fieldLink RX10 13 "TokenFloorModel" "own" "[I") (by decide +kernel)
  have f_f16 := hts (.fieldLink RX10 16 "TokenFloorModel" "ports" "[I") (by decide +kernel)
  have f_f7 := hts (.fieldLink RX10 7 "TokenFloorModel" "kind" "[I") (by decide +kernel)
  have lab_93 : ∀ (σ : St) (x1 : Int32) (x2 : Int32) (x3 : Int32) (H : Heap) (locs : List Loc) (ls : Array Slot), b_X10_act_93 K σ x1 x2 x3 → va_P D vwCl ((wdM ad cI) σ) H → va_S (AW ad 40 s.heap.size) s.heap H locs → lv_has ls 4 [(0, .ref (ad 0)), (1, .int x1), (2, .int x2), (3, .int x3)] → W p l e (headSpec wsX10_act rm_X10_act).room s m ([.ref (ad 0), .int a1, .int a2, .int a3] : List Value).toArray below meth c H locs 0 0 (MQ below (va_Qi K (inW D (wdM ad cI) [(cI, .int)]) (AW ad 40 s.heap.size)) ([.ref (ad 0), .int a1, .int a2, .int a3] : List Value).toArray s 0 0 (AW ad 40 s.heap.size)) (F0 m 93 ls []) := by
    intro σ x1 x2 x3 H locs ls hw hP hS hl
    unfold b_X10_act_93 at hw
    refine lv_aload_n hx hb dX10_act_93 rfl (lv_at hl 0 rfl) ?_
    refine gM_X10_kind F hK iw_X10 hP f_f7 dX10_act_94 ?_
    refine lv_aload_n hx hb dX10_act_97 rfl (lv_at hl 0 rfl) ?_
    refine gM_X10_acts F hK iw_X10 hP f_f127 dX10_act_98 ?_
    refine W.eq (g2 := F0 m 101 ls [.int (gS σ 0), .ref (ad 1)]) rfl ?_
    refine lv_iload_n hx hb dX10_act_101 rfl (lv_at hl 1 rfl) ?_
    obtain ⟨i_5, hw⟩ := hw
    refine sM_X10_kind F hK hP hDs hS i_5 dX10_act_102 (fun H locs hP hS => ?_)
    refine lv_aload_n hx hb dX10_act_103 rfl (lv_at hl 0 rfl) ?_
    refine gM_X10_own F hK iw_X10 hP f_f13 dX10_act_104 ?_
    refine lv_aload_n hx hb dX10_act_107 rfl (lv_at hl 0 rfl) ?_
    refine gM_X10_acts F hK iw_X10 hP f_f127 dX10_act_108 ?_
    refine W.eq (g2 := F0 m 111 ls [.int (gS σ 0), .ref (ad 2)]) rfl ?_
    refine lv_iload_n hx hb dX10_act_111 rfl (lv_at hl 2 rfl) ?_
    obtain ⟨i_4, hw⟩ := hw
    refine sM_X10_own F hK hP hDs hS i_4 dX10_act_112 (fun H locs hP hS => ?_)
    refine lv_aload_n hx hb dX10_act_113 rfl (lv_at hl 0 rfl) ?_
    refine gM_X10_ports F hK iw_X10 hP f_f16 dX10_act_114 ?_
    refine lv_aload_n hx hb dX10_act_117 rfl (lv_at hl 0 rfl) ?_
    refine gM_X10_acts F hK iw_X10 hP f_f127 dX10_act_118 ?_
    refine W.eq (g2 := F0 m 121 ls [.int (gS σ 0), .ref (ad 3)]) rfl ?_
    refine lv_iload_n hx hb dX10_act_121 rfl (lv_at hl 1 rfl) ?_
    refine lv_iload_n hx hb dX10_act_122 rfl (lv_at hl 3 rfl) ?_
    refine csI (As := [.int x1, .int x3]) (rest := [.int (gS σ 0), .ref (ad 3)]) F hK hP hS (c_X10_portsOf l D ad cI hap H.size _ _ _ _ hw) (va_cwS 2 hts gX10_act_X10_portsOf rfl rfl rfl (by decide +kernel) ⟨Nat.le_of_ble_eq_true rfl, Nat.le_of_ble_eq_true rfl⟩) rfl hl.1 rfl (Nat.le_of_ble_eq_true rfl) dX10_act_123 ⟨Nat.zero_le _, Nat.zero_le _⟩ (fun r_2 u_1 H locs hw hP hS => ?_)
    obtain ⟨i_3, hw⟩ := hw
    refine sM_X10_ports F hK hP hDs hS i_3 dX10_act_126 (fun H locs hP hS => ?_)
    refine lv_aload_n hx hb dX10_act_127 rfl (lv_at hl 0 rfl) ?_
    refine lv_dup hx hb dX10_act_128 rfl ?_
    refine gM_X10_acts F hK iw_X10 hP f_f127 dX10_act_129 ?_
    refine W.eq (g2 := F0 m 132 ls [.int (gS u_1 0), .ref (ad 0)]) rfl ?_
    refine lv_iconst (v := 1) hx hb dX10_act_132 (by decide) ?_
    refine lv_iadd hx hb dX10_act_133 ?_
    refine pM_X10_acts F hK iw_X10 hP hDs hS f_f127 dX10_act_134 (fun H locs hP hS => ?_)
    refine lv_aload_n hx hb dX10_act_137 rfl (lv_at hl 0 rfl) ?_
    refine gM_X10_acts F hK iw_X10 hP f_f127 dX10_act_138 ?_
    refine W.eq (g2 := F0 m 141 ls [.int ((gS u_1 0) + 1)]) rfl ?_
    refine lv_iconst (v := 1) hx hb dX10_act_141 (by decide) ?_
    refine lv_isub hx hb dX10_act_142 ?_
    exact rtI F hr hlocks hK hw hP hS dX10_act_143
  have lab_76 : ∀ (σ : St) (x1 : Int32) (x2 : Int32) (x3 : Int32) (H : Heap) (locs : List Loc) (ls : Array Slot), b_X10_act_76 K σ x1 x2 x3 → va_P D vwCl ((wdM ad cI) σ) H → va_S (AW ad 40 s.heap.size) s.heap H locs → lv_has ls 4 [(0, .ref (ad 0)), (1, .int x1), (2, .int x2), (3, .int x3)] → W p l e (headSpec wsX10_act rm_X10_act).room s m ([.ref (ad 0), .int a1, .int a2, .int a3] : List Value).toArray below meth c H locs 0 0 (MQ below (va_Qi K (inW D (wdM ad cI) [(cI, .int)]) (AW ad 40 s.heap.size)) ([.ref (ad 0), .int a1, .int a2, .int a3] : List Value).toArray s 0 0 (AW ad 40 s.heap.size)) (F0 m 76 ls []) := by
    intro σ x1 x2 x3 H locs ls hw hP hS hl
    unfold b_X10_act_76 at hw
    refine lv_iload_n hx hb dX10_act_76 rfl (lv_at hl 1 rfl) ?_
    refine lv_bipush (v := 14) hx hb dX10_act_77 (by decide) ?_
    refine lv_icmp_ne (tgt := 93) hx hb dX10_act_79 (by decide) (fun c_9 => ?_) (fun c_9 => ?_)
    · have hw := hw.1 c_9
      exact lab_93 _ _ _ _ _ _ _ hw hP hS (lv_sub hl [0, 1, 2, 3] rfl)
    · have hw := hw.2 c_9
      refine lv_iload_n hx hb dX10_act_82 rfl (lv_at hl 3 rfl) ?_
      refine lv_iconst (v := 1) hx hb dX10_act_83 (by decide) ?_
      refine lv_iconst (v := 3) hx hb dX10_act_84 (by decide) ?_
      refine csI (As := [.int x3, .int 1, .int 3]) (rest := []) F hK hP hS (c_X10_in l D ad cI hap H.size _ _ _ _ _ hw) (va_cwS 3 hts gX10_act_X10_in rfl rfl rfl (by decide +kernel) ⟨Nat.le_of_ble_eq_true rfl, Nat.le_of_ble_eq_true rfl⟩) rfl hl.1 rfl (Nat.le_of_ble_eq_true rfl) dX10_act_85 ⟨Nat.zero_le _, Nat.zero_le _⟩ (fun r_7 u_6 H locs hw hP hS => ?_)
      obtain ⟨zr_7, hw⟩ := hw
      refine lv_if_ne (tgt := 93) hx hb dX10_act_88 (by decide) (fun c_8 => ?_) (fun c_8 => ?_)
      · have hw := hw.1 c_8
        exact lab_93 _ _ _ _ _ _ _ hw hP hS (lv_sub hl [0, 1, 2, 3] rfl)
      · have hw := hw.2 c_8
        refine lv_iconst (v := (-1)) hx hb dX10_act_91 (by decide) ?_
        exact rtI F hr hlocks hK hw hP hS dX10_act_92
  have lab_50 : ∀ (σ : St) (x1 : Int32) (x2 : Int32) (x3 : Int32) (H : Heap) (locs : List Loc) (ls : Array Slot), b_X10_act_50 K σ x1 x2 x3 → va_P D vwCl ((wdM ad cI) σ) H → va_S (AW ad 40 s.heap.size) s.heap H locs → lv_has ls 4 [(0, .ref (ad 0)), (1, .int x1), (2, .int x2), (3, .int x3)] → W p l e (headSpec wsX10_act rm_X10_act).room s m ([.ref (ad 0), .int a1, .int a2, .int a3] : List Value).toArray below meth c H locs 0 0 (MQ below (va_Qi K (inW D (wdM ad cI) [(cI, .int)]) (AW ad 40 s.heap.size)) ([.ref (ad 0), .int a1, .int a2, .int a3] : List Value).toArray s 0 0 (AW ad 40 s.heap.size)) (F0 m 50 ls []) := by
    intro σ x1 x2 x3 H locs ls hw hP hS hl
    unfold b_X10_act_50 at hw
    refine lv_iload_n hx hb dX10_act_50 rfl (lv_at hl 1 rfl) ?_
    refine lv_bipush (v := 15) hx hb dX10_act_51 (by decide) ?_
    refine lv_icmp_ne (tgt := 76) hx hb dX10_act_53 (by decide) (fun c_14 => ?_) (fun c_14 => ?_)
    · have hw := hw.1 c_14
      exact lab_76 _ _ _ _ _ _ _ hw hP hS (lv_sub hl [0, 1, 2, 3] rfl)
    · have hw := hw.2 c_14
      refine lv_iload_n hx hb dX10_act_56 rfl (lv_at hl 2 rfl) ?_
      refine lv_iconst (v := 0) hx hb dX10_act_57 (by decide) ?_
      refine lv_bipush (v := 99) hx hb dX10_act_58 (by decide) ?_
      refine csI (As := [.int x2, .int 0, .int 99]) (rest := []) F hK hP hS (c_X10_in l D ad cI hap H.size _ _ _ _ _ hw) (va_cwS 3 hts gX10_act_X10_in rfl rfl rfl (by decide +kernel) ⟨Nat.le_of_ble_eq_true rfl, Nat.le_of_ble_eq_true rfl⟩) rfl hl.1 rfl (Nat.le_of_ble_eq_true rfl) dX10_act_60 ⟨Nat.zero_le _, Nat.zero_le _⟩ (fun r_11 u_10 H locs hw hP hS => ?_)
      obtain ⟨zr_11, hw⟩ := hw
      refine lv_if_eq (tgt := 74) hx hb dX10_act_63 (by decide) (fun c_13 => ?_) (fun c_13 => ?_)
      · have hw := hw.1 c_13
        refine lv_iconst (v := (-1)) hx hb dX10_act_74 (by decide) ?_
        exact rtI F hr hlocks hK hw hP hS dX10_act_75
      · have hw := hw.2 c_13
        refine lv_iload_n hx hb dX10_act_66 rfl (lv_at hl 2 rfl) ?_
        refine lv_bipush (v := 10) hx hb dX10_act_67 (by decide) ?_
        refine lv_irem hx hb dX10_act_69 (by decide) ?_
        refine lv_iconst (v := 2) hx hb dX10_act_70 (by decide) ?_
        refine lv_icmp_le (tgt := 76) hx hb dX10_act_71 (by decide) (fun c_12 => ?_) (fun c_12 => ?_)
        · have hw := hw.1 c_12
          exact lab_76 _ _ _ _ _ _ _ hw hP hS (lv_sub hl [0, 1, 2, 3] rfl)
        · have hw := hw.2 c_12
          refine lv_iconst (v := (-1)) hx hb dX10_act_74 (by decide) ?_
          exact rtI F hr hlocks hK hw hP hS dX10_act_75
  have hl := lv_entry ([.ref (ad 0), .int a1, .int a2, .int a3]) (n := 4) (Nat.le_of_ble_eq_true rfl)
  rw [lg_entry_eq]
  generalize (lg_sl ([.ref (ad 0), .int a1, .int a2, .int a3]) ++ List.replicate (4 - (lg_sl ([.ref (ad 0), .int a1, .int a2, .int a3])).length) Slot.unset).toArray = ls at hl ⊢
  have hl : lv_has ls 4 [(0, .ref (ad 0)), (1, .int a1), (2, .int a2), (3, .int a3)] := hl
  have key : ∀ (H : Heap), va_P D vwCl ((wdM ad cI) σ) H → va_S (AW ad 40 s.heap.size) s.heap H [] → W p l e (headSpec wsX10_act rm_X10_act).room s m ([.ref (ad 0), .int a1, .int a2, .int a3] : List Value).toArray below meth c H [] 0 0 (MQ below (va_Qi K (inW D (wdM ad cI) [(cI, .int)]) (AW ad 40 s.heap.size)) ([.ref (ad 0), .int a1, .int a2, .int a3] : List Value).toArray s 0 0 (AW ad 40 s.heap.size)) (F0 m 0 ls []) := by
    intro H hP hS
    unfold w_X10_act at hw
    refine lv_iload_n hx hb dX10_act_0 rfl (lv_at hl 1 rfl) ?_
    refine lv_iconst (v := 0) hx hb dX10_act_1 (by decide) ?_
    refine lv_bipush (v := 21) hx hb dX10_act_2 (by decide) ?_
    refine csI (As := [.int a1, .int 0, .int 21]) (rest := []) F hK hP hS (c_X10_in l D ad cI hap H.size _ _ _ _ _ hw) (va_cwS 3 hts gX10_act_X10_in rfl rfl rfl (by decide +kernel) ⟨Nat.le_of_ble_eq_true rfl, Nat.le_of_ble_eq_true rfl⟩) rfl hl.1 rfl (Nat.le_of_ble_eq_true rfl) dX10_act_4 ⟨Nat.zero_le _, Nat.zero_le _⟩ (fun r_16 u_15 H locs hw hP hS => ?_)
    obtain ⟨zr_16, hw⟩ := hw
    refine lv_if_eq (tgt := 19) hx hb dX10_act_7 (by decide) (fun c_28 => ?_) (fun c_28 => ?_)
    · have hw := hw.1 c_28
      refine lv_iconst (v := (-1)) hx hb dX10_act_19 (by decide) ?_
      exact rtI F hr hlocks hK hw hP hS dX10_act_20
    · have hw := hw.2 c_28
      refine lv_aload_n hx hb dX10_act_10 rfl (lv_at hl 0 rfl) ?_
      refine gM_X10_acts F hK iw_X10 hP f_f127 dX10_act_11 ?_
      refine W.eq (g2 := F0 m 14 ls [.int (gS u_15 0)]) rfl ?_
      refine lv_bipush (v := 80) hx hb dX10_act_14 (by decide) ?_
      refine lv_icmp_ne (tgt := 21) hx hb dX10_act_16 (by decide) (fun c_27 => ?_) (fun c_27 => ?_)
      · have hw := hw.1 c_27
        refine lv_iload_n hx hb dX10_act_21 rfl (lv_at hl 1 rfl) ?_
        refine lv_bipush (v := 11) hx hb dX10_act_22 (by decide) ?_
        refine lv_bipush (v := 14) hx hb dX10_act_24 (by decide) ?_
        refine csI (As := [.int a1, .int 11, .int 14]) (rest := []) F hK hP hS (c_X10_in l D ad cI hap H.size _ _ _ _ _ hw) (va_cwS 3 hts gX10_act_X10_in rfl rfl rfl (by decide +kernel) ⟨Nat.le_of_ble_eq_true rfl, Nat.le_of_ble_eq_true rfl⟩) rfl hl.1 rfl (Nat.le_of_ble_eq_true rfl) dX10_act_26 ⟨Nat.zero_le _, Nat.zero_le _⟩ (fun r_18 u_17 H locs hw hP hS => ?_)
        obtain ⟨zr_18, hw⟩ := hw
        refine lv_if_ne (tgt := 38) hx hb dX10_act_29 (by decide) (fun c_26 => ?_) (fun c_26 => ?_)
        · have hw := hw.1 c_26
          refine lv_iload_n hx hb dX10_act_38 rfl (lv_at hl 2 rfl) ?_
          refine lv_iconst (v := 0) hx hb dX10_act_39 (by decide) ?_
          refine lv_bipush (v := 9) hx hb dX10_act_40 (by decide) ?_
          refine csI (As := [.int a2, .int 0, .int 9]) (rest := []) F hK hP hS (c_X10_in l D ad cI hap H.size _ _ _ _ _ hw) (va_cwS 3 hts gX10_act_X10_in rfl rfl rfl (by decide +kernel) ⟨Nat.le_of_ble_eq_true rfl, Nat.le_of_ble_eq_true rfl⟩) rfl hl.1 rfl (Nat.le_of_ble_eq_true rfl) dX10_act_42 ⟨Nat.zero_le _, Nat.zero_le _⟩ (fun r_20 u_19 H locs hw hP hS => ?_)
          obtain ⟨zr_20, hw⟩ := hw
          refine lv_if_ne (tgt := 50) hx hb dX10_act_45 (by decide) (fun c_21 => ?_) (fun c_21 => ?_)
          · have hw := hw.1 c_21
            exact lab_50 _ _ _ _ _ _ _ hw hP hS (lv_sub hl [0, 1, 2, 3] rfl)
          · have hw := hw.2 c_21
            refine lv_iconst (v := (-1)) hx hb dX10_act_48 (by decide) ?_
            exact rtI F hr hlocks hK hw hP hS dX10_act_49
        · have hw := hw.2 c_26
          refine lv_iload_n hx hb dX10_act_32 rfl (lv_at hl 1 rfl) ?_
          refine lv_bipush (v := 21) hx hb dX10_act_33 (by decide) ?_
          refine lv_icmp_ne (tgt := 50) hx hb dX10_act_35 (by decide) (fun c_25 => ?_) (fun c_25 => ?_)
          · have hw := hw.1 c_25
            exact lab_50 _ _ _ _ _ _ _ hw hP hS (lv_sub hl [0, 1, 2, 3] rfl)
          · have hw := hw.2 c_25
            refine lv_iload_n hx hb dX10_act_38 rfl (lv_at hl 2 rfl) ?_
            refine lv_iconst (v := 0) hx hb dX10_act_39 (by decide) ?_
            refine lv_bipush (v := 9) hx hb dX10_act_40 (by decide) ?_
            refine csI (As := [.int a2, .int 0, .int 9]) (rest := []) F hK hP hS (c_X10_in l D ad cI hap H.size _ _ _ _ _ hw) (va_cwS 3 hts gX10_act_X10_in rfl rfl rfl (by decide +kernel) ⟨Nat.le_of_ble_eq_true rfl, Nat.le_of_ble_eq_true rfl⟩) rfl hl.1 rfl (Nat.le_of_ble_eq_true rfl) dX10_act_42 ⟨Nat.zero_le _, Nat.zero_le _⟩ (fun r_23 u_22 H locs hw hP hS => ?_)
            obtain ⟨zr_23, hw⟩ := hw
            refine lv_if_ne (tgt := 50) hx hb dX10_act_45 (by decide) (fun c_24 => ?_) (fun c_24 => ?_)
            · have hw := hw.1 c_24
              exact lab_50 _ _ _ _ _ _ _ hw hP hS (lv_sub hl [0, 1, 2, 3] rfl)
            · have hw := hw.2 c_24
              refine lv_iconst (v := (-1)) hx hb dX10_act_48 (by decide) ?_
              exact rtI F hr hlocks hK hw hP hS dX10_act_49
      · have hw := hw.2 c_27
        refine lv_iconst (v := (-1)) hx hb dX10_act_19 (by decide) ?_
        exact rtI F hr hlocks hK hw hP hS dX10_act_20
  exact key s.heap hP hS

abbrev rm_X10_way : Room := { frames := 2, cells := 0, slots := 0, locals := 43 }
set_option maxHeartbeats 4000000 in
set_option maxRecDepth 100000 in
theorem c_X10_way (l : Launch) (D : va_G) (ad : Nat → Nat) (cI : ClassId) (hap : apart ad 40) (sz : Nat) (σ : St) (a1 : Int32) (a2 : Int32) (a3 : Int32) (a4 : Int32) (K : Int32 → St → Prop) (hw : w_X10_way σ a1 a2 a3 a4 K) : Met l yX10_way wsX10_way rm_X10_way (va_Pc [.ref (ad 0), .int a1, .int a2, .int a3, .int a4] (fun U => U.heap.size = sz ∧ inW D (wdM ad cI) [(cI, .int)] σ U)) (va_Qi K (inW D (wdM ad cI) [(cI, .int)]) (AW ad 40 sz)) 0 0 (AW ad 40 sz) := by
  refine Met.ofW (cc := cX10_way) (maxL := 5) (ret := (some .int)) (by decide) rfl ?_
  intro p e s m args below meth c s₁ B hml hv
  obtain ⟨rfl, hsz, ⟨hP, hK⟩⟩ := hv
  have F : CallFix p m c cX10_way 5 s ([.ref (ad 0), .int a1, .int a2, .int a3, .int a4] : List Value).toArray wsX10_way RX10 := ⟨B.exec, B.bytes, hml, findClass_of_methodNamed B.named, atoms_spec (ws := wsX10_way) B.pre⟩
  have hx := F.1
  have hb := F.2.1
  have hown := F.2.2.2.1
  have hts := F.2.2.2.2
  have hr := B.returns
  have hlocks := B.notSynchronized
  subst hsz
  have hDs : ∀ σ, va_D (AW ad 40 s.heap.size) ((wdM ad cI) σ) := fun σ => wdM_D hap σ
  have hS : va_S (AW ad 40 s.heap.size) s.heap s.heap [] := va_S.rf
  have iw_X10 : ∀ w ∈ u_ws RX10 TX10 57, w ∈ wsX10_way := by decide +kernel
  have f_f143 := hts (.fieldLink RX10 143 "TokenFloorModel" "ways" "I") (by decide +kernel)
  have f_f16 := hts (.fieldLink RX10 16 "TokenFloorModel" "ports" "[I") (by decide +kernel)
  have f_f19 := hts (.fieldLink RX10 19 "TokenFloorModel" "wayFrom" "[I") (by decide +kernel)
  have f_f22 := hts (.fieldLink RX10 22 "TokenFloorModel" "waySide" "[I") (by decide +kernel)
  have f_f25 := hts (.fieldLink RX10 25 "TokenFloorModel" "wayTo" "[I") (by decide +kernel)
  have f_f28 := hts (.fieldLink RX10 28 "TokenFloorModel" "wayPort" "[I") (by decide +kernel)
  have f_f7 := hts (.fieldLink RX10 7 "TokenFloorModel" "kind" "[I") (by decide +kernel)
  have lab_34 : ∀ (σ : St) (x1 : Int32) (x2 : Int32) (x3 : Int32) (x4 : Int32) (t0 : Int32) (t1 : Int32) (t2 : Int32) (H : Heap) (locs : List Loc) (ls : Array Slot), b_X10_way_34 K σ x1 x2 x3 x4 t0 t1 t2 → va_P D vwCl ((wdM ad cI) σ) H → va_S (AW ad 40 s.heap.size) s.heap H locs → lv_has ls 5 [(0, .ref (ad 0)), (1, .int x1), (2, .int x2), (3, .int x3), (4, .int x4)] → W p l e (headSpec wsX10_way rm_X10_way).room s m ([.ref (ad 0), .int a1, .int a2, .int a3, .int a4] : List Value).toArray below meth c H locs 0 0 (MQ below (va_Qi K (inW D (wdM ad cI) [(cI, .int)]) (AW ad 40 s.heap.size)) ([.ref (ad 0), .int a1, .int a2, .int a3, .int a4] : List Value).toArray s 0 0 (AW ad 40 s.heap.size)) (F0 m 34 ls [.int t2, .int t1, .int t0]) := by
    intro σ x1 x2 x3 x4 t0 t1 t2 H locs ls hw hP hS hl
    unfold b_X10_way_34 at hw
    refine csI (As := [.int t0, .int t1, .int t2]) (rest := []) F hK hP hS (c_X10_in l D ad cI hap H.size _ _ _ _ _ hw) (va_cwS 3 hts gX10_way_X10_in rfl rfl rfl (by decide +kernel) ⟨Nat.le_of_ble_eq_true rfl, Nat.le_of_ble_eq_true rfl⟩) rfl hl.1 rfl (Nat.le_of_ble_eq_true rfl) dX10_way_34 ⟨Nat.zero_le _, Nat.zero_le _⟩ (fun r_2 u_1 H locs hw hP hS => ?_)
    obtain ⟨zr_2, hw⟩ := hw
    refine lv_if_eq (tgt := 67) hx hb dX10_way_37 (by decide) (fun c_12 => ?_) (fun c_12 => ?_)
    · have hw := hw.1 c_12
      refine lv_iconst (v := (-1)) hx hb dX10_way_67 (by decide) ?_
      exact rtI F hr hlocks hK hw hP hS dX10_way_68
    · have hw := hw.2 c_12
      refine lv_iload hx hb dX10_way_40 (lv_at hl 4 rfl) ?_
      refine lv_iconst (v := 0) hx hb dX10_way_42 (by decide) ?_
      refine lv_aload_n hx hb dX10_way_43 rfl (lv_at hl 0 rfl) ?_
      refine gM_X10_ports F hK iw_X10 hP f_f16 dX10_way_44 ?_
      refine lv_iload_n hx hb dX10_way_47 rfl (lv_at hl 3 rfl) ?_
      obtain ⟨i_11, hw⟩ := hw
      refine lM_X10_ports F hK hP i_11 dX10_way_48 ?_
      refine lv_iconst (v := 1) hx hb dX10_way_49 (by decide) ?_
      refine lv_isub hx hb dX10_way_50 ?_
      refine csI (As := [.int x4, .int 0, .int ((gA u_1 2 (x3).toNatClampNeg) - 1)]) (rest := []) F hK hP hS (c_X10_in l D ad cI hap H.size _ _ _ _ _ hw) (va_cwS 3 hts gX10_way_X10_in rfl rfl rfl (by decide +kernel) ⟨Nat.le_of_ble_eq_true rfl, Nat.le_of_ble_eq_true rfl⟩) rfl hl.1 rfl (Nat.le_of_ble_eq_true rfl) dX10_way_51 ⟨Nat.zero_le _, Nat.zero_le _⟩ (fun r_4 u_3 H locs hw hP hS => ?_)
      obtain ⟨zr_4, hw⟩ := hw
      refine lv_if_eq (tgt := 67) hx hb dX10_way_54 (by decide) (fun c_10 => ?_) (fun c_10 => ?_)
      · have hw := hw.1 c_10
        refine lv_iconst (v := (-1)) hx hb dX10_way_67 (by decide) ?_
        exact rtI F hr hlocks hK hw hP hS dX10_way_68
      · have hw := hw.2 c_10
        refine lv_aload_n hx hb dX10_way_57 rfl (lv_at hl 0 rfl) ?_
        refine gM_X10_ways F hK iw_X10 hP f_f143 dX10_way_58 ?_
        refine W.eq (g2 := F0 m 61 ls [.int (gS u_3 1)]) rfl ?_
        refine lv_sipush (v := 300) hx hb dX10_way_61 (by decide) ?_
        refine lv_icmp_ne (tgt := 69) hx hb dX10_way_64 (by decide) (fun c_9 => ?_) (fun c_9 => ?_)
        · have hw := hw.1 c_9
          refine lv_aload_n hx hb dX10_way_69 rfl (lv_at hl 0 rfl) ?_
          refine gM_X10_wayFrom F hK iw_X10 hP f_f19 dX10_way_70 ?_
          refine lv_aload_n hx hb dX10_way_73 rfl (lv_at hl 0 rfl) ?_
          refine gM_X10_ways F hK iw_X10 hP f_f143 dX10_way_74 ?_
          refine W.eq (g2 := F0 m 77 ls [.int (gS u_3 1), .ref (ad 4)]) rfl ?_
          refine lv_iload_n hx hb dX10_way_77 rfl (lv_at hl 1 rfl) ?_
          obtain ⟨i_8, hw⟩ := hw
          refine sM_X10_wayFrom F hK hP hDs hS i_8 dX10_way_78 (fun H locs hP hS => ?_)
          refine lv_aload_n hx hb dX10_way_79 rfl (lv_at hl 0 rfl) ?_
          refine gM_X10_waySide F hK iw_X10 hP f_f22 dX10_way_80 ?_
          refine lv_aload_n hx hb dX10_way_83 rfl (lv_at hl 0 rfl) ?_
          refine gM_X10_ways F hK iw_X10 hP f_f143 dX10_way_84 ?_
          refine W.eq (g2 := F0 m 87 ls [.int (gS u_3 1), .ref (ad 5)]) rfl ?_
          refine lv_iload_n hx hb dX10_way_87 rfl (lv_at hl 2 rfl) ?_
          obtain ⟨i_7, hw⟩ := hw
          refine sM_X10_waySide F hK hP hDs hS i_7 dX10_way_88 (fun H locs hP hS => ?_)
          refine lv_aload_n hx hb dX10_way_89 rfl (lv_at hl 0 rfl) ?_
          refine gM_X10_wayTo F hK iw_X10 hP f_f25 dX10_way_90 ?_
          refine lv_aload_n hx hb dX10_way_93 rfl (lv_at hl 0 rfl) ?_
          refine gM_X10_ways F hK iw_X10 hP f_f143 dX10_way_94 ?_
          refine W.eq (g2 := F0 m 97 ls [.int (gS u_3 1), .ref (ad 6)]) rfl ?_
          refine lv_iload_n hx hb dX10_way_97 rfl (lv_at hl 3 rfl) ?_
          obtain ⟨i_6, hw⟩ := hw
          refine sM_X10_wayTo F hK hP hDs hS i_6 dX10_way_98 (fun H locs hP hS => ?_)
          refine lv_aload_n hx hb dX10_way_99 rfl (lv_at hl 0 rfl) ?_
          refine gM_X10_wayPort F hK iw_X10 hP f_f28 dX10_way_100 ?_
          refine lv_aload_n hx hb dX10_way_103 rfl (lv_at hl 0 rfl) ?_
          refine gM_X10_ways F hK iw_X10 hP f_f143 dX10_way_104 ?_
          refine W.eq (g2 := F0 m 107 ls [.int (gS u_3 1), .ref (ad 7)]) rfl ?_
          refine lv_iload hx hb dX10_way_107 (lv_at hl 4 rfl) ?_
          obtain ⟨i_5, hw⟩ := hw
          refine sM_X10_wayPort F hK hP hDs hS i_5 dX10_way_109 (fun H locs hP hS => ?_)
          refine lv_aload_n hx hb dX10_way_110 rfl (lv_at hl 0 rfl) ?_
          refine lv_dup hx hb dX10_way_111 rfl ?_
          refine gM_X10_ways F hK iw_X10 hP f_f143 dX10_way_112 ?_
          refine W.eq (g2 := F0 m 115 ls [.int (gS u_3 1), .ref (ad 0)]) rfl ?_
          refine lv_iconst (v := 1) hx hb dX10_way_115 (by decide) ?_
          refine lv_iadd hx hb dX10_way_116 ?_
          refine pM_X10_ways F hK iw_X10 hP hDs hS f_f143 dX10_way_117 (fun H locs hP hS => ?_)
          refine lv_aload_n hx hb dX10_way_120 rfl (lv_at hl 0 rfl) ?_
          refine gM_X10_ways F hK iw_X10 hP f_f143 dX10_way_121 ?_
          refine W.eq (g2 := F0 m 124 ls [.int ((gS u_3 1) + 1)]) rfl ?_
          refine lv_iconst (v := 1) hx hb dX10_way_124 (by decide) ?_
          refine lv_isub hx hb dX10_way_125 ?_
          exact rtI F hr hlocks hK hw hP hS dX10_way_126
        · have hw := hw.2 c_9
          refine lv_iconst (v := (-1)) hx hb dX10_way_67 (by decide) ?_
          exact rtI F hr hlocks hK hw hP hS dX10_way_68
  have hl := lv_entry ([.ref (ad 0), .int a1, .int a2, .int a3, .int a4]) (n := 5) (Nat.le_of_ble_eq_true rfl)
  rw [lg_entry_eq]
  generalize (lg_sl ([.ref (ad 0), .int a1, .int a2, .int a3, .int a4]) ++ List.replicate (5 - (lg_sl ([.ref (ad 0), .int a1, .int a2, .int a3, .int a4])).length) Slot.unset).toArray = ls at hl ⊢
  have hl : lv_has ls 5 [(0, .ref (ad 0)), (1, .int a1), (2, .int a2), (3, .int a3), (4, .int a4)] := hl
  have key : ∀ (H : Heap), va_P D vwCl ((wdM ad cI) σ) H → va_S (AW ad 40 s.heap.size) s.heap H [] → W p l e (headSpec wsX10_way rm_X10_way).room s m ([.ref (ad 0), .int a1, .int a2, .int a3, .int a4] : List Value).toArray below meth c H [] 0 0 (MQ below (va_Qi K (inW D (wdM ad cI) [(cI, .int)]) (AW ad 40 s.heap.size)) ([.ref (ad 0), .int a1, .int a2, .int a3, .int a4] : List Value).toArray s 0 0 (AW ad 40 s.heap.size)) (F0 m 0 ls []) := by
    intro H hP hS
    unfold w_X10_way at hw
    refine lv_aload_n hx hb dX10_way_0 rfl (lv_at hl 0 rfl) ?_
    refine lv_iload_n hx hb dX10_way_1 rfl (lv_at hl 1 rfl) ?_
    refine cvI (As := [.int a1]) (rest := []) F hK hP hS (c_X10_isAct l D ad cI hap H.size _ _ _ hw) (cwV 1 hts gX10_way_X10_isAct rfl rfl rfl (by decide +kernel) ⟨Nat.le_of_ble_eq_true rfl, Nat.le_of_ble_eq_true rfl⟩) (va_recv hK hP (ci := 7) (q0 := 0) rfl rfl) rfl hl.1 rfl (Nat.le_of_ble_eq_true rfl) dX10_way_2 ⟨Nat.zero_le _, Nat.zero_le _⟩ (fun r_14 u_13 H locs hw hP hS => ?_)
    obtain ⟨zr_14, hw⟩ := hw
    refine lv_if_eq (tgt := 67) hx hb dX10_way_5 (by decide) (fun c_20 => ?_) (fun c_20 => ?_)
    · have hw := hw.1 c_20
      refine lv_iconst (v := (-1)) hx hb dX10_way_67 (by decide) ?_
      exact rtI F hr hlocks hK hw hP hS dX10_way_68
    · have hw := hw.2 c_20
      refine lv_aload_n hx hb dX10_way_8 rfl (lv_at hl 0 rfl) ?_
      refine lv_iload_n hx hb dX10_way_9 rfl (lv_at hl 3 rfl) ?_
      refine cvI (As := [.int a3]) (rest := []) F hK hP hS (c_X10_isAct l D ad cI hap H.size _ _ _ hw) (cwV 1 hts gX10_way_X10_isAct rfl rfl rfl (by decide +kernel) ⟨Nat.le_of_ble_eq_true rfl, Nat.le_of_ble_eq_true rfl⟩) (va_recv hK hP (ci := 7) (q0 := 0) rfl rfl) rfl hl.1 rfl (Nat.le_of_ble_eq_true rfl) dX10_way_10 ⟨Nat.zero_le _, Nat.zero_le _⟩ (fun r_16 u_15 H locs hw hP hS => ?_)
      obtain ⟨zr_16, hw⟩ := hw
      refine lv_if_eq (tgt := 67) hx hb dX10_way_13 (by decide) (fun c_19 => ?_) (fun c_19 => ?_)
      · have hw := hw.1 c_19
        refine lv_iconst (v := (-1)) hx hb dX10_way_67 (by decide) ?_
        exact rtI F hr hlocks hK hw hP hS dX10_way_68
      · have hw := hw.2 c_19
        refine lv_iload_n hx hb dX10_way_16 rfl (lv_at hl 2 rfl) ?_
        refine lv_iconst (v := 0) hx hb dX10_way_17 (by decide) ?_
        refine lv_aload_n hx hb dX10_way_18 rfl (lv_at hl 0 rfl) ?_
        refine gM_X10_kind F hK iw_X10 hP f_f7 dX10_way_19 ?_
        refine lv_iload_n hx hb dX10_way_22 rfl (lv_at hl 1 rfl) ?_
        obtain ⟨i_18, hw⟩ := hw
        refine lM_X10_kind F hK hP i_18 dX10_way_23 ?_
        refine lv_bipush (v := 10) hx hb dX10_way_24 (by decide) ?_
        refine lv_icmp_ne (tgt := 33) hx hb dX10_way_26 (by decide) (fun c_17 => ?_) (fun c_17 => ?_)
        · have hw := hw.1 c_17
          refine lv_iconst (v := 0) hx hb dX10_way_33 (by decide) ?_
          exact lab_34 _ _ _ _ _ _ _ _ _ _ _ hw hP hS (lv_sub hl [0, 1, 2, 3, 4] rfl)
        · have hw := hw.2 c_17
          refine lv_iconst (v := 1) hx hb dX10_way_29 (by decide) ?_
          refine lv_goto (tgt := 34) hx hb dX10_way_30 (by decide) ?_
          exact lab_34 _ _ _ _ _ _ _ _ _ _ _ hw hP hS (lv_sub hl [0, 1, 2, 3, 4] rfl)
  exact key s.heap hP hS
