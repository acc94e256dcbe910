abbrev rm_X10_act : Room := { frames := 2, cells := 0, slots := 0, locals := 43 }
set_option maxHeartbeats 4000000 in
set_option maxRecDepth 100000 in
theorem c_X10_act (l : Launch) (D : va_G) (ad : Nat → Nat) (cI : ClassId) (hap : apart ad 40) (sz : Nat) (σ : St) (a1 : Int32) (a2 : Int32) (a3 : Int32) (K : Int32 → St → Prop) (hw : w_X10_act σ a1 a2 a3 K) : Met l yX10_act wU_X10_act rm_X10_act (va_Pc [.ref (ad 0), .int a1, .int a2, .int a3] (fun U => U.heap.size = sz ∧ inW D (wdM ad cI) [(cI, .int)] σ U)) (va_Qi K (inW D (wdM ad cI) [(cI, .int)]) (AW ad 40 sz)) 0 0 (AW ad 40 sz) := by
  refine Met.ofW (cc := cX10_act) (maxL := 4) (ret := (some .int)) (by decide) rfl ?_
  intro p e s m args below meth c s₁ B hml hv
  obtain ⟨rfl, hsz, ⟨hP, hK⟩⟩ := hv
  have F : CallFix p m c cX10_act 4 s ([.ref (ad 0), .int a1, .int a2, .int a3] : List Value).toArray lw_U RX10 := ⟨B.exec, B.bytes, hml, findClass_of_methodNamed B.named, fun w h => atoms_spec (ws := wU_X10_act) B.pre w (List.mem_cons_of_mem _ h)⟩
  have hx := F.1
  have hb := F.2.1
  have hown := F.2.2.2.1
  have hts := F.2.2.2.2
  have hr := B.returns
  have hlocks := B.notSynchronized
  subst hsz
  have hDs : ∀ σ, va_D (AW ad 40 s.heap.size) ((wdM ad cI) σ) := fun σ => wdM_D hap σ
  have hS : va_S (AW ad 40 s.heap.size) s.heap s.heap [] := va_S.rf
  have lab_93 : ∀ (σ : St) (x1 : Int32) (x2 : Int32) (x3 : Int32) (H : Heap) (locs : List Loc) (ls : Array Slot), b_X10_act_93 K σ x1 x2 x3 → va_P D vwCl ((wdM ad cI) σ) H → va_S (AW ad 40 s.heap.size) s.heap H locs → lv_has ls 4 [(0, .ref (ad 0)), (1, .int x1), (2, .int x2), (3, .int x3)] → W p l e (headSpec wU_X10_act rm_X10_act).room s m ([.ref (ad 0), .int a1, .int a2, .int a3] : List Value).toArray below meth c H locs 0 0 (MQ below (va_Qi K (inW D (wdM ad cI) [(cI, .int)]) (AW ad 40 s.heap.size)) ([.ref (ad 0), .int a1, .int a2, .int a3] : List Value).toArray s 0 0 (AW ad 40 s.heap.size)) (F0 m 93 ls []) := by
    intro σ x1 x2 x3 H locs ls hw hP hS hl
    unfold b_X10_act_93 at hw
    refine lv_aload_n hx hb dX10_act_93 rfl (lv_at hl 0 rfl) ?_
    refine gM_X10_kind F hK hP (hts _ mw_439) dX10_act_94 ?_
    refine lv_aload_n hx hb dX10_act_97 rfl (lv_at hl 0 rfl) ?_
    refine gM_X10_acts F hK hP (hts _ mw_434) dX10_act_98 ?_
    refine lv_iload_n hx hb dX10_act_101 rfl (lv_at hl 1 rfl) ?_
    obtain ⟨i_5, hw⟩ := hw
    refine sM_X10_kind F hK hP hDs hS i_5 dX10_act_102 (fun H locs hP hS => ?_)
    refine lv_aload_n hx hb dX10_act_103 rfl (lv_at hl 0 rfl) ?_
    refine gM_X10_own F hK hP (hts _ mw_440) dX10_act_104 ?_
    refine lv_aload_n hx hb dX10_act_107 rfl (lv_at hl 0 rfl) ?_
    refine gM_X10_acts F hK hP (hts _ mw_434) dX10_act_108 ?_
    refine jvi (y := (gS σ 0)) (by simp only [gS_sS, gS_sA, gS_sL, gS_fA, gS_fL, gA_sS, gA_sA, gA_sL, gA_fA, gA_fL, gL_sS, gL_sA, gL_sL, gL_fA, gL_fL, reduceIte, Nat.reduceEqDiff]) ?_
    refine lv_iload_n hx hb dX10_act_111 rfl (lv_at hl 2 rfl) ?_
    obtain ⟨i_4, hw⟩ := hw
    refine sM_X10_own F hK hP hDs hS i_4 dX10_act_112 (fun H locs hP hS => ?_)
    refine lv_aload_n hx hb dX10_act_113 rfl (lv_at hl 0 rfl) ?_
    refine gM_X10_ports F hK hP (hts _ mw_441) dX10_act_114 ?_
    refine lv_aload_n hx hb dX10_act_117 rfl (lv_at hl 0 rfl) ?_
    refine gM_X10_acts F hK hP (hts _ mw_434) dX10_act_118 ?_
    refine jvi (y := (gS σ 0)) (by simp only [gS_sS, gS_sA, gS_sL, gS_fA, gS_fL, gA_sS, gA_sA, gA_sL, gA_fA, gA_fL, gL_sS, gL_sA, gL_sL, gL_fA, gL_fL, reduceIte, Nat.reduceEqDiff]) ?_
    refine lv_iload_n hx hb dX10_act_121 rfl (lv_at hl 1 rfl) ?_
    refine lv_iload_n hx hb dX10_act_122 rfl (lv_at hl 3 rfl) ?_
    refine csI (As := [.int x1, .int x3]) (rest := [.int (gS σ 0), .ref (ad 3)]) F hK hP hS (c_X10_portsOf l D ad cI hap H.size _ _ _ _ hw) (va_cwS 2 hts gU_X10_135 rfl rfl rfl (by decide +kernel) ⟨Nat.le_of_ble_eq_true rfl, Nat.le_of_ble_eq_true rfl⟩) rfl hl.1 rfl (Nat.le_of_ble_eq_true rfl) dX10_act_123 ⟨Nat.zero_le _, Nat.zero_le _⟩ (fun r_2 u_1 H locs hw hP hS => ?_)
    obtain ⟨i_3, hw⟩ := hw
    refine sM_X10_ports F hK hP hDs hS i_3 dX10_act_126 (fun H locs hP hS => ?_)
    refine lv_aload_n hx hb dX10_act_127 rfl (lv_at hl 0 rfl) ?_
    refine lv_dup hx hb dX10_act_128 rfl ?_
    refine gM_X10_acts F hK hP (hts _ mw_434) dX10_act_129 ?_
    refine jvi (y := (gS u_1 0)) (by simp only [gS_sS, gS_sA, gS_sL, gS_fA, gS_fL, gA_sS, gA_sA, gA_sL, gA_fA, gA_fL, gL_sS, gL_sA, gL_sL, gL_fA, gL_fL, reduceIte, Nat.reduceEqDiff]) ?_
    refine lv_iconst (v := 1) hx hb dX10_act_132 (by decide) ?_
    refine lv_iadd hx hb dX10_act_133 ?_
    refine pM_X10_acts F hK hP hDs hS (hts _ mw_434) dX10_act_134 (fun H locs hP hS => ?_)
    refine lv_aload_n hx hb dX10_act_137 rfl (lv_at hl 0 rfl) ?_
    refine gM_X10_acts F hK hP (hts _ mw_434) dX10_act_138 ?_
    refine jvi (y := ((gS u_1 0) + 1)) (by simp only [gS_sS, gS_sA, gS_sL, gS_fA, gS_fL, gA_sS, gA_sA, gA_sL, gA_fA, gA_fL, gL_sS, gL_sA, gL_sL, gL_fA, gL_fL, reduceIte, Nat.reduceEqDiff]) ?_
    refine lv_iconst (v := 1) hx hb dX10_act_141 (by decide) ?_
    refine lv_isub hx hb dX10_act_142 ?_
    exact rtI F hr hlocks hK hw hP hS dX10_act_143
  have lab_76 : ∀ (σ : St) (x1 : Int32) (x2 : Int32) (x3 : Int32) (H : Heap) (locs : List Loc) (ls : Array Slot), b_X10_act_76 K σ x1 x2 x3 → va_P D vwCl ((wdM ad cI) σ) H → va_S (AW ad 40 s.heap.size) s.heap H locs → lv_has ls 4 [(0, .ref (ad 0)), (1, .int x1), (2, .int x2), (3, .int x3)] → W p l e (headSpec wU_X10_act rm_X10_act).room s m ([.ref (ad 0), .int a1, .int a2, .int a3] : List Value).toArray below meth c H locs 0 0 (MQ below (va_Qi K (inW D (wdM ad cI) [(cI, .int)]) (AW ad 40 s.heap.size)) ([.ref (ad 0), .int a1, .int a2, .int a3] : List Value).toArray s 0 0 (AW ad 40 s.heap.size)) (F0 m 76 ls []) := by
    intro σ x1 x2 x3 H locs ls hw hP hS hl
    unfold b_X10_act_76 at hw
    refine lv_iload_n hx hb dX10_act_76 rfl (lv_at hl 1 rfl) ?_
    refine lv_bipush (v := 14) hx hb dX10_act_77 (by decide) ?_
    refine lv_icmp_ne (tgt := 93) hx hb dX10_act_79 (by decide) (fun c_9 => ?_) (fun c_9 => ?_)
    · have hw := hw.1 c_9
      exact lab_93 _ _ _ _ _ _ _ hw hP hS (lv_sub hl [0, 1, 2, 3] rfl)
    · have hw := hw.2 c_9
      refine lv_iload_n hx hb dX10_act_82 rfl (lv_at hl 3 rfl) ?_
      refine lv_iconst (v := 1) hx hb dX10_act_83 (by decide) ?_
      refine lv_iconst (v := 3) hx hb dX10_act_84 (by decide) ?_
      refine csI (As := [.int x3, .int 1, .int 3]) (rest := []) F hK hP hS (c_X10_in l D ad cI hap H.size _ _ _ _ _ hw) (va_cwS 3 hts gU_X10_131 rfl rfl rfl (by decide +kernel) ⟨Nat.le_of_ble_eq_true rfl, Nat.le_of_ble_eq_true rfl⟩) rfl hl.1 rfl (Nat.le_of_ble_eq_true rfl) dX10_act_85 ⟨Nat.zero_le _, Nat.zero_le _⟩ (fun r_7 u_6 H locs hw hP hS => ?_)
      obtain ⟨zr_7, hw⟩ := hw
      refine lv_if_ne (tgt := 93) hx hb dX10_act_88 (by decide) (fun c_8 => ?_) (fun c_8 => ?_)
      · have hw := hw.1 c_8
        exact lab_93 _ _ _ _ _ _ _ hw hP hS (lv_sub hl [0, 1, 2, 3] rfl)
      · have hw := hw.2 c_8
        refine lv_iconst (v := (-1)) hx hb dX10_act_91 (by decide) ?_
        exact rtI F hr hlocks hK hw hP hS dX10_act_92
  have lab_50 : ∀ (σ : St) (x1 : Int32) (x2 : Int32) (x3 : Int32) (H : Heap) (locs : List Loc) (ls : Array Slot), b_X10_act_50 K σ x1 x2 x3 → va_P D vwCl ((wdM ad cI) σ) H → va_S (AW ad 40 s.heap.size) s.heap H locs → lv_has ls 4 [(0, .ref (ad 0)), (1, .int x1), (2, .int x2), (3, .int x3)] → W p l e (headSpec wU_X10_act rm_X10_act).room s m ([.ref (ad 0), .int a1, .int a2, .int a3] : List Value).toArray below meth c H locs 0 0 (MQ below (va_Qi K (inW D (wdM ad cI) [(cI, .int)]) (AW ad 40 s.heap.size)) ([.ref (ad 0), .int a1, .int a2, .int a3] : List Value).toArray s 0 0 (AW ad 40 s.heap.size)) (F0 m 50 ls []) := by
    intro σ x1 x2 x3 H locs ls hw hP hS hl
    unfold b_X10_act_50 at hw
    refine lv_iload_n hx hb dX10_act_50 rfl (lv_at hl 1 rfl) ?_
    refine lv_bipush (v := 15) hx hb dX10_act_51 (by decide) ?_
    refine lv_icmp_ne (tgt := 76) hx hb dX10_act_53 (by decide) (fun c_14 => ?_) (fun c_14 => ?_)
    · have hw := hw.1 c_14
      exact lab_76 _ _ _ _ _ _ _ hw hP hS (lv_sub hl [0, 1, 2, 3] rfl)
    · have hw := hw.2 c_14
      refine lv_iload_n hx hb dX10_act_56 rfl (lv_at hl 2 rfl) ?_
      refine lv_iconst (v := 0) hx hb dX10_act_57 (by decide) ?_
      refine lv_bipush (v := 99) hx hb dX10_act_58 (by decide) ?_
      refine csI (As := [.int x2, .int 0, .int 99]) (rest := []) F hK hP hS (c_X10_in l D ad cI hap H.size _ _ _ _ _ hw) (va_cwS 3 hts gU_X10_131 rfl rfl rfl (by decide +kernel) ⟨Nat.le_of_ble_eq_true rfl, Nat.le_of_ble_eq_true rfl⟩) rfl hl.1 rfl (Nat.le_of_ble_eq_true rfl) dX10_act_60 ⟨Nat.zero_le _, Nat.zero_le _⟩ (fun r_11 u_10 H locs hw hP hS => ?_)
      obtain ⟨zr_11, hw⟩ := hw
      refine lv_if_eq (tgt := 74) hx hb dX10_act_63 (by decide) (fun c_13 => ?_) (fun c_13 => ?_)
      · have hw := hw.1 c_13
        refine lv_iconst (v := (-1)) hx hb dX10_act_74 (by decide) ?_
        exact rtI F hr hlocks hK hw hP hS dX10_act_75
      · have hw := hw.2 c_13
        refine lv_iload_n hx hb dX10_act_66 rfl (lv_at hl 2 rfl) ?_
        refine lv_bipush (v := 10) hx hb dX10_act_67 (by decide) ?_
        refine lv_irem hx hb dX10_act_69 (by decide) ?_
        refine lv_iconst (v := 2) hx hb dX10_act_70 (by decide) ?_
        refine lv_icmp_le (tgt := 76) hx hb dX10_act_71 (by decide) (fun c_12 => ?_) (fun c_12 => ?_)
        · have hw := hw.1 c_12
          exact lab_76 _ _ _ _ _ _ _ hw hP hS (lv_sub hl [0, 1, 2, 3] rfl)
        · have hw := hw.2 c_12
          refine lv_iconst (v := (-1)) hx hb dX10_act_74 (by decide) ?_
          exact rtI F hr hlocks hK hw hP hS dX10_act_75
  have hl := lv_entry ([.ref (ad 0), .int a1, .int a2, .int a3]) (n := 4) (Nat.le_of_ble_eq_true rfl)
  rw [lg_entry_eq]
  generalize (lg_sl ([.ref (ad 0), .int a1, .int a2, .int a3]) ++ List.replicate (4 - (lg_sl ([.ref (ad 0), .int a1, .int a2, .int a3])).length) Slot.unset).toArray = ls at hl ⊢
  have hl : lv_has ls 4 [(0, .ref (ad 0)), (1, .int a1), (2, .int a2), (3, .int a3)] := hl
  have key : ∀ (H : Heap) (locs : List Loc), va_P D vwCl ((wdM ad cI) σ) H → va_S (AW ad 40 s.heap.size) s.heap H locs → W p l e (headSpec wU_X10_act rm_X10_act).room s m ([.ref (ad 0), .int a1, .int a2, .int a3] : List Value).toArray below meth c H locs 0 0 (MQ below (va_Qi K (inW D (wdM ad cI) [(cI, .int)]) (AW ad 40 s.heap.size)) ([.ref (ad 0), .int a1, .int a2, .int a3] : List Value).toArray s 0 0 (AW ad 40 s.heap.size)) (F0 m 0 ls []) := by
    intro H locs hP hS
    unfold w_X10_act at hw
    refine lv_iload_n hx hb dX10_act_0 rfl (lv_at hl 1 rfl) ?_
    refine lv_iconst (v := 0) hx hb dX10_act_1 (by decide) ?_
    refine lv_bipush (v := 21) hx hb dX10_act_2 (by decide) ?_
    refine csI (As := [.int a1, .int 0, .int 21]) (rest := []) F hK hP hS (c_X10_in l D ad cI hap H.size _ _ _ _ _ hw) (va_cwS 3 hts gU_X10_131 rfl rfl rfl (by decide +kernel) ⟨Nat.le_of_ble_eq_true rfl, Nat.le_of_ble_eq_true rfl⟩) rfl hl.1 rfl (Nat.le_of_ble_eq_true rfl) dX10_act_4 ⟨Nat.zero_le _, Nat.zero_le _⟩ (fun r_16 u_15 H locs hw hP hS => ?_)
    obtain ⟨zr_16, hw⟩ := hw
    refine lv_if_eq (tgt := 19) hx hb dX10_act_7 (by decide) (fun c_28 => ?_) (fun c_28 => ?_)
    · have hw := hw.1 c_28
      refine lv_iconst (v := (-1)) hx hb dX10_act_19 (by decide) ?_
      exact rtI F hr hlocks hK hw hP hS dX10_act_20
    · have hw := hw.2 c_28
      refine lv_aload_n hx hb dX10_act_10 rfl (lv_at hl 0 rfl) ?_
      refine gM_X10_acts F hK hP (hts _ mw_434) dX10_act_11 ?_
      refine lv_bipush (v := 80) hx hb dX10_act_14 (by decide) ?_
      refine lv_icmp_ne (tgt := 21) hx hb dX10_act_16 (by decide) (fun c_27 => ?_) (fun c_27 => ?_)
      · have hw := hw.1 c_27
        refine lv_iload_n hx hb dX10_act_21 rfl (lv_at hl 1 rfl) ?_
        refine lv_bipush (v := 11) hx hb dX10_act_22 (by decide) ?_
        refine lv_bipush (v := 14) hx hb dX10_act_24 (by decide) ?_
        refine csI (As := [.int a1, .int 11, .int 14]) (rest := []) F hK hP hS (c_X10_in l D ad cI hap H.size _ _ _ _ _ hw) (va_cwS 3 hts gU_X10_131 rfl rfl rfl (by decide +kernel) ⟨Nat.le_of_ble_eq_true rfl, Nat.le_of_ble_eq_true rfl⟩) rfl hl.1 rfl (Nat.le_of_ble_eq_true rfl) dX10_act_26 ⟨Nat.zero_le _, Nat.zero_le _⟩ (fun r_18 u_17 H locs hw hP hS => ?_)
        obtain ⟨zr_18, hw⟩ := hw
        refine lv_if_ne (tgt := 38) hx hb dX10_act_29 (by decide) (fun c_26 => ?_) (fun c_26 => ?_)
        · have hw := hw.1 c_26
          refine lv_iload_n hx hb dX10_act_38 rfl (lv_at hl 2 rfl) ?_
          refine lv_iconst (v := 0) hx hb dX10_act_39 (by decide) ?_
          refine lv_bipush (v := 9) hx hb dX10_act_40 (by decide) ?_
          refine csI (As := [.int a2, .int 0, .int 9]) (rest := []) F hK hP hS (c_X10_in l D ad cI hap H.size _ _ _ _ _ hw) (va_cwS 3 hts gU_X10_131 rfl rfl rfl (by decide +kernel) ⟨Nat.le_of_ble_eq_true rfl, Nat.le_of_ble_eq_true rfl⟩) rfl hl.1 rfl (Nat.le_of_ble_eq_true rfl) dX10_act_42 ⟨Nat.zero_le _, Nat.zero_le _⟩ (fun r_20 u_19 H locs hw hP hS => ?_)
          obtain ⟨zr_20, hw⟩ := hw
          refine lv_if_ne (tgt := 50) hx hb dX10_act_45 (by decide) (fun c_21 => ?_) (fun c_21 => ?_)
          · have hw := hw.1 c_21
            exact lab_50 _ _ _ _ _ _ _ hw hP hS (lv_sub hl [0, 1, 2, 3] rfl)
          · have hw := hw.2 c_21
            refine lv_iconst (v := (-1)) hx hb dX10_act_48 (by decide) ?_
            exact rtI F hr hlocks hK hw hP hS dX10_act_49
        · have hw := hw.2 c_26
          refine lv_iload_n hx hb dX10_act_32 rfl (lv_at hl 1 rfl) ?_
          refine lv_bipush (v := 21) hx hb dX10_act_33 (by decide) ?_
          refine lv_icmp_ne (tgt := 50) hx hb dX10_act_35 (by decide) (fun c_25 => ?_) (fun c_25 => ?_)
          · have hw := hw.1 c_25
            exact lab_50 _ _ _ _ _ _ _ hw hP hS (lv_sub hl [0, 1, 2, 3] rfl)
          · have hw := hw.2 c_25
            refine lv_iload_n hx hb dX10_act_38 rfl (lv_at hl 2 rfl) ?_
            refine lv_iconst (v := 0) hx hb dX10_act_39 (by decide) ?_
            refine lv_bipush (v := 9) hx hb dX10_act_40 (by decide) ?_
            refine csI (As := [.int a2, .int 0, .int 9]) (rest := []) F hK hP hS (c_X10_in l D ad cI hap H.size _ _ _ _ _ hw) (va_cwS 3 hts gU_X10_131 rfl rfl rfl (by decide +kernel) ⟨Nat.le_of_ble_eq_true rfl, Nat.le_of_ble_eq_true rfl⟩) rfl hl.1 rfl (Nat.le_of_ble_eq_true rfl) dX10_act_42 ⟨Nat.zero_le _, Nat.zero_le _⟩ (fun r_23 u_22 H locs hw hP hS => ?_)
            obtain ⟨zr_23, hw⟩ := hw
            refine lv_if_ne (tgt := 50) hx hb dX10_act_45 (by decide) (fun c_24 => ?_) (fun c_24 => ?_)
            · have hw := hw.1 c_24
              exact lab_50 _ _ _ _ _ _ _ hw hP hS (lv_sub hl [0, 1, 2, 3] rfl)
            · have hw := hw.2 c_24
              refine lv_iconst (v := (-1)) hx hb dX10_act_48 (by decide) ?_
              exact rtI F hr hlocks hK hw hP hS dX10_act_49
      · have hw := hw.2 c_27
        refine lv_iconst (v := (-1)) hx hb dX10_act_19 (by decide) ?_
        exact rtI F hr hlocks hK hw hP hS dX10_act_20
  exact key s.heap [] hP hS

abbrev rm_X10_way : Room := { frames := 2, cells := 0, slots := 0, locals := 43 }
set_option maxHeartbeats 4000000 in
set_option maxRecDepth 100000 in
theorem c_X10_way (l : Launch) (D : va_G) (ad : Nat → Nat) (cI : ClassId) (hap : apart ad 40) (sz : Nat) (σ : St) (a1 : Int32) (a2 : Int32) (a3 : Int32) (a4 : Int32) (K : Int32 → St → Prop) (hw : w_X10_way σ a1 a2 a3 a4 K) : Met l yX10_way wU_X10_way rm_X10_way (va_Pc [.ref (ad 0), .int a1, .int a2, .int a3, .int a4] (fun U => U.heap.size = sz ∧ inW D (wdM ad cI) [(cI, .int)] σ U)) (va_Qi K (inW D (wdM ad cI) [(cI, .int)]) (AW ad 40 sz)) 0 0 (AW ad 40 sz) := by
  refine Met.ofW (cc := cX10_way) (maxL := 5) (ret := (some .int)) (by decide) rfl ?_
  intro p e s m args below meth c s₁ B hml hv
  obtain ⟨rfl, hsz, ⟨hP, hK⟩⟩ := hv
  have F : CallFix p m c cX10_way 5 s ([.ref (ad 0), .int a1, .int a2, .int a3, .int a4] : List Value).toArray lw_U RX10 := ⟨B.exec, B.bytes, hml, findClass_of_methodNamed B.named, fun w h => atoms_spec (ws := wU_X10_way) B.pre w (List.mem_cons_of_mem _ h)⟩
  have hx := F.1
  have hb := F.2.1
  have hown := F.2.2.2.1
  have hts := F.2.2.2.2
  have hr := B.returns
  have hlocks := B.notSynchronized
  subst hsz
  have hDs : ∀ σ, va_D (AW ad 40 s.heap.size) ((wdM ad cI) σ) := fun σ => wdM_D hap σ
  have hS : va_S (AW ad 40 s.heap.size) s.heap s.heap [] := va_S.rf
  have lab_34 : ∀ (σ : St) (x1 : Int32) (x2 : Int32) (x3 : Int32) (x4 : Int32) (t0 : Int32) (t1 : Int32) (t2 : Int32) (H : Heap) (locs : List Loc) (ls : Array Slot), b_X10_way_34 K σ x1 x2 x3 x4 t0 t1 t2 → va_P D vwCl ((wdM ad cI) σ) H → va_S (AW ad 40 s.heap.size) s.heap H locs → lv_has ls 5 [(0, .ref (ad 0)), (1, .int x1), (2, .int x2), (3, .int x3), (4, .int x4)] → W p l e (headSpec wU_X10_way rm_X10_way).room s m ([.ref (ad 0), .int a1, .int a2, .int a3, .int a4] : List Value).toArray below meth c H locs 0 0 (MQ below (va_Qi K (inW D (wdM ad cI) [(cI, .int)]) (AW ad 40 s.heap.size)) ([.ref (ad 0), .int a1, .int a2, .int a3, .int a4] : List Value).toArray s 0 0 (AW ad 40 s.heap.size)) (F0 m 34 ls [.int t2, .int t1, .int t0]) := by
    intro σ x1 x2 x3 x4 t0 t1 t2 H locs ls hw hP hS hl
    unfold b_X10_way_34 at hw
    refine csI (As := [.int t0, .int t1, .int t2]) (rest := []) F hK hP hS (c_X10_in l D ad cI hap H.size _ _ _ _ _ hw) (va_cwS 3 hts gU_X10_131 rfl rfl rfl (by decide +kernel) ⟨Nat.le_of_ble_eq_true rfl, Nat.le_of_ble_eq_true rfl⟩) rfl hl.1 rfl (Nat.le_of_ble_eq_true rfl) dX10_way_34 ⟨Nat.zero_le _, Nat.zero_le _⟩ (fun r_2 u_1 H locs hw hP hS => ?_)
    obtain ⟨zr_2, hw⟩ := hw
    refine lv_if_eq (tgt := 67) hx hb dX10_way_37 (by decide) (fun c_12 => ?_) (fun c_12 => ?_)
    · have hw := hw.1 c_12
      refine lv_iconst (v := (-1)) hx hb dX10_way_67 (by decide) ?_
      exact rtI F hr hlocks hK hw hP hS dX10_way_68
    · have hw := hw.2 c_12
      refine lv_iload hx hb dX10_way_40 (lv_at hl 4 rfl) ?_
      refine lv_iconst (v := 0) hx hb dX10_way_42 (by decide) ?_
      refine lv_aload_n hx hb dX10_way_43 rfl (lv_at hl 0 rfl) ?_
      refine gM_X10_ports F hK hP (hts _ mw_441) dX10_way_44 ?_
      refine lv_iload_n hx hb dX10_way_47 rfl (lv_at hl 3 rfl) ?_
      obtain ⟨i_11, hw⟩ := hw
      refine lM_X10_ports F hK hP i_11 dX10_way_48 ?_
      refine lv_iconst (v := 1) hx hb dX10_way_49 (by decide) ?_
      refine lv_isub hx hb dX10_way_50 ?_
      refine csI (As := [.int x4, .int 0, .int ((gA u_1 2 (x3).toNatClampNeg) - 1)]) (rest := []) F hK hP hS (c_X10_in l D ad cI hap H.size _ _ _ _ _ hw) (va_cwS 3 hts gU_X10_131 rfl rfl rfl (by decide +kernel) ⟨Nat.le_of_ble_eq_true rfl, Nat.le_of_ble_eq_true rfl⟩) rfl hl.1 rfl (Nat.le_of_ble_eq_true rfl) dX10_way_51 ⟨Nat.zero_le _, Nat.zero_le _⟩ (fun r_4 u_3 H locs hw hP hS => ?_)
      obtain ⟨zr_4, hw⟩ := hw
      refine lv_if_eq (tgt := 67) hx hb dX10_way_54 (by decide) (fun c_10 => ?_) (fun c_10 => ?_)
      · have hw := hw.1 c_10
        refine lv_iconst (v := (-1)) hx hb dX10_way_67 (by decide) ?_
        exact rtI F hr hlocks hK hw hP hS dX10_way_68
      · have hw := hw.2 c_10
        refine lv_aload_n hx hb dX10_way_57 rfl (lv_at hl 0 rfl) ?_
        refine gM_X10_ways F hK hP (hts _ mw_445) dX10_way_58 ?_
        refine lv_sipush (v := 300) hx hb dX10_way_61 (by decide) ?_
        refine lv_icmp_ne (tgt := 69) hx hb dX10_way_64 (by decide) (fun c_9 => ?_) (fun c_9 => ?_)
        · have hw := hw.1 c_9
          refine lv_aload_n hx hb dX10_way_69 rfl (lv_at hl 0 rfl) ?_
          refine gM_X10_wayFrom F hK hP (hts _ mw_446) dX10_way_70 ?_
          refine lv_aload_n hx hb dX10_way_73 rfl (lv_at hl 0 rfl) ?_
          refine gM_X10_ways F hK hP (hts _ mw_445) dX10_way_74 ?_
          refine lv_iload_n hx hb dX10_way_77 rfl (lv_at hl 1 rfl) ?_
          obtain ⟨i_8, hw⟩ := hw
          refine sM_X10_wayFrom F hK hP hDs hS i_8 dX10_way_78 (fun H locs hP hS => ?_)
          refine lv_aload_n hx hb dX10_way_79 rfl (lv_at hl 0 rfl) ?_
          refine gM_X10_waySide F hK hP (hts _ mw_447) dX10_way_80 ?_
          refine lv_aload_n hx hb dX10_way_83 rfl (lv_at hl 0 rfl) ?_
          refine gM_X10_ways F hK hP (hts _ mw_445) dX10_way_84 ?_
          refine jvi (y := (gS u_3 1)) (by simp only [gS_sS, gS_sA, gS_sL, gS_fA, gS_fL, gA_sS, gA_sA, gA_sL, gA_fA, gA_fL, gL_sS, gL_sA, gL_sL, gL_fA, gL_fL, reduceIte, Nat.reduceEqDiff]) ?_
          refine lv_iload_n hx hb dX10_way_87 rfl (lv_at hl 2 rfl) ?_
          obtain ⟨i_7, hw⟩ := hw
          refine sM_X10_waySide F hK hP hDs hS i_7 dX10_way_88 (fun H locs hP hS => ?_)
          refine lv_aload_n hx hb dX10_way_89 rfl (lv_at hl 0 rfl) ?_
          refine gM_X10_wayTo F hK hP (hts _ mw_448) dX10_way_90 ?_
          refine lv_aload_n hx hb dX10_way_93 rfl (lv_at hl 0 rfl) ?_
          refine gM_X10_ways F hK hP (hts _ mw_445) dX10_way_94 ?_
          refine jvi (y := (gS u_3 1)) (by simp only [gS_sS, gS_sA, gS_sL, gS_fA, gS_fL, gA_sS, gA_sA, gA_sL, gA_fA, gA_fL, gL_sS, gL_sA, gL_sL, gL_fA, gL_fL, reduceIte, Nat.reduceEqDiff]) ?_
          refine lv_iload_n hx hb dX10_way_97 rfl (lv_at hl 3 rfl) ?_
          obtain ⟨i_6, hw⟩ := hw
          refine sM_X10_wayTo F hK hP hDs hS i_6 dX10_way_98 (fun H locs hP hS => ?_)
          refine lv_aload_n hx hb dX10_way_99 rfl (lv_at hl 0 rfl) ?_
          refine gM_X10_wayPort F hK hP (hts _ mw_449) dX10_way_100 ?_
          refine lv_aload_n hx hb dX10_way_103 rfl (lv_at hl 0 rfl) ?_
          refine gM_X10_ways F hK hP (hts _ mw_445) dX10_way_104 ?_
          refine jvi (y := (gS u_3 1)) (by simp only [gS_sS, gS_sA, gS_sL, gS_fA, gS_fL, gA_sS, gA_sA, gA_sL, gA_fA, gA_fL, gL_sS, gL_sA, gL_sL, gL_fA, gL_fL, reduceIte, Nat.reduceEqDiff]) ?_
          refine lv_iload hx hb dX10_way_107 (lv_at hl 4 rfl) ?_
          obtain ⟨i_5, hw⟩ := hw
          refine sM_X10_wayPort F hK hP hDs hS i_5 dX10_way_109 (fun H locs hP hS => ?_)
          refine lv_aload_n hx hb dX10_way_110 rfl (lv_at hl 0 rfl) ?_
          refine lv_dup hx hb dX10_way_111 rfl ?_
          refine gM_X10_ways F hK hP (hts _ mw_445) dX10_way_112 ?_
          refine jvi (y := (gS u_3 1)) (by simp only [gS_sS, gS_sA, gS_sL, gS_fA, gS_fL, gA_sS, gA_sA, gA_sL, gA_fA, gA_fL, gL_sS, gL_sA, gL_sL, gL_fA, gL_fL, reduceIte, Nat.reduceEqDiff]) ?_
          refine lv_iconst (v := 1) hx hb dX10_way_115 (by decide) ?_
          refine lv_iadd hx hb dX10_way_116 ?_
          refine pM_X10_ways F hK hP hDs hS (hts _ mw_445) dX10_way_117 (fun H locs hP hS => ?_)
          refine lv_aload_n hx hb dX10_way_120 rfl (lv_at hl 0 rfl) ?_
          refine gM_X10_ways F hK hP (hts _ mw_445) dX10_way_121 ?_
          refine jvi (y := ((gS u_3 1) + 1)) (by simp only [gS_sS, gS_sA, gS_sL, gS_fA, gS_fL, gA_sS, gA_sA, gA_sL, gA_fA, gA_fL, gL_sS, gL_sA, gL_sL, gL_fA, gL_fL, reduceIte, Nat.reduceEqDiff]) ?_
          refine lv_iconst (v := 1) hx hb dX10_way_124 (by decide) ?_
          refine lv_isub hx hb dX10_way_125 ?_
          exact rtI F hr hlocks hK hw hP hS dX10_way_126
        · have hw := hw.2 c_9
          refine lv_iconst (v := (-1)) hx hb dX10_way_67 (by decide) ?_
          exact rtI F hr hlocks hK hw hP hS dX10_way_68
  have hl := lv_entry ([.ref (ad 0), .int a1, .int a2, .int a3, .int a4]) (n := 5) (Nat.le_of_ble_eq_true rfl)
  rw [lg_entry_eq]
  generalize (lg_sl ([.ref (ad 0), .int a1, .int a2, .int a3, .int a4]) ++ List.replicate (5 - (lg_sl ([.ref (ad 0), .int a1, .int a2, .int a3, .int a4])).length) Slot.unset).toArray = ls at hl ⊢
  have hl : lv_has ls 5 [(0, .ref (ad 0)), (1, .int a1), (2, .int a2), (3, .int a3), (4, .int a4)] := hl
  have key : ∀ (H : Heap) (locs : List Loc), va_P D vwCl ((wdM ad cI) σ) H → va_S (AW ad 40 s.heap.size) s.heap H locs → W p l e (headSpec wU_X10_way rm_X10_way).room s m ([.ref (ad 0), .int a1, .int a2, .int a3, .int a4] : List Value).toArray below meth c H locs 0 0 (MQ below (va_Qi K (inW D (wdM ad cI) [(cI, .int)]) (AW ad 40 s.heap.size)) ([.ref (ad 0), .int a1, .int a2, .int a3, .int a4] : List Value).toArray s 0 0 (AW ad 40 s.heap.size)) (F0 m 0 ls []) := by
    intro H locs hP hS
    unfold w_X10_way at hw
    refine lv_aload_n hx hb dX10_way_0 rfl (lv_at hl 0 rfl) ?_
    refine lv_iload_n hx hb dX10_way_1 rfl (lv_at hl 1 rfl) ?_
    refine cvI (As := [.int a1]) (rest := []) F hK hP hS (c_X10_isAct l D ad cI hap H.size _ _ _ hw) (cwV 1 hts gU_X10_139 rfl rfl rfl (by decide +kernel) ⟨Nat.le_of_ble_eq_true rfl, Nat.le_of_ble_eq_true rfl⟩) (va_recv hK hP (ci := 7) (q0 := 0) rfl rfl) rfl hl.1 rfl (Nat.le_of_ble_eq_true rfl) dX10_way_2 ⟨Nat.zero_le _, Nat.zero_le _⟩ (fun r_14 u_13 H locs hw hP hS => ?_)
    obtain ⟨zr_14, hw⟩ := hw
    refine lv_if_eq (tgt := 67) hx hb dX10_way_5 (by decide) (fun c_20 => ?_) (fun c_20 => ?_)
    · have hw := hw.1 c_20
      refine lv_iconst (v := (-1)) hx hb dX10_way_67 (by decide) ?_
      exact rtI F hr hlocks hK hw hP hS dX10_way_68
    · have hw := hw.2 c_20
      refine lv_aload_n hx hb dX10_way_8 rfl (lv_at hl 0 rfl) ?_
      refine lv_iload_n hx hb dX10_way_9 rfl (lv_at hl 3 rfl) ?_
      refine cvI (As := [.int a3]) (rest := []) F hK hP hS (c_X10_isAct l D ad cI hap H.size _ _ _ hw) (cwV 1 hts gU_X10_139 rfl rfl rfl (by decide +kernel) ⟨Nat.le_of_ble_eq_true rfl, Nat.le_of_ble_eq_true rfl⟩) (va_recv hK hP (ci := 7) (q0 := 0) rfl rfl) rfl hl.1 rfl (Nat.le_of_ble_eq_true rfl) dX10_way_10 ⟨Nat.zero_le _, Nat.zero_le _⟩ (fun r_16 u_15 H locs hw hP hS => ?_)
      obtain ⟨zr_16, hw⟩ := hw
      refine lv_if_eq (tgt := 67) hx hb dX10_way_13 (by decide) (fun c_19 => ?_) (fun c_19 => ?_)
      · have hw := hw.1 c_19
        refine lv_iconst (v := (-1)) hx hb dX10_way_67 (by decide) ?_
        exact rtI F hr hlocks hK hw hP hS dX10_way_68
      · have hw := hw.2 c_19
        refine lv_iload_n hx hb dX10_way_16 rfl (lv_at hl 2 rfl) ?_
        refine lv_iconst (v := 0) hx hb dX10_way_17 (by decide) ?_
        refine lv_aload_n hx hb dX10_way_18 rfl (lv_at hl 0 rfl) ?_
        refine gM_X10_kind F hK hP (hts _ mw_439) dX10_way_19 ?_
        refine lv_iload_n hx hb dX10_way_22 rfl (lv_at hl 1 rfl) ?_
        obtain ⟨i_18, hw⟩ := hw
        refine lM_X10_kind F hK hP i_18 dX10_way_23 ?_
        refine lv_bipush (v := 10) hx hb dX10_way_24 (by decide) ?_
        refine lv_icmp_ne (tgt := 33) hx hb dX10_way_26 (by decide) (fun c_17 => ?_) (fun c_17 => ?_)
        · have hw := hw.1 c_17
          refine lv_iconst (v := 0) hx hb dX10_way_33 (by decide) ?_
          exact lab_34 _ _ _ _ _ _ _ _ _ _ _ hw hP hS (lv_sub hl [0, 1, 2, 3, 4] rfl)
        · have hw := hw.2 c_17
          refine lv_iconst (v := 1) hx hb dX10_way_29 (by decide) ?_
          refine lv_goto (tgt := 34) hx hb dX10_way_30 (by decide) ?_
          exact lab_34 _ _ _ _ _ _ _ _ _ _ _ hw hP hS (lv_sub hl [0, 1, 2, 3, 4] rfl)
  exact key s.heap [] hP hS

abbrev rm_X10_token : Room := { frames := 2, cells := 0, slots := 0, locals := 43 }
set_option maxHeartbeats 4000000 in
set_option maxRecDepth 100000 in
theorem c_X10_token (l : Launch) (D : va_G) (ad : Nat → Nat) (cI : ClassId) (hap : apart ad 40) (sz : Nat) (σ : St) (a1 : Int32) (a2 : Int32) (a3 : Int32) (K : Int32 → St → Prop) (hw : w_X10_token σ a1 a2 a3 K) : Met l yX10_token wU_X10_token rm_X10_token (va_Pc [.ref (ad 0), .int a1, .int a2, .int a3] (fun U => U.heap.size = sz ∧ inW D (wdM ad cI) [(cI, .int)] σ U)) (va_Qi K (inW D (wdM ad cI) [(cI, .int)]) (AW ad 40 sz)) 0 0 (AW ad 40 sz) := by
  refine Met.ofW (cc := cX10_token) (maxL := 4) (ret := (some .int)) (by decide) rfl ?_
  intro p e s m args below meth c s₁ B hml hv
  obtain ⟨rfl, hsz, ⟨hP, hK⟩⟩ := hv
  have F : CallFix p m c cX10_token 4 s ([.ref (ad 0), .int a1, .int a2, .int a3] : List Value).toArray lw_U RX10 := ⟨B.exec, B.bytes, hml, findClass_of_methodNamed B.named, fun w h => atoms_spec (ws := wU_X10_token) B.pre w (List.mem_cons_of_mem _ h)⟩
  have hx := F.1
  have hb := F.2.1
  have hown := F.2.2.2.1
  have hts := F.2.2.2.2
  have hr := B.returns
  have hlocks := B.notSynchronized
  subst hsz
  have hDs : ∀ σ, va_D (AW ad 40 s.heap.size) ((wdM ad cI) σ) := fun σ => wdM_D hap σ
  have hS : va_S (AW ad 40 s.heap.size) s.heap s.heap [] := va_S.rf
  have hl := lv_entry ([.ref (ad 0), .int a1, .int a2, .int a3]) (n := 4) (Nat.le_of_ble_eq_true rfl)
  rw [lg_entry_eq]
  generalize (lg_sl ([.ref (ad 0), .int a1, .int a2, .int a3]) ++ List.replicate (4 - (lg_sl ([.ref (ad 0), .int a1, .int a2, .int a3])).length) Slot.unset).toArray = ls at hl ⊢
  have hl : lv_has ls 4 [(0, .ref (ad 0)), (1, .int a1), (2, .int a2), (3, .int a3)] := hl
  have key : ∀ (H : Heap) (locs : List Loc), va_P D vwCl ((wdM ad cI) σ) H → va_S (AW ad 40 s.heap.size) s.heap H locs → W p l e (headSpec wU_X10_token rm_X10_token).room s m ([.ref (ad 0), .int a1, .int a2, .int a3] : List Value).toArray below meth c H locs 0 0 (MQ below (va_Qi K (inW D (wdM ad cI) [(cI, .int)]) (AW ad 40 s.heap.size)) ([.ref (ad 0), .int a1, .int a2, .int a3] : List Value).toArray s 0 0 (AW ad 40 s.heap.size)) (F0 m 0 ls []) := by
    intro H locs hP hS
    unfold w_X10_token at hw
    refine lv_aload_n hx hb dX10_token_0 rfl (lv_at hl 0 rfl) ?_
    refine lv_iload_n hx hb dX10_token_1 rfl (lv_at hl 1 rfl) ?_
    refine cvI (As := [.int a1]) (rest := []) F hK hP hS (c_X10_isAct l D ad cI hap H.size _ _ _ hw) (cwV 1 hts gU_X10_139 rfl rfl rfl (by decide +kernel) ⟨Nat.le_of_ble_eq_true rfl, Nat.le_of_ble_eq_true rfl⟩) (va_recv hK hP (ci := 7) (q0 := 0) rfl rfl) rfl hl.1 rfl (Nat.le_of_ble_eq_true rfl) dX10_token_2 ⟨Nat.zero_le _, Nat.zero_le _⟩ (fun r_2 u_1 H locs hw hP hS => ?_)
    obtain ⟨zr_2, hw⟩ := hw
    refine lv_if_eq (tgt := 33) hx hb dX10_token_5 (by decide) (fun c_11 => ?_) (fun c_11 => ?_)
    · have hw := hw.1 c_11
      refine lv_iconst (v := (-1)) hx hb dX10_token_33 (by decide) ?_
      exact rtI F hr hlocks hK hw hP hS dX10_token_34
    · have hw := hw.2 c_11
      refine lv_iload_n hx hb dX10_token_8 rfl (lv_at hl 2 rfl) ?_
      refine lv_iconst (v := 0) hx hb dX10_token_9 (by decide) ?_
      refine lv_aload_n hx hb dX10_token_10 rfl (lv_at hl 0 rfl) ?_
      refine gM_X10_ports F hK hP (hts _ mw_441) dX10_token_11 ?_
      refine lv_iload_n hx hb dX10_token_14 rfl (lv_at hl 1 rfl) ?_
      obtain ⟨i_10, hw⟩ := hw
      refine lM_X10_ports F hK hP i_10 dX10_token_15 ?_
      refine lv_iconst (v := 1) hx hb dX10_token_16 (by decide) ?_
      refine lv_isub hx hb dX10_token_17 ?_
      refine csI (As := [.int a2, .int 0, .int ((gA u_1 2 (a1).toNatClampNeg) - 1)]) (rest := []) F hK hP hS (c_X10_in l D ad cI hap H.size _ _ _ _ _ hw) (va_cwS 3 hts gU_X10_131 rfl rfl rfl (by decide +kernel) ⟨Nat.le_of_ble_eq_true rfl, Nat.le_of_ble_eq_true rfl⟩) rfl hl.1 rfl (Nat.le_of_ble_eq_true rfl) dX10_token_18 ⟨Nat.zero_le _, Nat.zero_le _⟩ (fun r_4 u_3 H locs hw hP hS => ?_)
      obtain ⟨zr_4, hw⟩ := hw
      refine lv_if_eq (tgt := 33) hx hb dX10_token_21 (by decide) (fun c_9 => ?_) (fun c_9 => ?_)
      · have hw := hw.1 c_9
        refine lv_iconst (v := (-1)) hx hb dX10_token_33 (by decide) ?_
        exact rtI F hr hlocks hK hw hP hS dX10_token_34
      · have hw := hw.2 c_9
        refine lv_aload_n hx hb dX10_token_24 rfl (lv_at hl 0 rfl) ?_
        refine gM_X10_tokens F hK hP (hts _ mw_454) dX10_token_25 ?_
        refine lv_bipush (v := 40) hx hb dX10_token_28 (by decide) ?_
        refine lv_icmp_ne (tgt := 35) hx hb dX10_token_30 (by decide) (fun c_8 => ?_) (fun c_8 => ?_)
        · have hw := hw.1 c_8
          refine lv_aload_n hx hb dX10_token_35 rfl (lv_at hl 0 rfl) ?_
          refine gM_X10_tokenAct F hK hP (hts _ mw_455) dX10_token_36 ?_
          refine lv_aload_n hx hb dX10_token_39 rfl (lv_at hl 0 rfl) ?_
          refine gM_X10_tokens F hK hP (hts _ mw_454) dX10_token_40 ?_
          refine lv_iload_n hx hb dX10_token_43 rfl (lv_at hl 1 rfl) ?_
          obtain ⟨i_7, hw⟩ := hw
          refine sM_X10_tokenAct F hK hP hDs hS i_7 dX10_token_44 (fun H locs hP hS => ?_)
          refine lv_aload_n hx hb dX10_token_45 rfl (lv_at hl 0 rfl) ?_
          refine gM_X10_tokenPort F hK hP (hts _ mw_456) dX10_token_46 ?_
          refine lv_aload_n hx hb dX10_token_49 rfl (lv_at hl 0 rfl) ?_
          refine gM_X10_tokens F hK hP (hts _ mw_454) dX10_token_50 ?_
          refine jvi (y := (gS u_3 2)) (by simp only [gS_sS, gS_sA, gS_sL, gS_fA, gS_fL, gA_sS, gA_sA, gA_sL, gA_fA, gA_fL, gL_sS, gL_sA, gL_sL, gL_fA, gL_fL, reduceIte, Nat.reduceEqDiff]) ?_
          refine lv_iload_n hx hb dX10_token_53 rfl (lv_at hl 2 rfl) ?_
          obtain ⟨i_6, hw⟩ := hw
          refine sM_X10_tokenPort F hK hP hDs hS i_6 dX10_token_54 (fun H locs hP hS => ?_)
          refine lv_aload_n hx hb dX10_token_55 rfl (lv_at hl 0 rfl) ?_
          refine gM_X10_tokenValue F hK hP (hts _ mw_457) dX10_token_56 ?_
          refine lv_aload_n hx hb dX10_token_59 rfl (lv_at hl 0 rfl) ?_
          refine gM_X10_tokens F hK hP (hts _ mw_454) dX10_token_60 ?_
          refine jvi (y := (gS u_3 2)) (by simp only [gS_sS, gS_sA, gS_sL, gS_fA, gS_fL, gA_sS, gA_sA, gA_sL, gA_fA, gA_fL, gL_sS, gL_sA, gL_sL, gL_fA, gL_fL, reduceIte, Nat.reduceEqDiff]) ?_
          refine lv_iload_n hx hb dX10_token_63 rfl (lv_at hl 3 rfl) ?_
          obtain ⟨i_5, hw⟩ := hw
          refine sM_X10_tokenValue F hK hP hDs hS i_5 dX10_token_64 (fun H locs hP hS => ?_)
          refine lv_aload_n hx hb dX10_token_65 rfl (lv_at hl 0 rfl) ?_
          refine lv_dup hx hb dX10_token_66 rfl ?_
          refine gM_X10_tokens F hK hP (hts _ mw_454) dX10_token_67 ?_
          refine jvi (y := (gS u_3 2)) (by simp only [gS_sS, gS_sA, gS_sL, gS_fA, gS_fL, gA_sS, gA_sA, gA_sL, gA_fA, gA_fL, gL_sS, gL_sA, gL_sL, gL_fA, gL_fL, reduceIte, Nat.reduceEqDiff]) ?_
          refine lv_iconst (v := 1) hx hb dX10_token_70 (by decide) ?_
          refine lv_iadd hx hb dX10_token_71 ?_
          refine pM_X10_tokens F hK hP hDs hS (hts _ mw_454) dX10_token_72 (fun H locs hP hS => ?_)
          refine lv_aload_n hx hb dX10_token_75 rfl (lv_at hl 0 rfl) ?_
          refine gM_X10_tokens F hK hP (hts _ mw_454) dX10_token_76 ?_
          refine jvi (y := ((gS u_3 2) + 1)) (by simp only [gS_sS, gS_sA, gS_sL, gS_fA, gS_fL, gA_sS, gA_sA, gA_sL, gA_fA, gA_fL, gL_sS, gL_sA, gL_sL, gL_fA, gL_fL, reduceIte, Nat.reduceEqDiff]) ?_
          exact rtI F hr hlocks hK hw hP hS dX10_token_79
        · have hw := hw.2 c_8
          refine lv_iconst (v := (-1)) hx hb dX10_token_33 (by decide) ?_
          exact rtI F hr hlocks hK hw hP hS dX10_token_34
  exact key s.heap [] hP hS

abbrev rm_X10_clear : Room := { frames := 1, cells := 0, slots := 0, locals := 22 }
set_option maxHeartbeats 4000000 in
set_option maxRecDepth 100000 in
theorem c_X10_clear (l : Launch) (D : va_G) (ad : Nat → Nat) (cI : ClassId) (hap : apart ad 40) (sz : Nat) (σ : St) (a1 : Int32) (K : Int32 → St → Prop) (hw : w_X10_clear σ a1 K) : Met l yX10_clear wU_X10_clear rm_X10_clear (va_Pc [.ref (ad 0), .int a1] (fun U => U.heap.size = sz ∧ inW D (wdM ad cI) [(cI, .int)] σ U)) (va_Qi (fun r u => zb r ∧ K r u) (inW D (wdM ad cI) [(cI, .int)]) (AW ad 40 sz)) 0 0 (AW ad 40 sz) := by
  refine Met.ofW (cc := cX10_clear) (maxL := 2) (ret := (some .boolean)) (by decide) rfl ?_
  intro p e s m args below meth c s₁ B hml hv
  obtain ⟨rfl, hsz, ⟨hP, hK⟩⟩ := hv
  have F : CallFix p m c cX10_clear 2 s ([.ref (ad 0), .int a1] : List Value).toArray lw_U RX10 := ⟨B.exec, B.bytes, hml, findClass_of_methodNamed B.named, fun w h => atoms_spec (ws := wU_X10_clear) B.pre w (List.mem_cons_of_mem _ h)⟩
  have hx := F.1
  have hb := F.2.1
  have hown := F.2.2.2.1
  have hts := F.2.2.2.2
  have hr := B.returns
  have hlocks := B.notSynchronized
  subst hsz
  have hDs : ∀ σ, va_D (AW ad 40 s.heap.size) ((wdM ad cI) σ) := fun σ => wdM_D hap σ
  have hS : va_S (AW ad 40 s.heap.size) s.heap s.heap [] := va_S.rf
  have lab_25 : ∀ (σ : St) (x1 : Int32) (H : Heap) (locs : List Loc) (ls : Array Slot), b_X10_clear_25 K σ x1 → va_P D vwCl ((wdM ad cI) σ) H → va_S (AW ad 40 s.heap.size) s.heap H locs → lv_has ls 2 [(0, .ref (ad 0)), (1, .int x1)] → W p l e (headSpec wU_X10_clear rm_X10_clear).room s m ([.ref (ad 0), .int a1] : List Value).toArray below meth c H locs 0 0 (MQ below (va_Qi (fun r u => zb r ∧ K r u) (inW D (wdM ad cI) [(cI, .int)]) (AW ad 40 s.heap.size)) ([.ref (ad 0), .int a1] : List Value).toArray s 0 0 (AW ad 40 s.heap.size)) (F0 m 25 ls []) := by
    intro σ x1 H locs ls hw hP hS hl
    unfold b_X10_clear_25 at hw
    refine lv_iload_n hx hb dX10_clear_25 rfl (lv_at hl 1 rfl) ?_
    refine lv_iconst (v := 1) hx hb dX10_clear_26 (by decide) ?_
    refine lv_icmp_le (tgt := 35) hx hb dX10_clear_27 (by decide) (fun c_1 => ?_) (fun c_1 => ?_)
    · have hw := hw.1 c_1
      refine lv_aload_n hx hb dX10_clear_35 rfl (lv_at hl 0 rfl) ?_
      refine lv_iconst (v := 0) hx hb dX10_clear_36 (by decide) ?_
      refine pM_X10_isRun F hK hP hDs hS (hts _ mw_458) dX10_clear_37 (Or.inl rfl) (fun H locs hP hS => ?_)
      refine lv_iconst (v := 1) hx hb dX10_clear_40 (by decide) ?_
      exact rtZ F hr hlocks hK hw (Or.inr rfl) hP hS dX10_clear_41
    · have hw := hw.2 c_1
      refine lv_aload_n hx hb dX10_clear_30 rfl (lv_at hl 0 rfl) ?_
      refine lv_iconst (v := 0) hx hb dX10_clear_31 (by decide) ?_
      refine pM_X10_acts F hK hP hDs hS (hts _ mw_434) dX10_clear_32 (fun H locs hP hS => ?_)
      refine lv_aload_n hx hb dX10_clear_35 rfl (lv_at hl 0 rfl) ?_
      refine lv_iconst (v := 0) hx hb dX10_clear_36 (by decide) ?_
      refine pM_X10_isRun F hK hP hDs hS (hts _ mw_458) dX10_clear_37 (Or.inl rfl) (fun H locs hP hS => ?_)
      refine lv_iconst (v := 1) hx hb dX10_clear_40 (by decide) ?_
      exact rtZ F hr hlocks hK hw (Or.inr rfl) hP hS dX10_clear_41
  have hl := lv_entry ([.ref (ad 0), .int a1]) (n := 2) (Nat.le_of_ble_eq_true rfl)
  rw [lg_entry_eq]
  generalize (lg_sl ([.ref (ad 0), .int a1]) ++ List.replicate (2 - (lg_sl ([.ref (ad 0), .int a1])).length) Slot.unset).toArray = ls at hl ⊢
  have hl : lv_has ls 2 [(0, .ref (ad 0)), (1, .int a1)] := hl
  have key : ∀ (H : Heap) (locs : List Loc), va_P D vwCl ((wdM ad cI) σ) H → va_S (AW ad 40 s.heap.size) s.heap H locs → W p l e (headSpec wU_X10_clear rm_X10_clear).room s m ([.ref (ad 0), .int a1] : List Value).toArray below meth c H locs 0 0 (MQ below (va_Qi (fun r u => zb r ∧ K r u) (inW D (wdM ad cI) [(cI, .int)]) (AW ad 40 s.heap.size)) ([.ref (ad 0), .int a1] : List Value).toArray s 0 0 (AW ad 40 s.heap.size)) (F0 m 0 ls []) := by
    intro H locs hP hS
    unfold w_X10_clear at hw
    refine lv_iload_n hx hb dX10_clear_0 rfl (lv_at hl 1 rfl) ?_
    refine lv_iconst (v := 0) hx hb dX10_clear_1 (by decide) ?_
    refine lv_iconst (v := 2) hx hb dX10_clear_2 (by decide) ?_
    refine csI (As := [.int a1, .int 0, .int 2]) (rest := []) F hK hP hS (c_X10_in l D ad cI hap H.size _ _ _ _ _ hw) (va_cwS 3 hts gU_X10_131 rfl rfl rfl (by decide +kernel) ⟨Nat.le_of_ble_eq_true rfl, Nat.le_of_ble_eq_true rfl⟩) rfl hl.1 rfl (Nat.le_of_ble_eq_true rfl) dX10_clear_3 ⟨Nat.zero_le _, Nat.zero_le _⟩ (fun r_3 u_2 H locs hw hP hS => ?_)
    obtain ⟨zr_3, hw⟩ := hw
    refine lv_if_ne (tgt := 11) hx hb dX10_clear_6 (by decide) (fun c_5 => ?_) (fun c_5 => ?_)
    · have hw := hw.1 c_5
      refine lv_aload_n hx hb dX10_clear_11 rfl (lv_at hl 0 rfl) ?_
      refine lv_iconst (v := 0) hx hb dX10_clear_12 (by decide) ?_
      refine pM_X10_tokens F hK hP hDs hS (hts _ mw_454) dX10_clear_13 (fun H locs hP hS => ?_)
      refine lv_iload_n hx hb dX10_clear_16 rfl (lv_at hl 1 rfl) ?_
      refine lv_if_le (tgt := 25) hx hb dX10_clear_17 (by decide) (fun c_4 => ?_) (fun c_4 => ?_)
      · have hw := hw.1 c_4
        exact lab_25 _ _ _ _ _ hw hP hS (lv_sub hl [0, 1] rfl)
      · have hw := hw.2 c_4
        refine lv_aload_n hx hb dX10_clear_20 rfl (lv_at hl 0 rfl) ?_
        refine lv_iconst (v := 0) hx hb dX10_clear_21 (by decide) ?_
        refine pM_X10_ways F hK hP hDs hS (hts _ mw_445) dX10_clear_22 (fun H locs hP hS => ?_)
        exact lab_25 _ _ _ _ _ hw hP hS (lv_sub hl [0, 1] rfl)
    · have hw := hw.2 c_5
      refine lv_iconst (v := 0) hx hb dX10_clear_9 (by decide) ?_
      exact rtZ F hr hlocks hK hw (Or.inl rfl) hP hS dX10_clear_10
  exact key s.heap [] hP hS

abbrev rm_X10_stops : Room := { frames := 0, cells := 0, slots := 0, locals := 0 }
set_option maxHeartbeats 4000000 in
set_option maxRecDepth 100000 in
theorem c_X10_stops (l : Launch) (D : va_G) (ad : Nat → Nat) (cI : ClassId) (hap : apart ad 40) (sz : Nat) (σ : St) (a1 : Int32) (a2 : Int32) (K : Int32 → St → Prop) (hw : w_X10_stops σ a1 a2 K) : Met l yX10_stops wU_X10_stops rm_X10_stops (va_Pc [.ref (ad 0), .int a1, .int a2] (fun U => U.heap.size = sz ∧ inW D (wdM ad cI) [(cI, .int)] σ U)) (va_Qi (fun r u => zb r ∧ K r u) (inW D (wdM ad cI) [(cI, .int)]) (AW ad 40 sz)) 0 0 (AW ad 40 sz) := by
  refine Met.ofW (cc := cX10_stops) (maxL := 3) (ret := (some .boolean)) (by decide) rfl ?_
  intro p e s m args below meth c s₁ B hml hv
  obtain ⟨rfl, hsz, ⟨hP, hK⟩⟩ := hv
  have F : CallFix p m c cX10_stops 3 s ([.ref (ad 0), .int a1, .int a2] : List Value).toArray lw_U RX10 := ⟨B.exec, B.bytes, hml, findClass_of_methodNamed B.named, fun w h => atoms_spec (ws := wU_X10_stops) B.pre w (List.mem_cons_of_mem _ h)⟩
  have hx := F.1
  have hb := F.2.1
  have hown := F.2.2.2.1
  have hts := F.2.2.2.2
  have hr := B.returns
  have hlocks := B.notSynchronized
  subst hsz
  have hDs : ∀ σ, va_D (AW ad 40 s.heap.size) ((wdM ad cI) σ) := fun σ => wdM_D hap σ
  have hS : va_S (AW ad 40 s.heap.size) s.heap s.heap [] := va_S.rf
  have hl := lv_entry ([.ref (ad 0), .int a1, .int a2]) (n := 3) (Nat.le_of_ble_eq_true rfl)
  rw [lg_entry_eq]
  generalize (lg_sl ([.ref (ad 0), .int a1, .int a2]) ++ List.replicate (3 - (lg_sl ([.ref (ad 0), .int a1, .int a2])).length) Slot.unset).toArray = ls at hl ⊢
  have hl : lv_has ls 3 [(0, .ref (ad 0)), (1, .int a1), (2, .int a2)] := hl
  have key : ∀ (H : Heap) (locs : List Loc), va_P D vwCl ((wdM ad cI) σ) H → va_S (AW ad 40 s.heap.size) s.heap H locs → W p l e (headSpec wU_X10_stops rm_X10_stops).room s m ([.ref (ad 0), .int a1, .int a2] : List Value).toArray below meth c H locs 0 0 (MQ below (va_Qi (fun r u => zb r ∧ K r u) (inW D (wdM ad cI) [(cI, .int)]) (AW ad 40 s.heap.size)) ([.ref (ad 0), .int a1, .int a2] : List Value).toArray s 0 0 (AW ad 40 s.heap.size)) (F0 m 0 ls []) := by
    intro H locs hP hS
    unfold w_X10_stops at hw
    refine lv_aload_n hx hb dX10_stops_0 rfl (lv_at hl 0 rfl) ?_
    refine lv_iload_n hx hb dX10_stops_1 rfl (lv_at hl 1 rfl) ?_
    refine pM_X10_how F hK hP hDs hS (hts _ mw_459) dX10_stops_2 (fun H locs hP hS => ?_)
    refine lv_aload_n hx hb dX10_stops_5 rfl (lv_at hl 0 rfl) ?_
    refine lv_iload_n hx hb dX10_stops_6 rfl (lv_at hl 2 rfl) ?_
    refine pM_X10_clash F hK hP hDs hS (hts _ mw_460) dX10_stops_7 (fun H locs hP hS => ?_)
    refine lv_aload_n hx hb dX10_stops_10 rfl (lv_at hl 0 rfl) ?_
    refine lv_iconst (v := 1) hx hb dX10_stops_11 (by decide) ?_
    refine pM_X10_isStopped F hK hP hDs hS (hts _ mw_461) dX10_stops_12 (Or.inr rfl) (fun H locs hP hS => ?_)
    refine lv_iconst (v := 0) hx hb dX10_stops_15 (by decide) ?_
    exact rtZ F hr hlocks hK hw (Or.inl rfl) hP hS dX10_stops_16
  exact key s.heap [] hP hS

abbrev rm_X10_colour : Room := { frames := 1, cells := 0, slots := 0, locals := 22 }
set_option maxHeartbeats 4000000 in
set_option maxRecDepth 100000 in
theorem c_X10_colour (l : Launch) (D : va_G) (ad : Nat → Nat) (cI : ClassId) (hap : apart ad 40) (sz : Nat) (σ : St) (a1 : Int32) (a2 : Int32) (a3 : Int32) (a4 : Int32) (K : Int32 → St → Prop) (hw : w_X10_colour σ a1 a2 a3 a4 K) : Met l yX10_colour wU_X10_colour rm_X10_colour (va_Pc [.ref (ad 0), .int a1, .int a2, .int a3, .int a4] (fun U => U.heap.size = sz ∧ inW D (wdM ad cI) [(cI, .int)] σ U)) (va_Qi K (inW D (wdM ad cI) [(cI, .int)]) (AW ad 40 sz)) 0 0 (AW ad 40 sz) := by
  refine Met.ofW (cc := cX10_colour) (maxL := 6) (ret := (some .int)) (by decide) rfl ?_
  intro p e s m args below meth c s₁ B hml hv
  obtain ⟨rfl, hsz, ⟨hP, hK⟩⟩ := hv
  have F : CallFix p m c cX10_colour 6 s ([.ref (ad 0), .int a1, .int a2, .int a3, .int a4] : List Value).toArray lw_U RX10 := ⟨B.exec, B.bytes, hml, findClass_of_methodNamed B.named, fun w h => atoms_spec (ws := wU_X10_colour) B.pre w (List.mem_cons_of_mem _ h)⟩
  have hx := F.1
  have hb := F.2.1
  have hown := F.2.2.2.1
  have hts := F.2.2.2.2
  have hr := B.returns
  have hlocks := B.notSynchronized
  subst hsz
  have hDs : ∀ σ, va_D (AW ad 40 s.heap.size) ((wdM ad cI) σ) := fun σ => wdM_D hap σ
  have hS : va_S (AW ad 40 s.heap.size) s.heap s.heap [] := va_S.rf
  have lab_3 : ∀ (n : Nat), ∀ (σ : St) (x1 : Int32) (x2 : Int32) (x3 : Int32) (x4 : Int32) (x5 : Int32) (H : Heap) (locs : List Loc) (ls : Array Slot), w_X10_colour_3 K n σ x1 x2 x3 x4 x5 → va_P D vwCl ((wdM ad cI) σ) H → va_S (AW ad 40 s.heap.size) s.heap H locs → lv_has ls 6 [(0, .ref (ad 0)), (1, .int x1), (2, .int x2), (3, .int x3), (4, .int x4), (5, .int x5)] → W p l e (headSpec wU_X10_colour rm_X10_colour).room s m ([.ref (ad 0), .int a1, .int a2, .int a3, .int a4] : List Value).toArray below meth c H locs 0 0 (MQ below (va_Qi K (inW D (wdM ad cI) [(cI, .int)]) (AW ad 40 s.heap.size)) ([.ref (ad 0), .int a1, .int a2, .int a3, .int a4] : List Value).toArray s 0 0 (AW ad 40 s.heap.size)) (F0 m 3 ls []) := by
    intro n
    induction n with
    | zero =>
      intro σ x1 x2 x3 x4 x5 H locs ls hw
      exact hw.elim
    | succ n hL3 =>
      intro σ x1 x2 x3 x4 x5 H locs ls hw hP hS hl
      have hw : b_X10_colour_3 (w_X10_colour_3 K n) K σ x1 x2 x3 x4 x5 := hw
      unfold b_X10_colour_3 at hw
      generalize w_X10_colour_3 K n = L3 at hw hL3
      refine lv_iload hx hb dX10_colour_3 (lv_at hl 5 rfl) ?_
      refine lv_aload_n hx hb dX10_colour_5 rfl (lv_at hl 0 rfl) ?_
      refine gM_X10_colours F hK hP (hts _ mw_462) dX10_colour_6 ?_
      refine lv_icmp_ge (tgt := 66) hx hb dX10_colour_9 (by decide) (fun c_16 => ?_) (fun c_16 => ?_)
      · have hw := hw.1 c_16
        refine lv_aload_n hx hb dX10_colour_66 rfl (lv_at hl 0 rfl) ?_
        refine gM_X10_colours F hK hP (hts _ mw_462) dX10_colour_67 ?_
        refine lv_sipush (v := 600) hx hb dX10_colour_70 (by decide) ?_
        refine lv_icmp_ne (tgt := 85) hx hb dX10_colour_73 (by decide) (fun c_7 => ?_) (fun c_7 => ?_)
        · have hw := hw.1 c_7
          refine lv_aload_n hx hb dX10_colour_85 rfl (lv_at hl 0 rfl) ?_
          refine gM_X10_cSort F hK hP (hts _ mw_463) dX10_colour_86 ?_
          refine lv_aload_n hx hb dX10_colour_89 rfl (lv_at hl 0 rfl) ?_
          refine gM_X10_colours F hK hP (hts _ mw_462) dX10_colour_90 ?_
          refine lv_iload_n hx hb dX10_colour_93 rfl (lv_at hl 1 rfl) ?_
          obtain ⟨i_4, hw⟩ := hw
          refine sM_X10_cSort F hK hP hDs hS i_4 dX10_colour_94 (fun H locs hP hS => ?_)
          refine lv_aload_n hx hb dX10_colour_95 rfl (lv_at hl 0 rfl) ?_
          refine gM_X10_cOf F hK hP (hts _ mw_464) dX10_colour_96 ?_
          refine lv_aload_n hx hb dX10_colour_99 rfl (lv_at hl 0 rfl) ?_
          refine gM_X10_colours F hK hP (hts _ mw_462) dX10_colour_100 ?_
          refine jvi (y := (gS σ 12)) (by simp only [gS_sS, gS_sA, gS_sL, gS_fA, gS_fL, gA_sS, gA_sA, gA_sL, gA_fA, gA_fL, gL_sS, gL_sA, gL_sL, gL_fA, gL_fL, reduceIte, Nat.reduceEqDiff]) ?_
          refine lv_iload_n hx hb dX10_colour_103 rfl (lv_at hl 2 rfl) ?_
          obtain ⟨i_3, hw⟩ := hw
          refine sM_X10_cOf F hK hP hDs hS i_3 dX10_colour_104 (fun H locs hP hS => ?_)
          refine lv_aload_n hx hb dX10_colour_105 rfl (lv_at hl 0 rfl) ?_
          refine gM_X10_cTurn F hK hP (hts _ mw_465) dX10_colour_106 ?_
          refine lv_aload_n hx hb dX10_colour_109 rfl (lv_at hl 0 rfl) ?_
          refine gM_X10_colours F hK hP (hts _ mw_462) dX10_colour_110 ?_
          refine jvi (y := (gS σ 12)) (by simp only [gS_sS, gS_sA, gS_sL, gS_fA, gS_fL, gA_sS, gA_sA, gA_sL, gA_fA, gA_fL, gL_sS, gL_sA, gL_sL, gL_fA, gL_fL, reduceIte, Nat.reduceEqDiff]) ?_
          refine lv_iload_n hx hb dX10_colour_113 rfl (lv_at hl 3 rfl) ?_
          obtain ⟨i_2, hw⟩ := hw
          refine sM_X10_cTurn F hK hP hDs hS i_2 dX10_colour_114 (fun H locs hP hS => ?_)
          refine lv_aload_n hx hb dX10_colour_115 rfl (lv_at hl 0 rfl) ?_
          refine gM_X10_cIn F hK hP (hts _ mw_466) dX10_colour_116 ?_
          refine lv_aload_n hx hb dX10_colour_119 rfl (lv_at hl 0 rfl) ?_
          refine gM_X10_colours F hK hP (hts _ mw_462) dX10_colour_120 ?_
          refine jvi (y := (gS σ 12)) (by simp only [gS_sS, gS_sA, gS_sL, gS_fA, gS_fL, gA_sS, gA_sA, gA_sL, gA_fA, gA_fL, gL_sS, gL_sA, gL_sL, gL_fA, gL_fL, reduceIte, Nat.reduceEqDiff]) ?_
          refine lv_iload hx hb dX10_colour_123 (lv_at hl 4 rfl) ?_
          obtain ⟨i_1, hw⟩ := hw
          refine sM_X10_cIn F hK hP hDs hS i_1 dX10_colour_125 (fun H locs hP hS => ?_)
          refine lv_aload_n hx hb dX10_colour_126 rfl (lv_at hl 0 rfl) ?_
          refine lv_dup hx hb dX10_colour_127 rfl ?_
          refine gM_X10_colours F hK hP (hts _ mw_462) dX10_colour_128 ?_
          refine jvi (y := (gS σ 12)) (by simp only [gS_sS, gS_sA, gS_sL, gS_fA, gS_fL, gA_sS, gA_sA, gA_sL, gA_fA, gA_fL, gL_sS, gL_sA, gL_sL, gL_fA, gL_fL, reduceIte, Nat.reduceEqDiff]) ?_
          refine lv_iconst (v := 1) hx hb dX10_colour_131 (by decide) ?_
          refine lv_iadd hx hb dX10_colour_132 ?_
          refine pM_X10_colours F hK hP hDs hS (hts _ mw_462) dX10_colour_133 (fun H locs hP hS => ?_)
          refine lv_aload_n hx hb dX10_colour_136 rfl (lv_at hl 0 rfl) ?_
          refine gM_X10_colours F hK hP (hts _ mw_462) dX10_colour_137 ?_
          refine jvi (y := ((gS σ 12) + 1)) (by simp only [gS_sS, gS_sA, gS_sL, gS_fA, gS_fL, gA_sS, gA_sA, gA_sL, gA_fA, gA_fL, gL_sS, gL_sA, gL_sL, gL_fA, gL_fL, reduceIte, Nat.reduceEqDiff]) ?_
          refine lv_iconst (v := 1) hx hb dX10_colour_140 (by decide) ?_
          refine lv_isub hx hb dX10_colour_141 ?_
          exact rtI F hr hlocks hK hw hP hS dX10_colour_142
        · have hw := hw.2 c_7
          refine lv_aload_n hx hb dX10_colour_76 rfl (lv_at hl 0 rfl) ?_
          refine lv_iconst (v := 2) hx hb dX10_colour_77 (by decide) ?_
          refine lv_iconst (v := (-1)) hx hb dX10_colour_78 (by decide) ?_
          refine cvI (As := [.int 2, .int (-1)]) (rest := []) F hK hP hS (c_X10_stops l D ad cI hap H.size _ _ _ _ hw) (cwV 2 hts gU_X10_165 rfl rfl rfl (by decide +kernel) ⟨Nat.le_of_ble_eq_true rfl, Nat.le_of_ble_eq_true rfl⟩) (va_recv hK hP (ci := 7) (q0 := 0) rfl rfl) rfl hl.1 rfl (Nat.le_of_ble_eq_true rfl) dX10_colour_79 ⟨Nat.zero_le _, Nat.zero_le _⟩ (fun r_6 u_5 H locs hw hP hS => ?_)
          obtain ⟨zr_6, hw⟩ := hw
          refine lv_pop hx hb dX10_colour_82 rfl ?_
          refine lv_iconst (v := (-1)) hx hb dX10_colour_83 (by decide) ?_
          exact rtI F hr hlocks hK hw hP hS dX10_colour_84
      · have hw := hw.2 c_16
        refine lv_aload_n hx hb dX10_colour_12 rfl (lv_at hl 0 rfl) ?_
        refine gM_X10_cSort F hK hP (hts _ mw_463) dX10_colour_13 ?_
        refine lv_iload hx hb dX10_colour_16 (lv_at hl 5 rfl) ?_
        obtain ⟨i_15, hw⟩ := hw
        refine lM_X10_cSort F hK hP i_15 dX10_colour_18 ?_
        refine lv_iload_n hx hb dX10_colour_19 rfl (lv_at hl 1 rfl) ?_
        refine lv_icmp_ne (tgt := 60) hx hb dX10_colour_20 (by decide) (fun c_14 => ?_) (fun c_14 => ?_)
        · have hw := hw.1 c_14
          refine lv_iinc (v := (x5 + 1)) (lv' := [(5, .int (x5 + 1)), (0, .ref (ad 0)), (1, .int x1), (2, .int x2), (3, .int x3), (4, .int x4)]) hx hb dX10_colour_60 hl (k := 5) rfl rfl (by decide) rfl (fun ls hl => ?_)
          refine lv_goto (tgt := 3) hx hb dX10_colour_63 (by decide) ?_
          exact hL3 _ _ _ _ _ _ _ _ _ hw hP hS (lv_sub hl [1, 2, 3, 4, 5, 0] rfl)
        · have hw := hw.2 c_14
          refine lv_aload_n hx hb dX10_colour_23 rfl (lv_at hl 0 rfl) ?_
          refine gM_X10_cOf F hK hP (hts _ mw_464) dX10_colour_24 ?_
          refine lv_iload hx hb dX10_colour_27 (lv_at hl 5 rfl) ?_
          obtain ⟨i_13, hw⟩ := hw
          refine lM_X10_cOf F hK hP i_13 dX10_colour_29 ?_
          refine lv_iload_n hx hb dX10_colour_30 rfl (lv_at hl 2 rfl) ?_
          refine lv_icmp_ne (tgt := 60) hx hb dX10_colour_31 (by decide) (fun c_12 => ?_) (fun c_12 => ?_)
          · have hw := hw.1 c_12
            refine lv_iinc (v := (x5 + 1)) (lv' := [(5, .int (x5 + 1)), (0, .ref (ad 0)), (1, .int x1), (2, .int x2), (3, .int x3), (4, .int x4)]) hx hb dX10_colour_60 hl (k := 5) rfl rfl (by decide) rfl (fun ls hl => ?_)
            refine lv_goto (tgt := 3) hx hb dX10_colour_63 (by decide) ?_
            exact hL3 _ _ _ _ _ _ _ _ _ hw hP hS (lv_sub hl [1, 2, 3, 4, 5, 0] rfl)
          · have hw := hw.2 c_12
            refine lv_aload_n hx hb dX10_colour_34 rfl (lv_at hl 0 rfl) ?_
            refine gM_X10_cTurn F hK hP (hts _ mw_465) dX10_colour_35 ?_
            refine lv_iload hx hb dX10_colour_38 (lv_at hl 5 rfl) ?_
            obtain ⟨i_11, hw⟩ := hw
            refine lM_X10_cTurn F hK hP i_11 dX10_colour_40 ?_
            refine lv_iload_n hx hb dX10_colour_41 rfl (lv_at hl 3 rfl) ?_
            refine lv_icmp_ne (tgt := 60) hx hb dX10_colour_42 (by decide) (fun c_10 => ?_) (fun c_10 => ?_)
            · have hw := hw.1 c_10
              refine lv_iinc (v := (x5 + 1)) (lv' := [(5, .int (x5 + 1)), (0, .ref (ad 0)), (1, .int x1), (2, .int x2), (3, .int x3), (4, .int x4)]) hx hb dX10_colour_60 hl (k := 5) rfl rfl (by decide) rfl (fun ls hl => ?_)
              refine lv_goto (tgt := 3) hx hb dX10_colour_63 (by decide) ?_
              exact hL3 _ _ _ _ _ _ _ _ _ hw hP hS (lv_sub hl [1, 2, 3, 4, 5, 0] rfl)
            · have hw := hw.2 c_10
              refine lv_aload_n hx hb dX10_colour_45 rfl (lv_at hl 0 rfl) ?_
              refine gM_X10_cIn F hK hP (hts _ mw_466) dX10_colour_46 ?_
              refine lv_iload hx hb dX10_colour_49 (lv_at hl 5 rfl) ?_
              obtain ⟨i_9, hw⟩ := hw
              refine lM_X10_cIn F hK hP i_9 dX10_colour_51 ?_
              refine lv_iload hx hb dX10_colour_52 (lv_at hl 4 rfl) ?_
              refine lv_icmp_ne (tgt := 60) hx hb dX10_colour_54 (by decide) (fun c_8 => ?_) (fun c_8 => ?_)
              · have hw := hw.1 c_8
                refine lv_iinc (v := (x5 + 1)) (lv' := [(5, .int (x5 + 1)), (0, .ref (ad 0)), (1, .int x1), (2, .int x2), (3, .int x3), (4, .int x4)]) hx hb dX10_colour_60 hl (k := 5) rfl rfl (by decide) rfl (fun ls hl => ?_)
                refine lv_goto (tgt := 3) hx hb dX10_colour_63 (by decide) ?_
                exact hL3 _ _ _ _ _ _ _ _ _ hw hP hS (lv_sub hl [1, 2, 3, 4, 5, 0] rfl)
              · have hw := hw.2 c_8
                refine lv_iload hx hb dX10_colour_57 (lv_at hl 5 rfl) ?_
                exact rtI F hr hlocks hK hw hP hS dX10_colour_59
  have hl := lv_entry ([.ref (ad 0), .int a1, .int a2, .int a3, .int a4]) (n := 6) (Nat.le_of_ble_eq_true rfl)
  rw [lg_entry_eq]
  generalize (lg_sl ([.ref (ad 0), .int a1, .int a2, .int a3, .int a4]) ++ List.replicate (6 - (lg_sl ([.ref (ad 0), .int a1, .int a2, .int a3, .int a4])).length) Slot.unset).toArray = ls at hl ⊢
  have hl : lv_has ls 6 [(0, .ref (ad 0)), (1, .int a1), (2, .int a2), (3, .int a3), (4, .int a4)] := hl
  have key : ∀ (H : Heap) (locs : List Loc), va_P D vwCl ((wdM ad cI) σ) H → va_S (AW ad 40 s.heap.size) s.heap H locs → W p l e (headSpec wU_X10_colour rm_X10_colour).room s m ([.ref (ad 0), .int a1, .int a2, .int a3, .int a4] : List Value).toArray below meth c H locs 0 0 (MQ below (va_Qi K (inW D (wdM ad cI) [(cI, .int)]) (AW ad 40 s.heap.size)) ([.ref (ad 0), .int a1, .int a2, .int a3, .int a4] : List Value).toArray s 0 0 (AW ad 40 s.heap.size)) (F0 m 0 ls []) := by
    intro H locs hP hS
    unfold w_X10_colour at hw
    refine lv_iconst (v := 0) hx hb dX10_colour_0 (by decide) ?_
    refine lv_istore (lv' := [(5, .int 0), (0, .ref (ad 0)), (1, .int a1), (2, .int a2), (3, .int a3), (4, .int a4)]) hx hb dX10_colour_1 hl (by decide) rfl (fun ls hl => ?_)
    obtain ⟨n_17, hw⟩ := hw
    exact lab_3 n_17 _ _ _ _ _ _ _ _ _ hw hP hS (lv_sub hl [1, 2, 3, 4, 5, 0] rfl)
  exact key s.heap [] hP hS

abbrev rm_X10_pair : Room := { frames := 1, cells := 0, slots := 0, locals := 22 }
set_option maxHeartbeats 4000000 in
set_option maxRecDepth 100000 in
theorem c_X10_pair (l : Launch) (D : va_G) (ad : Nat → Nat) (cI : ClassId) (hap : apart ad 40) (sz : Nat) (σ : St) (a1 : Int32) (a2 : Int32) (K : Int32 → St → Prop) (hw : w_X10_pair σ a1 a2 K) : Met l yX10_pair wU_X10_pair rm_X10_pair (va_Pc [.ref (ad 0), .int a1, .int a2] (fun U => U.heap.size = sz ∧ inW D (wdM ad cI) [(cI, .int)] σ U)) (va_Qi K (inW D (wdM ad cI) [(cI, .int)]) (AW ad 40 sz)) 0 0 (AW ad 40 sz) := by
  refine Met.ofW (cc := cX10_pair) (maxL := 4) (ret := (some .int)) (by decide) rfl ?_
  intro p e s m args below meth c s₁ B hml hv
  obtain ⟨rfl, hsz, ⟨hP, hK⟩⟩ := hv
  have F : CallFix p m c cX10_pair 4 s ([.ref (ad 0), .int a1, .int a2] : List Value).toArray lw_U RX10 := ⟨B.exec, B.bytes, hml, findClass_of_methodNamed B.named, fun w h => atoms_spec (ws := wU_X10_pair) B.pre w (List.mem_cons_of_mem _ h)⟩
  have hx := F.1
  have hb := F.2.1
  have hown := F.2.2.2.1
  have hts := F.2.2.2.2
  have hr := B.returns
  have hlocks := B.notSynchronized
  subst hsz
  have hDs : ∀ σ, va_D (AW ad 40 s.heap.size) ((wdM ad cI) σ) := fun σ => wdM_D hap σ
  have hS : va_S (AW ad 40 s.heap.size) s.heap s.heap [] := va_S.rf
  have lab_7 : ∀ (n : Nat), ∀ (σ : St) (x1 : Int32) (x2 : Int32) (x3 : Int32) (H : Heap) (locs : List Loc) (ls : Array Slot), w_X10_pair_7 K n σ x1 x2 x3 → va_P D vwCl ((wdM ad cI) σ) H → va_S (AW ad 40 s.heap.size) s.heap H locs → lv_has ls 4 [(0, .ref (ad 0)), (1, .int x1), (2, .int x2), (3, .int x3)] → W p l e (headSpec wU_X10_pair rm_X10_pair).room s m ([.ref (ad 0), .int a1, .int a2] : List Value).toArray below meth c H locs 0 0 (MQ below (va_Qi K (inW D (wdM ad cI) [(cI, .int)]) (AW ad 40 s.heap.size)) ([.ref (ad 0), .int a1, .int a2] : List Value).toArray s 0 0 (AW ad 40 s.heap.size)) (F0 m 7 ls []) := by
    intro n
    induction n with
    | zero =>
      intro σ x1 x2 x3 H locs ls hw
      exact hw.elim
    | succ n hL7 =>
      intro σ x1 x2 x3 H locs ls hw hP hS hl
      have hw : b_X10_pair_7 (w_X10_pair_7 K n) K σ x1 x2 x3 := hw
      unfold b_X10_pair_7 at hw
      generalize w_X10_pair_7 K n = L7 at hw hL7
      refine lv_iload_n hx hb dX10_pair_7 rfl (lv_at hl 3 rfl) ?_
      refine lv_if_lt (tgt := 33) hx hb dX10_pair_8 (by decide) (fun c_14 => ?_) (fun c_14 => ?_)
      · have hw := hw.1 c_14
        refine lv_aload_n hx hb dX10_pair_33 rfl (lv_at hl 0 rfl) ?_
        refine gM_X10_pairs F hK hP (hts _ mw_471) dX10_pair_34 ?_
        refine lv_sipush (v := 3000) hx hb dX10_pair_37 (by decide) ?_
        refine lv_icmp_ne (tgt := 52) hx hb dX10_pair_40 (by decide) (fun c_10 => ?_) (fun c_10 => ?_)
        · have hw := hw.1 c_10
          refine lv_aload_n hx hb dX10_pair_52 rfl (lv_at hl 0 rfl) ?_
          refine gM_X10_pairs F hK hP (hts _ mw_471) dX10_pair_53 ?_
          refine lv_istore_n (lv' := [(3, .int (gS σ 13)), (0, .ref (ad 0)), (1, .int x1), (2, .int x2)]) hx hb dX10_pair_56 rfl hl (by decide) rfl (fun ls hl => ?_)
          refine lv_aload_n hx hb dX10_pair_57 rfl (lv_at hl 1 rfl) ?_
          refine gM_X10_pAct F hK hP (hts _ mw_472) dX10_pair_58 ?_
          refine lv_iload_n hx hb dX10_pair_61 rfl (lv_at hl 0 rfl) ?_
          refine lv_iload_n hx hb dX10_pair_62 rfl (lv_at hl 2 rfl) ?_
          obtain ⟨i_7, hw⟩ := hw
          refine sM_X10_pAct F hK hP hDs hS i_7 dX10_pair_63 (fun H locs hP hS => ?_)
          refine lv_aload_n hx hb dX10_pair_64 rfl (lv_at hl 1 rfl) ?_
          refine gM_X10_pColour F hK hP (hts _ mw_473) dX10_pair_65 ?_
          refine lv_iload_n hx hb dX10_pair_68 rfl (lv_at hl 0 rfl) ?_
          refine lv_iload_n hx hb dX10_pair_69 rfl (lv_at hl 3 rfl) ?_
          obtain ⟨i_6, hw⟩ := hw
          refine sM_X10_pColour F hK hP hDs hS i_6 dX10_pair_70 (fun H locs hP hS => ?_)
          refine lv_aload_n hx hb dX10_pair_71 rfl (lv_at hl 1 rfl) ?_
          refine gM_X10_pHas F hK hP (hts _ mw_474) dX10_pair_72 ?_
          refine lv_iload_n hx hb dX10_pair_75 rfl (lv_at hl 0 rfl) ?_
          refine lv_iconst (v := 0) hx hb dX10_pair_76 (by decide) ?_
          obtain ⟨i_5, hw⟩ := hw
          refine sM_X10_pHas F hK hP hDs hS i_5 dX10_pair_77 (fun H locs hP hS => ?_)
          refine lv_aload_n hx hb dX10_pair_78 rfl (lv_at hl 1 rfl) ?_
          refine gM_X10_pHow F hK hP (hts _ mw_475) dX10_pair_79 ?_
          refine lv_iload_n hx hb dX10_pair_82 rfl (lv_at hl 0 rfl) ?_
          refine lv_iconst (v := 0) hx hb dX10_pair_83 (by decide) ?_
          obtain ⟨i_4, hw⟩ := hw
          refine sM_X10_pHow F hK hP hDs hS i_4 dX10_pair_84 (fun H locs hP hS => ?_)
          refine lv_aload_n hx hb dX10_pair_85 rfl (lv_at hl 1 rfl) ?_
          refine gM_X10_pNext F hK hP (hts _ mw_476) dX10_pair_86 ?_
          refine lv_iload_n hx hb dX10_pair_89 rfl (lv_at hl 0 rfl) ?_
          refine lv_aload_n hx hb dX10_pair_90 rfl (lv_at hl 1 rfl) ?_
          refine gM_X10_first F hK hP (hts _ mw_477) dX10_pair_91 ?_
          refine lv_iload_n hx hb dX10_pair_94 rfl (lv_at hl 2 rfl) ?_
          obtain ⟨i_3, hw⟩ := hw
          refine lM_X10_first F hK hP i_3 dX10_pair_95 ?_
          refine jvi (y := (gA σ 22 (x1).toNatClampNeg)) (by simp only [gS_sS, gS_sA, gS_sL, gS_fA, gS_fL, gA_sS, gA_sA, gA_sL, gA_fA, gA_fL, gL_sS, gL_sA, gL_sL, gL_fA, gL_fL, reduceIte, Nat.reduceEqDiff]) ?_
          obtain ⟨i_2, hw⟩ := hw
          refine sM_X10_pNext F hK hP hDs hS i_2 dX10_pair_96 (fun H locs hP hS => ?_)
          refine lv_aload_n hx hb dX10_pair_97 rfl (lv_at hl 1 rfl) ?_
          refine gM_X10_first F hK hP (hts _ mw_477) dX10_pair_98 ?_
          refine lv_iload_n hx hb dX10_pair_101 rfl (lv_at hl 2 rfl) ?_
          refine lv_iload_n hx hb dX10_pair_102 rfl (lv_at hl 0 rfl) ?_
          obtain ⟨i_1, hw⟩ := hw
          refine sM_X10_first F hK hP hDs hS i_1 dX10_pair_103 (fun H locs hP hS => ?_)
          refine lv_aload_n hx hb dX10_pair_104 rfl (lv_at hl 1 rfl) ?_
          refine lv_dup hx hb dX10_pair_105 rfl ?_
          refine gM_X10_pairs F hK hP (hts _ mw_471) dX10_pair_106 ?_
          refine jvi (y := (gS σ 13)) (by simp only [gS_sS, gS_sA, gS_sL, gS_fA, gS_fL, gA_sS, gA_sA, gA_sL, gA_fA, gA_fL, gL_sS, gL_sA, gL_sL, gL_fA, gL_fL, reduceIte, Nat.reduceEqDiff]) ?_
          refine lv_iconst (v := 1) hx hb dX10_pair_109 (by decide) ?_
          refine lv_iadd hx hb dX10_pair_110 ?_
          refine pM_X10_pairs F hK hP hDs hS (hts _ mw_471) dX10_pair_111 (fun H locs hP hS => ?_)
          refine lv_iload_n hx hb dX10_pair_114 rfl (lv_at hl 0 rfl) ?_
          exact rtI F hr hlocks hK hw hP hS dX10_pair_115
        · have hw := hw.2 c_10
          refine lv_aload_n hx hb dX10_pair_43 rfl (lv_at hl 0 rfl) ?_
          refine lv_iconst (v := 2) hx hb dX10_pair_44 (by decide) ?_
          refine lv_iconst (v := (-1)) hx hb dX10_pair_45 (by decide) ?_
          refine cvI (As := [.int 2, .int (-1)]) (rest := []) F hK hP hS (c_X10_stops l D ad cI hap H.size _ _ _ _ hw) (cwV 2 hts gU_X10_165 rfl rfl rfl (by decide +kernel) ⟨Nat.le_of_ble_eq_true rfl, Nat.le_of_ble_eq_true rfl⟩) (va_recv hK hP (ci := 7) (q0 := 0) rfl rfl) rfl hl.1 rfl (Nat.le_of_ble_eq_true rfl) dX10_pair_46 ⟨Nat.zero_le _, Nat.zero_le _⟩ (fun r_9 u_8 H locs hw hP hS => ?_)
          obtain ⟨zr_9, hw⟩ := hw
          refine lv_pop hx hb dX10_pair_49 rfl ?_
          refine lv_iconst (v := (-1)) hx hb dX10_pair_50 (by decide) ?_
          exact rtI F hr hlocks hK hw hP hS dX10_pair_51
      · have hw := hw.2 c_14
        refine lv_aload_n hx hb dX10_pair_11 rfl (lv_at hl 0 rfl) ?_
        refine gM_X10_pColour F hK hP (hts _ mw_473) dX10_pair_12 ?_
        refine lv_iload_n hx hb dX10_pair_15 rfl (lv_at hl 3 rfl) ?_
        obtain ⟨i_13, hw⟩ := hw
        refine lM_X10_pColour F hK hP i_13 dX10_pair_16 ?_
        refine lv_iload_n hx hb dX10_pair_17 rfl (lv_at hl 2 rfl) ?_
        refine lv_icmp_ne (tgt := 23) hx hb dX10_pair_18 (by decide) (fun c_12 => ?_) (fun c_12 => ?_)
        · have hw := hw.1 c_12
          refine lv_aload_n hx hb dX10_pair_23 rfl (lv_at hl 0 rfl) ?_
          refine gM_X10_pNext F hK hP (hts _ mw_476) dX10_pair_24 ?_
          refine lv_iload_n hx hb dX10_pair_27 rfl (lv_at hl 3 rfl) ?_
          obtain ⟨i_11, hw⟩ := hw
          refine lM_X10_pNext F hK hP i_11 dX10_pair_28 ?_
          refine lv_istore_n (lv' := [(3, .int (gA σ 18 (x3).toNatClampNeg)), (0, .ref (ad 0)), (1, .int x1), (2, .int x2)]) hx hb dX10_pair_29 rfl hl (by decide) rfl (fun ls hl => ?_)
          refine lv_goto (tgt := 7) hx hb dX10_pair_30 (by decide) ?_
          exact hL7 _ _ _ _ _ _ _ hw hP hS (lv_sub hl [1, 2, 3, 0] rfl)
        · have hw := hw.2 c_12
          refine lv_iload_n hx hb dX10_pair_21 rfl (lv_at hl 3 rfl) ?_
          exact rtI F hr hlocks hK hw hP hS dX10_pair_22
  have hl := lv_entry ([.ref (ad 0), .int a1, .int a2]) (n := 4) (Nat.le_of_ble_eq_true rfl)
  rw [lg_entry_eq]
  generalize (lg_sl ([.ref (ad 0), .int a1, .int a2]) ++ List.replicate (4 - (lg_sl ([.ref (ad 0), .int a1, .int a2])).length) Slot.unset).toArray = ls at hl ⊢
  have hl : lv_has ls 4 [(0, .ref (ad 0)), (1, .int a1), (2, .int a2)] := hl
  have key : ∀ (H : Heap) (locs : List Loc), va_P D vwCl ((wdM ad cI) σ) H → va_S (AW ad 40 s.heap.size) s.heap H locs → W p l e (headSpec wU_X10_pair rm_X10_pair).room s m ([.ref (ad 0), .int a1, .int a2] : List Value).toArray below meth c H locs 0 0 (MQ below (va_Qi K (inW D (wdM ad cI) [(cI, .int)]) (AW ad 40 s.heap.size)) ([.ref (ad 0), .int a1, .int a2] : List Value).toArray s 0 0 (AW ad 40 s.heap.size)) (F0 m 0 ls []) := by
    intro H locs hP hS
    unfold w_X10_pair at hw
    refine lv_aload_n hx hb dX10_pair_0 rfl (lv_at hl 0 rfl) ?_
    refine gM_X10_first F hK hP (hts _ mw_477) dX10_pair_1 ?_
    refine lv_iload_n hx hb dX10_pair_4 rfl (lv_at hl 1 rfl) ?_
    obtain ⟨i_16, hw⟩ := hw
    refine lM_X10_first F hK hP i_16 dX10_pair_5 ?_
    refine lv_istore_n (lv' := [(3, .int (gA σ 22 (a1).toNatClampNeg)), (0, .ref (ad 0)), (1, .int a1), (2, .int a2)]) hx hb dX10_pair_6 rfl hl (by decide) rfl (fun ls hl => ?_)
    obtain ⟨n_15, hw⟩ := hw
    exact lab_7 n_15 _ _ _ _ _ _ _ hw hP hS (lv_sub hl [1, 2, 3, 0] rfl)
  exact key s.heap [] hP hS
