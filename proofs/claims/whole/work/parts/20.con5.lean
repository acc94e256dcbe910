abbrev rm_X4_goMake : Room := { frames := 3, cells := 0, slots := 0, locals := 79 }
set_option maxHeartbeats 4000000 in
set_option maxRecDepth 100000 in
theorem c_X4_goMake (l : Launch) (D : va_G) (ad : Nat → Nat) (cI cJ : ClassId) (hap : apart ad 42) (sz : Nat) (σ : St) (a1 : Int32) (a2 : Int32) (a3 : Int64) (K : St → Prop) (hw : w_X4_goMake σ a1 a2 a3 K) : Met l yX4_goMake wsX4_goMake rm_X4_goMake (va_Pc [.ref (ad 2), .int a1, .int a2, .long a3] (fun U => U.heap.size = sz ∧ inW D (wdC ad cI cJ) [(cI, .int), (cJ, .long)] σ U)) (va_Qv K (inW D (wdC ad cI cJ) [(cI, .int), (cJ, .long)]) (AW ad 42 sz)) 0 0 (AW ad 42 sz) := by
  refine Met.ofW (cc := cX4_goMake) (maxL := 9) (ret := none) (by decide) rfl ?_
  intro p e s m args below meth c s₁ B hml hv
  obtain ⟨rfl, hsz, ⟨hP, hK⟩⟩ := hv
  have F : CallFix p m c cX4_goMake 9 s ([.ref (ad 2), .int a1, .int a2, .long a3] : List Value).toArray wsX4_goMake RX4 := ⟨B.exec, B.bytes, hml, findClass_of_methodNamed B.named, atoms_spec (ws := wsX4_goMake) B.pre⟩
  have hx := F.1
  have hb := F.2.1
  have hown := F.2.2.2.1
  have hts := F.2.2.2.2
  have hr := B.returns
  have hlocks := B.notSynchronized
  subst hsz
  have hDs : ∀ σ, va_D (AW ad 42 s.heap.size) ((wdC ad cI cJ) σ) := fun σ => wdC_D hap σ
  have hS : va_S (AW ad 42 s.heap.size) s.heap s.heap [] := va_S.rf
  have iw_X4 : ∀ w ∈ u_ws RX4 TX4 14, w ∈ wsX4_goMake := by decide +kernel
  have iw_X6 : ∀ w ∈ u_ws RX6 TX6 10, w ∈ wsX4_goMake := by decide +kernel
  have f_f12 := hts (.fieldLink RX4 12 "TokenFloor$Machine" "store" "LTokenFloor$Store;") (by decide +kernel)
  have f_f270 := hts (.fieldLink RX4 270 "TokenFloor$Store" "rowOfAct" "[I") (by decide +kernel)
  have f_f78 := hts (.fieldLink RX4 78 "TokenFloor$Machine" "how" "I") (by decide +kernel)
  have lab_41 : ∀ (σ : St) (x1 : Int32) (x2 : Int32) (x5 : Int64) (x7 : Int32) (H : Heap) (locs : List Loc) (ls : Array Slot), b_X4_goMake_41 K σ x1 x2 x5 x7 → va_P D vwCl ((wdC ad cI cJ) σ) H → va_S (AW ad 42 s.heap.size) s.heap H locs → lv_has ls 9 [(0, .ref (ad 2)), (1, .int x1), (2, .int x2), (5, .long x5), (7, .int x7)] → W p l e (headSpec wsX4_goMake rm_X4_goMake).room s m ([.ref (ad 2), .int a1, .int a2, .long a3] : List Value).toArray below meth c H locs 0 0 (MQ below (va_Qv K (inW D (wdC ad cI cJ) [(cI, .int), (cJ, .long)]) (AW ad 42 s.heap.size)) ([.ref (ad 2), .int a1, .int a2, .long a3] : List Value).toArray s 0 0 (AW ad 42 s.heap.size)) (F0 m 41 ls []) := by
    intro σ x1 x2 x5 x7 H locs ls hw hP hS hl
    unfold b_X4_goMake_41 at hw
    refine lv_lload hx hb dX4_goMake_41 (lv_at hl 3 rfl) ?_
    refine lv_lconst (v := 0) hx hb dX4_goMake_43 (by decide) ?_
    refine W.lcmp hx hb dX4_goMake_44 ?_
    refine lv_if_eq (tgt := 58) hx hb dX4_goMake_45 (by decide) (fun c_16 => ?_) (fun c_16 => ?_)
    · have hw := hw.1 c_16
      refine lv_aload_n hx hb dX4_goMake_58 rfl (lv_at hl 0 rfl) ?_
      refine gC_X4_store F hK iw_X4 hP f_f12 dX4_goMake_59 ?_
      refine lv_iload hx hb dX4_goMake_62 (lv_at hl 4 rfl) ?_
      refine cvI (As := [.int x7]) (rest := []) F hK hP hS (c_X6_make l D ad cI cJ hap H.size _ _ _ hw) (cwV 1 hts gX4_goMake_X6_make rfl rfl rfl (by decide +kernel) ⟨Nat.le_of_ble_eq_true rfl, Nat.le_of_ble_eq_true rfl⟩) (va_recv hK hP (ci := 5) (q0 := 3) rfl rfl) rfl hl.1 rfl (Nat.le_of_ble_eq_true rfl) dX4_goMake_64 ⟨Nat.zero_le _, Nat.zero_le _⟩ (fun r_2 u_1 H locs hw hP hS => ?_)
      refine lv_istore (lv' := [(8, .int r_2), (0, .ref (ad 2)), (1, .int x1), (2, .int x2), (5, .long x5), (7, .int x7)]) hx hb dX4_goMake_67 hl (by decide) rfl (fun ls hl => ?_)
      refine lv_iload hx hb dX4_goMake_69 (lv_at hl 0 rfl) ?_
      refine lv_iconst (v := (-1)) hx hb dX4_goMake_71 (by decide) ?_
      refine lv_icmp_ne (tgt := 81) hx hb dX4_goMake_72 (by decide) (fun c_13 => ?_) (fun c_13 => ?_)
      · have hw := hw.1 c_13
        refine lv_iload_n hx hb dX4_goMake_81 rfl (lv_at hl 3 rfl) ?_
        refine lv_if_ne (tgt := 96) hx hb dX4_goMake_82 (by decide) (fun c_12 => ?_) (fun c_12 => ?_)
        · have hw := hw.1 c_12
          refine lv_aload_n hx hb dX4_goMake_96 rfl (lv_at hl 1 rfl) ?_
          refine lv_iload_n hx hb dX4_goMake_97 rfl (lv_at hl 2 rfl) ?_
          refine lv_iconst (v := 0) hx hb dX4_goMake_98 (by decide) ?_
          refine lv_iload_n hx hb dX4_goMake_99 rfl (lv_at hl 3 rfl) ?_
          refine lv_iload hx hb dX4_goMake_100 (lv_at hl 0 rfl) ?_
          refine csL (As := [.int r_2]) (rest := [.int x2, .int 0, .int x1, .ref (ad 2)]) F hK hP hS (c_X8_ofRow l D ad cI cJ hap H.size _ _ _ hw) (va_cwS 1 hts gX4_goMake_X8_ofRow rfl rfl rfl (by decide +kernel) ⟨Nat.le_of_ble_eq_true rfl, Nat.le_of_ble_eq_true rfl⟩) rfl hl.1 rfl (Nat.le_of_ble_eq_true rfl) dX4_goMake_102 ⟨Nat.zero_le _, Nat.zero_le _⟩ (fun r_4 u_3 H locs hw hP hS => ?_)
          refine cvV (As := [.int x1, .int 0, .int x2, .long r_4]) (rest := []) F hK hP hS (c_X4_give l D ad cI cJ hap H.size _ _ _ _ _ _ hw) (cwV 4 hts gX4_goMake_X4_give rfl rfl rfl (by decide +kernel) ⟨Nat.le_of_ble_eq_true rfl, Nat.le_of_ble_eq_true rfl⟩) (va_recv hK hP (ci := 3) (q0 := 2) rfl rfl) rfl hl.1 rfl (Nat.le_of_ble_eq_true rfl) dX4_goMake_105 ⟨Nat.zero_le _, Nat.zero_le _⟩ (fun u_5 H locs hw hP hS => ?_)
          exact rtV F hr hlocks hK hw hP hS dX4_goMake_108
        · have hw := hw.2 c_12
          refine lv_aload_n hx hb dX4_goMake_85 rfl (lv_at hl 1 rfl) ?_
          refine gC_X4_store F hK iw_X4 hP f_f12 dX4_goMake_86 ?_
          refine gC_X6_rowOfAct F hK iw_X6 hP f_f270 dX4_goMake_89 ?_
          refine lv_iload_n hx hb dX4_goMake_92 rfl (lv_at hl 2 rfl) ?_
          refine lv_iload hx hb dX4_goMake_93 (lv_at hl 0 rfl) ?_
          obtain ⟨i_11, hw⟩ := hw
          refine sC_X6_rowOfAct F hK hP hDs hS i_11 dX4_goMake_95 (fun H locs hP hS => ?_)
          refine lv_aload_n hx hb dX4_goMake_96 rfl (lv_at hl 1 rfl) ?_
          refine lv_iload_n hx hb dX4_goMake_97 rfl (lv_at hl 2 rfl) ?_
          refine lv_iconst (v := 0) hx hb dX4_goMake_98 (by decide) ?_
          refine lv_iload_n hx hb dX4_goMake_99 rfl (lv_at hl 3 rfl) ?_
          refine lv_iload hx hb dX4_goMake_100 (lv_at hl 0 rfl) ?_
          refine csL (As := [.int r_2]) (rest := [.int x2, .int 0, .int x1, .ref (ad 2)]) F hK hP hS (c_X8_ofRow l D ad cI cJ hap H.size _ _ _ hw) (va_cwS 1 hts gX4_goMake_X8_ofRow rfl rfl rfl (by decide +kernel) ⟨Nat.le_of_ble_eq_true rfl, Nat.le_of_ble_eq_true rfl⟩) rfl hl.1 rfl (Nat.le_of_ble_eq_true rfl) dX4_goMake_102 ⟨Nat.zero_le _, Nat.zero_le _⟩ (fun r_8 u_7 H locs hw hP hS => ?_)
          refine cvV (As := [.int x1, .int 0, .int x2, .long r_8]) (rest := []) F hK hP hS (c_X4_give l D ad cI cJ hap H.size _ _ _ _ _ _ hw) (cwV 4 hts gX4_goMake_X4_give rfl rfl rfl (by decide +kernel) ⟨Nat.le_of_ble_eq_true rfl, Nat.le_of_ble_eq_true rfl⟩) (va_recv hK hP (ci := 3) (q0 := 2) rfl rfl) rfl hl.1 rfl (Nat.le_of_ble_eq_true rfl) dX4_goMake_105 ⟨Nat.zero_le _, Nat.zero_le _⟩ (fun u_9 H locs hw hP hS => ?_)
          exact rtV F hr hlocks hK hw hP hS dX4_goMake_108
      · have hw := hw.2 c_13
        refine lv_aload_n hx hb dX4_goMake_75 rfl (lv_at hl 1 rfl) ?_
        refine lv_iconst (v := 2) hx hb dX4_goMake_76 (by decide) ?_
        refine pC_X4_how F hK iw_X4 hP hDs hS f_f78 dX4_goMake_77 (fun H locs hP hS => ?_)
        exact rtV F hr hlocks hK hw hP hS dX4_goMake_80
    · have hw := hw.2 c_16
      refine lv_aload_n hx hb dX4_goMake_48 rfl (lv_at hl 0 rfl) ?_
      refine lv_iload_n hx hb dX4_goMake_49 rfl (lv_at hl 1 rfl) ?_
      refine lv_iconst (v := 0) hx hb dX4_goMake_50 (by decide) ?_
      refine lv_iload_n hx hb dX4_goMake_51 rfl (lv_at hl 2 rfl) ?_
      refine lv_lload hx hb dX4_goMake_52 (lv_at hl 3 rfl) ?_
      refine cvV (As := [.int x1, .int 0, .int x2, .long x5]) (rest := []) F hK hP hS (c_X4_give l D ad cI cJ hap H.size _ _ _ _ _ _ hw) (cwV 4 hts gX4_goMake_X4_give rfl rfl rfl (by decide +kernel) ⟨Nat.le_of_ble_eq_true rfl, Nat.le_of_ble_eq_true rfl⟩) (va_recv hK hP (ci := 3) (q0 := 2) rfl rfl) rfl hl.1 rfl (Nat.le_of_ble_eq_true rfl) dX4_goMake_54 ⟨Nat.zero_le _, Nat.zero_le _⟩ (fun u_14 H locs hw hP hS => ?_)
      exact rtV F hr hlocks hK hw hP hS dX4_goMake_57
  have hl := lv_entry ([.ref (ad 2), .int a1, .int a2, .long a3]) (n := 9) (Nat.le_of_ble_eq_true rfl)
  rw [lg_entry_eq]
  generalize (lg_sl ([.ref (ad 2), .int a1, .int a2, .long a3]) ++ List.replicate (9 - (lg_sl ([.ref (ad 2), .int a1, .int a2, .long a3])).length) Slot.unset).toArray = ls at hl ⊢
  have hl : lv_has ls 9 [(0, .ref (ad 2)), (1, .int a1), (2, .int a2), (3, .long a3)] := hl
  have key : ∀ (H : Heap), va_P D vwCl ((wdC ad cI cJ) σ) H → va_S (AW ad 42 s.heap.size) s.heap H [] → W p l e (headSpec wsX4_goMake rm_X4_goMake).room s m ([.ref (ad 2), .int a1, .int a2, .long a3] : List Value).toArray below meth c H [] 0 0 (MQ below (va_Qv K (inW D (wdC ad cI cJ) [(cI, .int), (cJ, .long)]) (AW ad 42 s.heap.size)) ([.ref (ad 2), .int a1, .int a2, .long a3] : List Value).toArray s 0 0 (AW ad 42 s.heap.size)) (F0 m 0 ls []) := by
    intro H hP hS
    unfold w_X4_goMake at hw
    refine lv_iload_n hx hb dX4_goMake_0 rfl (lv_at hl 1 rfl) ?_
    refine lv_lload_n hx hb dX4_goMake_1 rfl (lv_at hl 3 rfl) ?_
    refine lv_iconst (v := 1) hx hb dX4_goMake_2 (by decide) ?_
    refine csL (As := [.int a1, .long a3, .int 1]) (rest := []) F hK hP hS (c_X8_refuse l D ad cI cJ hap H.size _ _ _ _ _ hw) (va_cwS 3 hts gX4_goMake_X8_refuse rfl rfl rfl (by decide +kernel) ⟨Nat.le_of_ble_eq_true rfl, Nat.le_of_ble_eq_true rfl⟩) rfl hl.1 rfl (Nat.le_of_ble_eq_true rfl) dX4_goMake_3 ⟨Nat.zero_le _, Nat.zero_le _⟩ (fun r_18 u_17 H locs hw hP hS => ?_)
    refine lv_lstore (lv' := [(5, .long r_18), (0, .ref (ad 2)), (1, .int a1), (2, .int a2), (3, .long a3)]) hx hb dX4_goMake_6 hl (by decide) rfl (fun ls hl => ?_)
    refine lv_lload_n hx hb dX4_goMake_8 rfl (lv_at hl 4 rfl) ?_
    refine csI (As := [.long a3]) (rest := []) F hK hP hS (c_X8_contentOf l D ad cI cJ hap H.size _ _ _ hw) (va_cwS 1 hts gX4_goMake_X8_contentOf rfl rfl rfl (by decide +kernel) ⟨Nat.le_of_ble_eq_true rfl, Nat.le_of_ble_eq_true rfl⟩) rfl hl.1 rfl (Nat.le_of_ble_eq_true rfl) dX4_goMake_9 ⟨Nat.zero_le _, Nat.zero_le _⟩ (fun r_20 u_19 H locs hw hP hS => ?_)
    refine lv_istore (lv' := [(7, .int r_20), (5, .long r_18), (0, .ref (ad 2)), (1, .int a1), (2, .int a2), (3, .long a3)]) hx hb dX4_goMake_12 hl (by decide) rfl (fun ls hl => ?_)
    refine lv_lload hx hb dX4_goMake_14 (lv_at hl 1 rfl) ?_
    refine lv_lconst (v := 0) hx hb dX4_goMake_16 (by decide) ?_
    refine W.lcmp hx hb dX4_goMake_17 ?_
    refine lv_if_ne (tgt := 41) hx hb dX4_goMake_18 (by decide) (fun c_27 => ?_) (fun c_27 => ?_)
    · have hw := hw.1 c_27
      exact lab_41 _ _ _ _ _ _ _ _ hw hP hS (lv_sub hl [2, 3, 4, 1, 0] rfl)
    · have hw := hw.2 c_27
      refine lv_iload hx hb dX4_goMake_21 (lv_at hl 0 rfl) ?_
      refine lv_if_lt (tgt := 34) hx hb dX4_goMake_23 (by decide) (fun c_26 => ?_) (fun c_26 => ?_)
      · have hw := hw.1 c_26
        refine lv_iconst (v := 3) hx hb dX4_goMake_34 (by decide) ?_
        refine lv_iload_n hx hb dX4_goMake_35 rfl (lv_at hl 3 rfl) ?_
        refine csL (As := [.int 3, .int a1]) (rest := []) F hK hP hS (c_X8_ofFault l D ad cI cJ hap H.size _ _ _ _ hw) (va_cwS 2 hts gX4_goMake_X8_ofFault rfl rfl rfl (by decide +kernel) ⟨Nat.le_of_ble_eq_true rfl, Nat.le_of_ble_eq_true rfl⟩) rfl hl.1 rfl (Nat.le_of_ble_eq_true rfl) dX4_goMake_36 ⟨Nat.zero_le _, Nat.zero_le _⟩ (fun r_22 u_21 H locs hw hP hS => ?_)
        refine lv_lstore (lv' := [(5, .long r_22), (7, .int r_20), (0, .ref (ad 2)), (1, .int a1), (2, .int a2), (3, .long a3)]) hx hb dX4_goMake_39 hl (by decide) rfl (fun ls hl => ?_)
        exact lab_41 _ _ _ _ _ _ _ _ hw hP hS (lv_sub hl [2, 3, 4, 0, 1] rfl)
      · have hw := hw.2 c_26
        refine lv_iload hx hb dX4_goMake_26 (lv_at hl 0 rfl) ?_
        refine lv_sipush (v := 200) hx hb dX4_goMake_28 (by decide) ?_
        refine lv_icmp_le (tgt := 41) hx hb dX4_goMake_31 (by decide) (fun c_25 => ?_) (fun c_25 => ?_)
        · have hw := hw.1 c_25
          exact lab_41 _ _ _ _ _ _ _ _ hw hP hS (lv_sub hl [2, 3, 4, 1, 0] rfl)
        · have hw := hw.2 c_25
          refine lv_iconst (v := 3) hx hb dX4_goMake_34 (by decide) ?_
          refine lv_iload_n hx hb dX4_goMake_35 rfl (lv_at hl 3 rfl) ?_
          refine csL (As := [.int 3, .int a1]) (rest := []) F hK hP hS (c_X8_ofFault l D ad cI cJ hap H.size _ _ _ _ hw) (va_cwS 2 hts gX4_goMake_X8_ofFault rfl rfl rfl (by decide +kernel) ⟨Nat.le_of_ble_eq_true rfl, Nat.le_of_ble_eq_true rfl⟩) rfl hl.1 rfl (Nat.le_of_ble_eq_true rfl) dX4_goMake_36 ⟨Nat.zero_le _, Nat.zero_le _⟩ (fun r_24 u_23 H locs hw hP hS => ?_)
          refine lv_lstore (lv' := [(5, .long r_24), (7, .int r_20), (0, .ref (ad 2)), (1, .int a1), (2, .int a2), (3, .long a3)]) hx hb dX4_goMake_39 hl (by decide) rfl (fun ls hl => ?_)
          exact lab_41 _ _ _ _ _ _ _ _ hw hP hS (lv_sub hl [2, 3, 4, 0, 1] rfl)
  exact key s.heap hP hS

abbrev rm_X6_sizeOf : Room := { frames := 0, cells := 0, slots := 0, locals := 0 }
set_option maxHeartbeats 4000000 in
set_option maxRecDepth 100000 in
theorem c_X6_sizeOf (l : Launch) (D : va_G) (ad : Nat → Nat) (cI cJ : ClassId) (hap : apart ad 42) (sz : Nat) (σ : St) (a1 : Int32) (K : Int32 → St → Prop) (hw : w_X6_sizeOf σ a1 K) : Met l yX6_sizeOf wsX6_sizeOf rm_X6_sizeOf (va_Pc [.ref (ad 3), .int a1] (fun U => U.heap.size = sz ∧ inW D (wdC ad cI cJ) [(cI, .int), (cJ, .long)] σ U)) (va_Qi K (inW D (wdC ad cI cJ) [(cI, .int), (cJ, .long)]) (AW ad 42 sz)) 0 0 (AW ad 42 sz) := by
  refine Met.ofW (cc := cX6_sizeOf) (maxL := 2) (ret := (some .int)) (by decide) rfl ?_
  intro p e s m args below meth c s₁ B hml hv
  obtain ⟨rfl, hsz, ⟨hP, hK⟩⟩ := hv
  have F : CallFix p m c cX6_sizeOf 2 s ([.ref (ad 3), .int a1] : List Value).toArray wsX6_sizeOf RX6 := ⟨B.exec, B.bytes, hml, findClass_of_methodNamed B.named, atoms_spec (ws := wsX6_sizeOf) B.pre⟩
  have hx := F.1
  have hb := F.2.1
  have hown := F.2.2.2.1
  have hts := F.2.2.2.2
  have hr := B.returns
  have hlocks := B.notSynchronized
  subst hsz
  have hDs : ∀ σ, va_D (AW ad 42 s.heap.size) ((wdC ad cI cJ) σ) := fun σ => wdC_D hap σ
  have hS : va_S (AW ad 42 s.heap.size) s.heap s.heap [] := va_S.rf
  have iw_X6 : ∀ w ∈ u_ws RX6 TX6 10, w ∈ wsX6_sizeOf := by decide +kernel
  have f_f22 := hts (.fieldLink RX6 22 "TokenFloor$Store" "size" "[I") (by decide +kernel)
  have f_f38 := hts (.fieldLink RX6 38 "TokenFloor$Store" "rows" "I") (by decide +kernel)
  have hl := lv_entry ([.ref (ad 3), .int a1]) (n := 2) (Nat.le_of_ble_eq_true rfl)
  rw [lg_entry_eq]
  generalize (lg_sl ([.ref (ad 3), .int a1]) ++ List.replicate (2 - (lg_sl ([.ref (ad 3), .int a1])).length) Slot.unset).toArray = ls at hl ⊢
  have hl : lv_has ls 2 [(0, .ref (ad 3)), (1, .int a1)] := hl
  have key : ∀ (H : Heap), va_P D vwCl ((wdC ad cI cJ) σ) H → va_S (AW ad 42 s.heap.size) s.heap H [] → W p l e (headSpec wsX6_sizeOf rm_X6_sizeOf).room s m ([.ref (ad 3), .int a1] : List Value).toArray below meth c H [] 0 0 (MQ below (va_Qi K (inW D (wdC ad cI cJ) [(cI, .int), (cJ, .long)]) (AW ad 42 s.heap.size)) ([.ref (ad 3), .int a1] : List Value).toArray s 0 0 (AW ad 42 s.heap.size)) (F0 m 0 ls []) := by
    intro H hP hS
    unfold w_X6_sizeOf at hw
    refine lv_iload_n hx hb dX6_sizeOf_0 rfl (lv_at hl 1 rfl) ?_
    refine lv_if_lt (tgt := 21) hx hb dX6_sizeOf_1 (by decide) (fun c_3 => ?_) (fun c_3 => ?_)
    · have hw := hw.1 c_3
      refine lv_iconst (v := 0) hx hb dX6_sizeOf_21 (by decide) ?_
      exact rtI F hr hlocks hK hw hP hS dX6_sizeOf_22
    · have hw := hw.2 c_3
      refine lv_iload_n hx hb dX6_sizeOf_4 rfl (lv_at hl 1 rfl) ?_
      refine lv_aload_n hx hb dX6_sizeOf_5 rfl (lv_at hl 0 rfl) ?_
      refine gC_X6_rows F hK iw_X6 hP f_f38 dX6_sizeOf_6 ?_
      refine W.eq (g2 := F0 m 9 ls [.int (gS σ 12), .int a1]) rfl ?_
      refine lv_icmp_ge (tgt := 21) hx hb dX6_sizeOf_9 (by decide) (fun c_2 => ?_) (fun c_2 => ?_)
      · have hw := hw.1 c_2
        refine lv_iconst (v := 0) hx hb dX6_sizeOf_21 (by decide) ?_
        exact rtI F hr hlocks hK hw hP hS dX6_sizeOf_22
      · have hw := hw.2 c_2
        refine lv_aload_n hx hb dX6_sizeOf_12 rfl (lv_at hl 0 rfl) ?_
        refine gC_X6_size F hK iw_X6 hP f_f22 dX6_sizeOf_13 ?_
        refine lv_iload_n hx hb dX6_sizeOf_16 rfl (lv_at hl 1 rfl) ?_
        obtain ⟨i_1, hw⟩ := hw
        refine lC_X6_size F hK hP i_1 dX6_sizeOf_17 ?_
        refine lv_goto (tgt := 22) hx hb dX6_sizeOf_18 (by decide) ?_
        exact rtI F hr hlocks hK hw hP hS dX6_sizeOf_22
  exact key s.heap hP hS

abbrev rm_X6_placeIn : Room := { frames := 1, cells := 0, slots := 0, locals := 21 }
set_option maxHeartbeats 4000000 in
set_option maxRecDepth 100000 in
theorem c_X6_placeIn (l : Launch) (D : va_G) (ad : Nat → Nat) (cI cJ : ClassId) (hap : apart ad 42) (sz : Nat) (σ : St) (a1 : Int32) (a2 : Int32) (K : Int32 → St → Prop) (hw : w_X6_placeIn σ a1 a2 K) : Met l yX6_placeIn wsX6_placeIn rm_X6_placeIn (va_Pc [.ref (ad 3), .int a1, .int a2] (fun U => U.heap.size = sz ∧ inW D (wdC ad cI cJ) [(cI, .int), (cJ, .long)] σ U)) (va_Qi K (inW D (wdC ad cI cJ) [(cI, .int), (cJ, .long)]) (AW ad 42 sz)) 0 0 (AW ad 42 sz) := by
  refine Met.ofW (cc := cX6_placeIn) (maxL := 3) (ret := (some .int)) (by decide) rfl ?_
  intro p e s m args below meth c s₁ B hml hv
  obtain ⟨rfl, hsz, ⟨hP, hK⟩⟩ := hv
  have F : CallFix p m c cX6_placeIn 3 s ([.ref (ad 3), .int a1, .int a2] : List Value).toArray wsX6_placeIn RX6 := ⟨B.exec, B.bytes, hml, findClass_of_methodNamed B.named, atoms_spec (ws := wsX6_placeIn) B.pre⟩
  have hx := F.1
  have hb := F.2.1
  have hown := F.2.2.2.1
  have hts := F.2.2.2.2
  have hr := B.returns
  have hlocks := B.notSynchronized
  subst hsz
  have hDs : ∀ σ, va_D (AW ad 42 s.heap.size) ((wdC ad cI cJ) σ) := fun σ => wdC_D hap σ
  have hS : va_S (AW ad 42 s.heap.size) s.heap s.heap [] := va_S.rf
  have iw_X6 : ∀ w ∈ u_ws RX6 TX6 10, w ∈ wsX6_placeIn := by decide +kernel
  have f_f19 := hts (.fieldLink RX6 19 "TokenFloor$Store" "start" "[I") (by decide +kernel)
  have hl := lv_entry ([.ref (ad 3), .int a1, .int a2]) (n := 3) (Nat.le_of_ble_eq_true rfl)
  rw [lg_entry_eq]
  generalize (lg_sl ([.ref (ad 3), .int a1, .int a2]) ++ List.replicate (3 - (lg_sl ([.ref (ad 3), .int a1, .int a2])).length) Slot.unset).toArray = ls at hl ⊢
  have hl : lv_has ls 3 [(0, .ref (ad 3)), (1, .int a1), (2, .int a2)] := hl
  have key : ∀ (H : Heap), va_P D vwCl ((wdC ad cI cJ) σ) H → va_S (AW ad 42 s.heap.size) s.heap H [] → W p l e (headSpec wsX6_placeIn rm_X6_placeIn).room s m ([.ref (ad 3), .int a1, .int a2] : List Value).toArray below meth c H [] 0 0 (MQ below (va_Qi K (inW D (wdC ad cI cJ) [(cI, .int), (cJ, .long)]) (AW ad 42 s.heap.size)) ([.ref (ad 3), .int a1, .int a2] : List Value).toArray s 0 0 (AW ad 42 s.heap.size)) (F0 m 0 ls []) := by
    intro H hP hS
    unfold w_X6_placeIn at hw
    refine lv_iload_n hx hb dX6_placeIn_0 rfl (lv_at hl 2 rfl) ?_
    refine lv_if_lt (tgt := 24) hx hb dX6_placeIn_1 (by decide) (fun c_5 => ?_) (fun c_5 => ?_)
    · have hw := hw.1 c_5
      refine lv_iconst (v := (-1)) hx hb dX6_placeIn_24 (by decide) ?_
      exact rtI F hr hlocks hK hw hP hS dX6_placeIn_25
    · have hw := hw.2 c_5
      refine lv_iload_n hx hb dX6_placeIn_4 rfl (lv_at hl 2 rfl) ?_
      refine lv_aload_n hx hb dX6_placeIn_5 rfl (lv_at hl 0 rfl) ?_
      refine lv_iload_n hx hb dX6_placeIn_6 rfl (lv_at hl 1 rfl) ?_
      refine cvI (As := [.int a1]) (rest := [.int a2]) F hK hP hS (c_X6_sizeOf l D ad cI cJ hap H.size _ _ _ hw) (cwV 1 hts gX6_placeIn_X6_sizeOf rfl rfl rfl (by decide +kernel) ⟨Nat.le_of_ble_eq_true rfl, Nat.le_of_ble_eq_true rfl⟩) (va_recv hK hP (ci := 5) (q0 := 3) rfl rfl) rfl hl.1 rfl (Nat.le_of_ble_eq_true rfl) dX6_placeIn_7 ⟨Nat.zero_le _, Nat.zero_le _⟩ (fun r_2 u_1 H locs hw hP hS => ?_)
      refine lv_icmp_ge (tgt := 24) hx hb dX6_placeIn_10 (by decide) (fun c_4 => ?_) (fun c_4 => ?_)
      · have hw := hw.1 c_4
        refine lv_iconst (v := (-1)) hx hb dX6_placeIn_24 (by decide) ?_
        exact rtI F hr hlocks hK hw hP hS dX6_placeIn_25
      · have hw := hw.2 c_4
        refine lv_aload_n hx hb dX6_placeIn_13 rfl (lv_at hl 0 rfl) ?_
        refine gC_X6_start F hK iw_X6 hP f_f19 dX6_placeIn_14 ?_
        refine lv_iload_n hx hb dX6_placeIn_17 rfl (lv_at hl 1 rfl) ?_
        obtain ⟨i_3, hw⟩ := hw
        refine lC_X6_start F hK hP i_3 dX6_placeIn_18 ?_
        refine lv_iload_n hx hb dX6_placeIn_19 rfl (lv_at hl 2 rfl) ?_
        refine lv_iadd hx hb dX6_placeIn_20 ?_
        refine lv_goto (tgt := 25) hx hb dX6_placeIn_21 (by decide) ?_
        exact rtI F hr hlocks hK hw hP hS dX6_placeIn_25
  exact key s.heap hP hS

abbrev rm_X4_placeAsked : Room := { frames := 2, cells := 0, slots := 0, locals := 43 }
set_option maxHeartbeats 4000000 in
set_option maxRecDepth 100000 in
theorem c_X4_placeAsked (l : Launch) (D : va_G) (ad : Nat → Nat) (cI cJ : ClassId) (hap : apart ad 42) (sz : Nat) (σ : St) (a1 : Int32) (K : Int32 → St → Prop) (hw : w_X4_placeAsked σ a1 K) : Met l yX4_placeAsked wsX4_placeAsked rm_X4_placeAsked (va_Pc [.ref (ad 2), .int a1] (fun U => U.heap.size = sz ∧ inW D (wdC ad cI cJ) [(cI, .int), (cJ, .long)] σ U)) (va_Qi K (inW D (wdC ad cI cJ) [(cI, .int), (cJ, .long)]) (AW ad 42 sz)) 0 0 (AW ad 42 sz) := by
  refine Met.ofW (cc := cX4_placeAsked) (maxL := 3) (ret := (some .int)) (by decide) rfl ?_
  intro p e s m args below meth c s₁ B hml hv
  obtain ⟨rfl, hsz, ⟨hP, hK⟩⟩ := hv
  have F : CallFix p m c cX4_placeAsked 3 s ([.ref (ad 2), .int a1] : List Value).toArray wsX4_placeAsked RX4 := ⟨B.exec, B.bytes, hml, findClass_of_methodNamed B.named, atoms_spec (ws := wsX4_placeAsked) B.pre⟩
  have hx := F.1
  have hb := F.2.1
  have hown := F.2.2.2.1
  have hts := F.2.2.2.2
  have hr := B.returns
  have hlocks := B.notSynchronized
  subst hsz
  have hDs : ∀ σ, va_D (AW ad 42 s.heap.size) ((wdC ad cI cJ) σ) := fun σ => wdC_D hap σ
  have hS : va_S (AW ad 42 s.heap.size) s.heap s.heap [] := va_S.rf
  have iw_X4 : ∀ w ∈ u_ws RX4 TX4 14, w ∈ wsX4_placeAsked := by decide +kernel
  have f_f12 := hts (.fieldLink RX4 12 "TokenFloor$Machine" "store" "LTokenFloor$Store;") (by decide +kernel)
  have f_f36 := hts (.fieldLink RX4 36 "TokenFloor$Machine" "floor" "LTokenFloor$Floor;") (by decide +kernel)
  have hl := lv_entry ([.ref (ad 2), .int a1]) (n := 3) (Nat.le_of_ble_eq_true rfl)
  rw [lg_entry_eq]
  generalize (lg_sl ([.ref (ad 2), .int a1]) ++ List.replicate (3 - (lg_sl ([.ref (ad 2), .int a1])).length) Slot.unset).toArray = ls at hl ⊢
  have hl : lv_has ls 3 [(0, .ref (ad 2)), (1, .int a1)] := hl
  have key : ∀ (H : Heap), va_P D vwCl ((wdC ad cI cJ) σ) H → va_S (AW ad 42 s.heap.size) s.heap H [] → W p l e (headSpec wsX4_placeAsked rm_X4_placeAsked).room s m ([.ref (ad 2), .int a1] : List Value).toArray below meth c H [] 0 0 (MQ below (va_Qi K (inW D (wdC ad cI cJ) [(cI, .int), (cJ, .long)]) (AW ad 42 s.heap.size)) ([.ref (ad 2), .int a1] : List Value).toArray s 0 0 (AW ad 42 s.heap.size)) (F0 m 0 ls []) := by
    intro H hP hS
    unfold w_X4_placeAsked at hw
    refine lv_aload_n hx hb dX4_placeAsked_0 rfl (lv_at hl 0 rfl) ?_
    refine gC_X4_floor F hK iw_X4 hP f_f36 dX4_placeAsked_1 ?_
    refine lv_iload_n hx hb dX4_placeAsked_4 rfl (lv_at hl 1 rfl) ?_
    refine lv_iconst (v := 0) hx hb dX4_placeAsked_5 (by decide) ?_
    refine cvL (As := [.int a1, .int 0]) (rest := []) F hK hP hS (c_X1_cameTo l D ad cI cJ hap H.size _ _ _ _ hw) (cwV 2 hts gX4_placeAsked_X1_cameTo rfl rfl rfl (by decide +kernel) ⟨Nat.le_of_ble_eq_true rfl, Nat.le_of_ble_eq_true rfl⟩) (va_recv hK hP (ci := 1) (q0 := 5) rfl rfl) rfl hl.1 rfl (Nat.le_of_ble_eq_true rfl) dX4_placeAsked_6 ⟨Nat.zero_le _, Nat.zero_le _⟩ (fun r_2 u_1 H locs hw hP hS => ?_)
    refine csI (As := [.long r_2]) (rest := []) F hK hP hS (c_X8_contentOf l D ad cI cJ hap H.size _ _ _ hw) (va_cwS 1 hts gX4_placeAsked_X8_contentOf rfl rfl rfl (by decide +kernel) ⟨Nat.le_of_ble_eq_true rfl, Nat.le_of_ble_eq_true rfl⟩) rfl hl.1 rfl (Nat.le_of_ble_eq_true rfl) dX4_placeAsked_9 ⟨Nat.zero_le _, Nat.zero_le _⟩ (fun r_4 u_3 H locs hw hP hS => ?_)
    refine lv_istore_n (lv' := [(2, .int r_4), (0, .ref (ad 2)), (1, .int a1)]) hx hb dX4_placeAsked_12 rfl hl (by decide) rfl (fun ls hl => ?_)
    refine lv_aload_n hx hb dX4_placeAsked_13 rfl (lv_at hl 1 rfl) ?_
    refine gC_X4_store F hK iw_X4 hP f_f12 dX4_placeAsked_14 ?_
    refine lv_iload_n hx hb dX4_placeAsked_17 rfl (lv_at hl 0 rfl) ?_
    refine lv_aload_n hx hb dX4_placeAsked_18 rfl (lv_at hl 1 rfl) ?_
    refine gC_X4_floor F hK iw_X4 hP f_f36 dX4_placeAsked_19 ?_
    refine lv_iload_n hx hb dX4_placeAsked_22 rfl (lv_at hl 2 rfl) ?_
    refine lv_iconst (v := 1) hx hb dX4_placeAsked_23 (by decide) ?_
    refine cvL (As := [.int a1, .int 1]) (rest := [.int r_4, .ref (ad 3)]) F hK hP hS (c_X1_cameTo l D ad cI cJ hap H.size _ _ _ _ hw) (cwV 2 hts gX4_placeAsked_X1_cameTo rfl rfl rfl (by decide +kernel) ⟨Nat.le_of_ble_eq_true rfl, Nat.le_of_ble_eq_true rfl⟩) (va_recv hK hP (ci := 1) (q0 := 5) rfl rfl) rfl hl.1 rfl (Nat.le_of_ble_eq_true rfl) dX4_placeAsked_24 ⟨Nat.zero_le _, Nat.zero_le _⟩ (fun r_6 u_5 H locs hw hP hS => ?_)
    refine csI (As := [.long r_6]) (rest := [.int r_4, .ref (ad 3)]) F hK hP hS (c_X8_contentOf l D ad cI cJ hap H.size _ _ _ hw) (va_cwS 1 hts gX4_placeAsked_X8_contentOf rfl rfl rfl (by decide +kernel) ⟨Nat.le_of_ble_eq_true rfl, Nat.le_of_ble_eq_true rfl⟩) rfl hl.1 rfl (Nat.le_of_ble_eq_true rfl) dX4_placeAsked_27 ⟨Nat.zero_le _, Nat.zero_le _⟩ (fun r_8 u_7 H locs hw hP hS => ?_)
    refine cvI (As := [.int r_4, .int r_8]) (rest := []) F hK hP hS (c_X6_placeIn l D ad cI cJ hap H.size _ _ _ _ hw) (cwV 2 hts gX4_placeAsked_X6_placeIn rfl rfl rfl (by decide +kernel) ⟨Nat.le_of_ble_eq_true rfl, Nat.le_of_ble_eq_true rfl⟩) (va_recv hK hP (ci := 5) (q0 := 3) rfl rfl) rfl hl.1 rfl (Nat.le_of_ble_eq_true rfl) dX4_placeAsked_30 ⟨Nat.zero_le _, Nat.zero_le _⟩ (fun r_10 u_9 H locs hw hP hS => ?_)
    exact rtI F hr hlocks hK hw hP hS dX4_placeAsked_33
  exact key s.heap hP hS

abbrev rm_X8_refuseTwo : Room := { frames := 1, cells := 0, slots := 0, locals := 21 }
set_option maxHeartbeats 4000000 in
set_option maxRecDepth 100000 in
theorem c_X8_refuseTwo (l : Launch) (D : va_G) (ad : Nat → Nat) (cI cJ : ClassId) (hap : apart ad 42) (sz : Nat) (σ : St) (a1 : Int32) (a2 : Int64) (a3 : Int32) (a4 : Int64) (a5 : Int32) (K : Int64 → St → Prop) (hw : w_X8_refuseTwo σ a1 a2 a3 a4 a5 K) : Met l yX8_refuseTwo wsX8_refuseTwo rm_X8_refuseTwo (va_Pc [.int a1, .long a2, .int a3, .long a4, .int a5] (fun U => U.heap.size = sz ∧ inW D (wdC ad cI cJ) [(cI, .int), (cJ, .long)] σ U)) (va_Ql K (inW D (wdC ad cI cJ) [(cI, .int), (cJ, .long)]) (AW ad 42 sz)) 0 0 (AW ad 42 sz) := by
  refine Met.ofW (cc := cX8_refuseTwo) (maxL := 8) (ret := (some .long)) (by decide) rfl ?_
  intro p e s m args below meth c s₁ B hml hv
  obtain ⟨rfl, hsz, ⟨hP, hK⟩⟩ := hv
  have F : CallFix p m c cX8_refuseTwo 8 s ([.int a1, .long a2, .int a3, .long a4, .int a5] : List Value).toArray wsX8_refuseTwo RX8 := ⟨B.exec, B.bytes, hml, findClass_of_methodNamed B.named, atoms_spec (ws := wsX8_refuseTwo) B.pre⟩
  have hx := F.1
  have hb := F.2.1
  have hown := F.2.2.2.1
  have hts := F.2.2.2.2
  have hr := B.returns
  have hlocks := B.notSynchronized
  subst hsz
  have hDs : ∀ σ, va_D (AW ad 42 s.heap.size) ((wdC ad cI cJ) σ) := fun σ => wdC_D hap σ
  have hS : va_S (AW ad 42 s.heap.size) s.heap s.heap [] := va_S.rf
  have lab_45 : ∀ (σ : St) (x0 : Int32) (t0 : Int32) (H : Heap) (locs : List Loc) (ls : Array Slot), b_X8_refuseTwo_45 K σ x0 t0 → va_P D vwCl ((wdC ad cI cJ) σ) H → va_S (AW ad 42 s.heap.size) s.heap H locs → lv_has ls 8 [(0, .int x0)] → W p l e (headSpec wsX8_refuseTwo rm_X8_refuseTwo).room s m ([.int a1, .long a2, .int a3, .long a4, .int a5] : List Value).toArray below meth c H locs 0 0 (MQ below (va_Ql K (inW D (wdC ad cI cJ) [(cI, .int), (cJ, .long)]) (AW ad 42 s.heap.size)) ([.int a1, .long a2, .int a3, .long a4, .int a5] : List Value).toArray s 0 0 (AW ad 42 s.heap.size)) (F0 m 45 ls [.int t0]) := by
    intro σ x0 t0 H locs ls hw hP hS hl
    unfold b_X8_refuseTwo_45 at hw
    refine lv_istore (lv' := [(7, .int t0), (0, .int x0)]) hx hb dX8_refuseTwo_45 hl (by decide) rfl (fun ls hl => ?_)
    refine lv_iload hx hb dX8_refuseTwo_47 (lv_at hl 0 rfl) ?_
    refine lv_if_eq (tgt := 56) hx hb dX8_refuseTwo_49 (by decide) (fun c_3 => ?_) (fun c_3 => ?_)
    · have hw := hw.1 c_3
      refine lv_iconst (v := 4) hx hb dX8_refuseTwo_56 (by decide) ?_
      refine lv_iload_n hx hb dX8_refuseTwo_57 rfl (lv_at hl 1 rfl) ?_
      refine csL (As := [.int 4, .int x0]) (rest := []) F hK hP hS (c_X8_ofFault l D ad cI cJ hap H.size _ _ _ _ hw) (va_cwS 2 hts gX8_refuseTwo_X8_ofFault rfl rfl rfl (by decide +kernel) ⟨Nat.le_of_ble_eq_true rfl, Nat.le_of_ble_eq_true rfl⟩) rfl hl.1 rfl (Nat.le_of_ble_eq_true rfl) dX8_refuseTwo_58 ⟨Nat.zero_le _, Nat.zero_le _⟩ (fun r_2 u_1 H locs hw hP hS => ?_)
      exact rtL F hr hlocks hK hw hP hS dX8_refuseTwo_61
    · have hw := hw.2 c_3
      refine lv_lconst (v := 0) hx hb dX8_refuseTwo_52 (by decide) ?_
      refine lv_goto (tgt := 61) hx hb dX8_refuseTwo_53 (by decide) ?_
      exact rtL F hr hlocks hK hw hP hS dX8_refuseTwo_61
  have hl := lv_entry ([.int a1, .long a2, .int a3, .long a4, .int a5]) (n := 8) (Nat.le_of_ble_eq_true rfl)
  rw [lg_entry_eq]
  generalize (lg_sl ([.int a1, .long a2, .int a3, .long a4, .int a5]) ++ List.replicate (8 - (lg_sl ([.int a1, .long a2, .int a3, .long a4, .int a5])).length) Slot.unset).toArray = ls at hl ⊢
  have hl : lv_has ls 8 [(0, .int a1), (1, .long a2), (3, .int a3), (4, .long a4), (6, .int a5)] := hl
  have key : ∀ (H : Heap), va_P D vwCl ((wdC ad cI cJ) σ) H → va_S (AW ad 42 s.heap.size) s.heap H [] → W p l e (headSpec wsX8_refuseTwo rm_X8_refuseTwo).room s m ([.int a1, .long a2, .int a3, .long a4, .int a5] : List Value).toArray below meth c H [] 0 0 (MQ below (va_Ql K (inW D (wdC ad cI cJ) [(cI, .int), (cJ, .long)]) (AW ad 42 s.heap.size)) ([.int a1, .long a2, .int a3, .long a4, .int a5] : List Value).toArray s 0 0 (AW ad 42 s.heap.size)) (F0 m 0 ls []) := by
    intro H hP hS
    unfold w_X8_refuseTwo at hw
    refine lv_lload_n hx hb dX8_refuseTwo_0 rfl (lv_at hl 1 rfl) ?_
    refine csI (As := [.long a2]) (rest := []) F hK hP hS (c_X8_sortOf l D ad cI cJ hap H.size _ _ _ hw) (va_cwS 1 hts gX8_refuseTwo_X8_sortOf rfl rfl rfl (by decide +kernel) ⟨Nat.le_of_ble_eq_true rfl, Nat.le_of_ble_eq_true rfl⟩) rfl hl.1 rfl (Nat.le_of_ble_eq_true rfl) dX8_refuseTwo_1 ⟨Nat.zero_le _, Nat.zero_le _⟩ (fun r_5 u_4 H locs hw hP hS => ?_)
    refine lv_iconst (v := 3) hx hb dX8_refuseTwo_4 (by decide) ?_
    refine lv_icmp_ne (tgt := 10) hx hb dX8_refuseTwo_5 (by decide) (fun c_15 => ?_) (fun c_15 => ?_)
    · have hw := hw.1 c_15
      refine lv_lload hx hb dX8_refuseTwo_10 (lv_at hl 3 rfl) ?_
      refine csI (As := [.long a4]) (rest := []) F hK hP hS (c_X8_sortOf l D ad cI cJ hap H.size _ _ _ hw) (va_cwS 1 hts gX8_refuseTwo_X8_sortOf rfl rfl rfl (by decide +kernel) ⟨Nat.le_of_ble_eq_true rfl, Nat.le_of_ble_eq_true rfl⟩) rfl hl.1 rfl (Nat.le_of_ble_eq_true rfl) dX8_refuseTwo_12 ⟨Nat.zero_le _, Nat.zero_le _⟩ (fun r_7 u_6 H locs hw hP hS => ?_)
      refine lv_iconst (v := 3) hx hb dX8_refuseTwo_15 (by decide) ?_
      refine lv_icmp_ne (tgt := 22) hx hb dX8_refuseTwo_16 (by decide) (fun c_14 => ?_) (fun c_14 => ?_)
      · have hw := hw.1 c_14
        refine lv_lload_n hx hb dX8_refuseTwo_22 rfl (lv_at hl 1 rfl) ?_
        refine csI (As := [.long a2]) (rest := []) F hK hP hS (c_X8_sortOf l D ad cI cJ hap H.size _ _ _ hw) (va_cwS 1 hts gX8_refuseTwo_X8_sortOf rfl rfl rfl (by decide +kernel) ⟨Nat.le_of_ble_eq_true rfl, Nat.le_of_ble_eq_true rfl⟩) rfl hl.1 rfl (Nat.le_of_ble_eq_true rfl) dX8_refuseTwo_23 ⟨Nat.zero_le _, Nat.zero_le _⟩ (fun r_9 u_8 H locs hw hP hS => ?_)
        refine lv_iload_n hx hb dX8_refuseTwo_26 rfl (lv_at hl 2 rfl) ?_
        refine lv_icmp_ne (tgt := 44) hx hb dX8_refuseTwo_27 (by decide) (fun c_13 => ?_) (fun c_13 => ?_)
        · have hw := hw.1 c_13
          refine lv_iconst (v := 0) hx hb dX8_refuseTwo_44 (by decide) ?_
          exact lab_45 _ _ _ _ _ _ hw hP hS (lv_sub hl [0] rfl)
        · have hw := hw.2 c_13
          refine lv_lload hx hb dX8_refuseTwo_30 (lv_at hl 3 rfl) ?_
          refine csI (As := [.long a4]) (rest := []) F hK hP hS (c_X8_sortOf l D ad cI cJ hap H.size _ _ _ hw) (va_cwS 1 hts gX8_refuseTwo_X8_sortOf rfl rfl rfl (by decide +kernel) ⟨Nat.le_of_ble_eq_true rfl, Nat.le_of_ble_eq_true rfl⟩) rfl hl.1 rfl (Nat.le_of_ble_eq_true rfl) dX8_refuseTwo_32 ⟨Nat.zero_le _, Nat.zero_le _⟩ (fun r_11 u_10 H locs hw hP hS => ?_)
          refine lv_iload hx hb dX8_refuseTwo_35 (lv_at hl 4 rfl) ?_
          refine lv_icmp_ne (tgt := 44) hx hb dX8_refuseTwo_37 (by decide) (fun c_12 => ?_) (fun c_12 => ?_)
          · have hw := hw.1 c_12
            refine lv_iconst (v := 0) hx hb dX8_refuseTwo_44 (by decide) ?_
            exact lab_45 _ _ _ _ _ _ hw hP hS (lv_sub hl [0] rfl)
          · have hw := hw.2 c_12
            refine lv_iconst (v := 1) hx hb dX8_refuseTwo_40 (by decide) ?_
            refine lv_goto (tgt := 45) hx hb dX8_refuseTwo_41 (by decide) ?_
            exact lab_45 _ _ _ _ _ _ hw hP hS (lv_sub hl [0] rfl)
      · have hw := hw.2 c_14
        refine lv_lload hx hb dX8_refuseTwo_19 (lv_at hl 3 rfl) ?_
        exact rtL F hr hlocks hK hw hP hS dX8_refuseTwo_21
    · have hw := hw.2 c_15
      refine lv_lload_n hx hb dX8_refuseTwo_8 rfl (lv_at hl 1 rfl) ?_
      exact rtL F hr hlocks hK hw hP hS dX8_refuseTwo_9
  exact key s.heap hP hS

abbrev rm_X4_refuseCell : Room := { frames := 2, cells := 0, slots := 0, locals := 48 }
set_option maxHeartbeats 4000000 in
set_option maxRecDepth 100000 in
theorem c_X4_refuseCell (l : Launch) (D : va_G) (ad : Nat → Nat) (cI cJ : ClassId) (hap : apart ad 42) (sz : Nat) (σ : St) (a1 : Int32) (a2 : Int32) (a3 : Int32) (K : Int64 → St → Prop) (hw : w_X4_refuseCell σ a1 a2 a3 K) : Met l yX4_refuseCell wsX4_refuseCell rm_X4_refuseCell (va_Pc [.ref (ad 2), .int a1, .int a2, .int a3] (fun U => U.heap.size = sz ∧ inW D (wdC ad cI cJ) [(cI, .int), (cJ, .long)] σ U)) (va_Ql K (inW D (wdC ad cI cJ) [(cI, .int), (cJ, .long)]) (AW ad 42 sz)) 0 0 (AW ad 42 sz) := by
  refine Met.ofW (cc := cX4_refuseCell) (maxL := 10) (ret := (some .long)) (by decide) rfl ?_
  intro p e s m args below meth c s₁ B hml hv
  obtain ⟨rfl, hsz, ⟨hP, hK⟩⟩ := hv
  have F : CallFix p m c cX4_refuseCell 10 s ([.ref (ad 2), .int a1, .int a2, .int a3] : List Value).toArray wsX4_refuseCell RX4 := ⟨B.exec, B.bytes, hml, findClass_of_methodNamed B.named, atoms_spec (ws := wsX4_refuseCell) B.pre⟩
  have hx := F.1
  have hb := F.2.1
  have hown := F.2.2.2.1
  have hts := F.2.2.2.2
  have hr := B.returns
  have hlocks := B.notSynchronized
  subst hsz
  have hDs : ∀ σ, va_D (AW ad 42 s.heap.size) ((wdC ad cI cJ) σ) := fun σ => wdC_D hap σ
  have hS : va_S (AW ad 42 s.heap.size) s.heap s.heap [] := va_S.rf
  have iw_X4 : ∀ w ∈ u_ws RX4 TX4 14, w ∈ wsX4_refuseCell := by decide +kernel
  have f_f36 := hts (.fieldLink RX4 36 "TokenFloor$Machine" "floor" "LTokenFloor$Floor;") (by decide +kernel)
  have hl := lv_entry ([.ref (ad 2), .int a1, .int a2, .int a3]) (n := 10) (Nat.le_of_ble_eq_true rfl)
  rw [lg_entry_eq]
  generalize (lg_sl ([.ref (ad 2), .int a1, .int a2, .int a3]) ++ List.replicate (10 - (lg_sl ([.ref (ad 2), .int a1, .int a2, .int a3])).length) Slot.unset).toArray = ls at hl ⊢
  have hl : lv_has ls 10 [(0, .ref (ad 2)), (1, .int a1), (2, .int a2), (3, .int a3)] := hl
  have key : ∀ (H : Heap), va_P D vwCl ((wdC ad cI cJ) σ) H → va_S (AW ad 42 s.heap.size) s.heap H [] → W p l e (headSpec wsX4_refuseCell rm_X4_refuseCell).room s m ([.ref (ad 2), .int a1, .int a2, .int a3] : List Value).toArray below meth c H [] 0 0 (MQ below (va_Ql K (inW D (wdC ad cI cJ) [(cI, .int), (cJ, .long)]) (AW ad 42 s.heap.size)) ([.ref (ad 2), .int a1, .int a2, .int a3] : List Value).toArray s 0 0 (AW ad 42 s.heap.size)) (F0 m 0 ls []) := by
    intro H hP hS
    unfold w_X4_refuseCell at hw
    refine lv_aload_n hx hb dX4_refuseCell_0 rfl (lv_at hl 0 rfl) ?_
    refine gC_X4_floor F hK iw_X4 hP f_f36 dX4_refuseCell_1 ?_
    refine lv_iload_n hx hb dX4_refuseCell_4 rfl (lv_at hl 1 rfl) ?_
    refine lv_iconst (v := 0) hx hb dX4_refuseCell_5 (by decide) ?_
    refine cvL (As := [.int a1, .int 0]) (rest := []) F hK hP hS (c_X1_cameTo l D ad cI cJ hap H.size _ _ _ _ hw) (cwV 2 hts gX4_refuseCell_X1_cameTo rfl rfl rfl (by decide +kernel) ⟨Nat.le_of_ble_eq_true rfl, Nat.le_of_ble_eq_true rfl⟩) (va_recv hK hP (ci := 1) (q0 := 5) rfl rfl) rfl hl.1 rfl (Nat.le_of_ble_eq_true rfl) dX4_refuseCell_6 ⟨Nat.zero_le _, Nat.zero_le _⟩ (fun r_2 u_1 H locs hw hP hS => ?_)
    refine lv_lstore (lv' := [(4, .long r_2), (0, .ref (ad 2)), (1, .int a1), (2, .int a2), (3, .int a3)]) hx hb dX4_refuseCell_9 hl (by decide) rfl (fun ls hl => ?_)
    refine lv_aload_n hx hb dX4_refuseCell_11 rfl (lv_at hl 1 rfl) ?_
    refine gC_X4_floor F hK iw_X4 hP f_f36 dX4_refuseCell_12 ?_
    refine lv_iload_n hx hb dX4_refuseCell_15 rfl (lv_at hl 2 rfl) ?_
    refine lv_iconst (v := 1) hx hb dX4_refuseCell_16 (by decide) ?_
    refine cvL (As := [.int a1, .int 1]) (rest := []) F hK hP hS (c_X1_cameTo l D ad cI cJ hap H.size _ _ _ _ hw) (cwV 2 hts gX4_refuseCell_X1_cameTo rfl rfl rfl (by decide +kernel) ⟨Nat.le_of_ble_eq_true rfl, Nat.le_of_ble_eq_true rfl⟩) (va_recv hK hP (ci := 1) (q0 := 5) rfl rfl) rfl hl.1 rfl (Nat.le_of_ble_eq_true rfl) dX4_refuseCell_17 ⟨Nat.zero_le _, Nat.zero_le _⟩ (fun r_4 u_3 H locs hw hP hS => ?_)
    refine lv_lstore (lv' := [(6, .long r_4), (4, .long r_2), (0, .ref (ad 2)), (1, .int a1), (2, .int a2), (3, .int a3)]) hx hb dX4_refuseCell_20 hl (by decide) rfl (fun ls hl => ?_)
    refine lv_iload_n hx hb dX4_refuseCell_22 rfl (lv_at hl 4 rfl) ?_
    refine lv_lload hx hb dX4_refuseCell_23 (lv_at hl 1 rfl) ?_
    refine lv_iconst (v := 2) hx hb dX4_refuseCell_25 (by decide) ?_
    refine lv_lload hx hb dX4_refuseCell_26 (lv_at hl 0 rfl) ?_
    refine lv_iconst (v := 1) hx hb dX4_refuseCell_28 (by decide) ?_
    refine csL (As := [.int a2, .long r_2, .int 2, .long r_4, .int 1]) (rest := []) F hK hP hS (c_X8_refuseTwo l D ad cI cJ hap H.size _ _ _ _ _ _ _ hw) (va_cwS 5 hts gX4_refuseCell_X8_refuseTwo rfl rfl rfl (by decide +kernel) ⟨Nat.le_of_ble_eq_true rfl, Nat.le_of_ble_eq_true rfl⟩) rfl hl.1 rfl (Nat.le_of_ble_eq_true rfl) dX4_refuseCell_29 ⟨Nat.zero_le _, Nat.zero_le _⟩ (fun r_6 u_5 H locs hw hP hS => ?_)
    refine lv_lstore (lv' := [(8, .long r_6), (6, .long r_4), (4, .long r_2), (0, .ref (ad 2)), (1, .int a1), (2, .int a2), (3, .int a3)]) hx hb dX4_refuseCell_32 hl (by decide) rfl (fun ls hl => ?_)
    refine lv_lload hx hb dX4_refuseCell_34 (lv_at hl 0 rfl) ?_
    refine lv_lconst (v := 0) hx hb dX4_refuseCell_36 (by decide) ?_
    refine W.lcmp hx hb dX4_refuseCell_37 ?_
    refine lv_if_ne (tgt := 52) hx hb dX4_refuseCell_38 (by decide) (fun c_10 => ?_) (fun c_10 => ?_)
    · have hw := hw.1 c_10
      refine lv_lload hx hb dX4_refuseCell_52 (lv_at hl 0 rfl) ?_
      exact rtL F hr hlocks hK hw hP hS dX4_refuseCell_54
    · have hw := hw.2 c_10
      refine lv_iload_n hx hb dX4_refuseCell_41 rfl (lv_at hl 6 rfl) ?_
      refine lv_iconst (v := (-1)) hx hb dX4_refuseCell_42 (by decide) ?_
      refine lv_icmp_ne (tgt := 52) hx hb dX4_refuseCell_43 (by decide) (fun c_9 => ?_) (fun c_9 => ?_)
      · have hw := hw.1 c_9
        refine lv_lload hx hb dX4_refuseCell_52 (lv_at hl 0 rfl) ?_
        exact rtL F hr hlocks hK hw hP hS dX4_refuseCell_54
      · have hw := hw.2 c_9
        refine lv_iconst (v := 2) hx hb dX4_refuseCell_46 (by decide) ?_
        refine lv_iload_n hx hb dX4_refuseCell_47 rfl (lv_at hl 5 rfl) ?_
        refine csL (As := [.int 2, .int a2]) (rest := []) F hK hP hS (c_X8_ofFault l D ad cI cJ hap H.size _ _ _ _ hw) (va_cwS 2 hts gX4_refuseCell_X8_ofFault rfl rfl rfl (by decide +kernel) ⟨Nat.le_of_ble_eq_true rfl, Nat.le_of_ble_eq_true rfl⟩) rfl hl.1 rfl (Nat.le_of_ble_eq_true rfl) dX4_refuseCell_48 ⟨Nat.zero_le _, Nat.zero_le _⟩ (fun r_8 u_7 H locs hw hP hS => ?_)
        exact rtL F hr hlocks hK hw hP hS dX4_refuseCell_51
  exact key s.heap hP hS

abbrev rm_X6_addReader : Room := { frames := 0, cells := 0, slots := 0, locals := 0 }
set_option maxHeartbeats 4000000 in
set_option maxRecDepth 100000 in
theorem c_X6_addReader (l : Launch) (D : va_G) (ad : Nat → Nat) (cI cJ : ClassId) (hap : apart ad 42) (sz : Nat) (σ : St) (a1 : Int32) (a2 : Int32) (K : St → Prop) (hw : w_X6_addReader σ a1 a2 K) : Met l yX6_addReader wsX6_addReader rm_X6_addReader (va_Pc [.ref (ad 3), .int a1, .int a2] (fun U => U.heap.size = sz ∧ inW D (wdC ad cI cJ) [(cI, .int), (cJ, .long)] σ U)) (va_Qv K (inW D (wdC ad cI cJ) [(cI, .int), (cJ, .long)]) (AW ad 42 sz)) 0 0 (AW ad 42 sz) := by
  refine Met.ofW (cc := cX6_addReader) (maxL := 4) (ret := none) (by decide) rfl ?_
  intro p e s m args below meth c s₁ B hml hv
  obtain ⟨rfl, hsz, ⟨hP, hK⟩⟩ := hv
  have F : CallFix p m c cX6_addReader 4 s ([.ref (ad 3), .int a1, .int a2] : List Value).toArray wsX6_addReader RX6 := ⟨B.exec, B.bytes, hml, findClass_of_methodNamed B.named, atoms_spec (ws := wsX6_addReader) B.pre⟩
  have hx := F.1
  have hb := F.2.1
  have hown := F.2.2.2.1
  have hts := F.2.2.2.2
  have hr := B.returns
  have hlocks := B.notSynchronized
  subst hsz
  have hDs : ∀ σ, va_D (AW ad 42 s.heap.size) ((wdC ad cI cJ) σ) := fun σ => wdC_D hap σ
  have hS : va_S (AW ad 42 s.heap.size) s.heap s.heap [] := va_S.rf
  have iw_X6 : ∀ w ∈ u_ws RX6 TX6 10, w ∈ wsX6_addReader := by decide +kernel
  have f_f25 := hts (.fieldLink RX6 25 "TokenFloor$Store" "firstReader" "[I") (by decide +kernel)
  have f_f28 := hts (.fieldLink RX6 28 "TokenFloor$Store" "lastReader" "[I") (by decide +kernel)
  have f_f31 := hts (.fieldLink RX6 31 "TokenFloor$Store" "nextReader" "[I") (by decide +kernel)
  have f_f34 := hts (.fieldLink RX6 34 "TokenFloor$Store" "waiting" "I") (by decide +kernel)
  have lab_36 : ∀ (σ : St) (x1 : Int32) (x2 : Int32) (H : Heap) (locs : List Loc) (ls : Array Slot), b_X6_addReader_36 K σ x1 x2 → va_P D vwCl ((wdC ad cI cJ) σ) H → va_S (AW ad 42 s.heap.size) s.heap H locs → lv_has ls 4 [(0, .ref (ad 3)), (1, .int x1), (2, .int x2)] → W p l e (headSpec wsX6_addReader rm_X6_addReader).room s m ([.ref (ad 3), .int a1, .int a2] : List Value).toArray below meth c H locs 0 0 (MQ below (va_Qv K (inW D (wdC ad cI cJ) [(cI, .int), (cJ, .long)]) (AW ad 42 s.heap.size)) ([.ref (ad 3), .int a1, .int a2] : List Value).toArray s 0 0 (AW ad 42 s.heap.size)) (F0 m 36 ls []) := by
    intro σ x1 x2 H locs ls hw hP hS hl
    unfold b_X6_addReader_36 at hw
    refine lv_aload_n hx hb dX6_addReader_36 rfl (lv_at hl 0 rfl) ?_
    refine gC_X6_lastReader F hK iw_X6 hP f_f28 dX6_addReader_37 ?_
    refine lv_iload_n hx hb dX6_addReader_40 rfl (lv_at hl 1 rfl) ?_
    refine lv_iload_n hx hb dX6_addReader_41 rfl (lv_at hl 2 rfl) ?_
    obtain ⟨i_1, hw⟩ := hw
    refine sC_X6_lastReader F hK hP hDs hS i_1 dX6_addReader_42 (fun H locs hP hS => ?_)
    refine lv_aload_n hx hb dX6_addReader_43 rfl (lv_at hl 0 rfl) ?_
    refine lv_dup hx hb dX6_addReader_44 rfl ?_
    refine gC_X6_waiting F hK iw_X6 hP f_f34 dX6_addReader_45 ?_
    refine W.eq (g2 := F0 m 48 ls [.int (gS σ 11), .ref (ad 3)]) rfl ?_
    refine lv_iconst (v := 1) hx hb dX6_addReader_48 (by decide) ?_
    refine lv_iadd hx hb dX6_addReader_49 ?_
    refine pC_X6_waiting F hK iw_X6 hP hDs hS f_f34 dX6_addReader_50 (fun H locs hP hS => ?_)
    exact rtV F hr hlocks hK hw hP hS dX6_addReader_53
  have hl := lv_entry ([.ref (ad 3), .int a1, .int a2]) (n := 4) (Nat.le_of_ble_eq_true rfl)
  rw [lg_entry_eq]
  generalize (lg_sl ([.ref (ad 3), .int a1, .int a2]) ++ List.replicate (4 - (lg_sl ([.ref (ad 3), .int a1, .int a2])).length) Slot.unset).toArray = ls at hl ⊢
  have hl : lv_has ls 4 [(0, .ref (ad 3)), (1, .int a1), (2, .int a2)] := hl
  have key : ∀ (H : Heap), va_P D vwCl ((wdC ad cI cJ) σ) H → va_S (AW ad 42 s.heap.size) s.heap H [] → W p l e (headSpec wsX6_addReader rm_X6_addReader).room s m ([.ref (ad 3), .int a1, .int a2] : List Value).toArray below meth c H [] 0 0 (MQ below (va_Qv K (inW D (wdC ad cI cJ) [(cI, .int), (cJ, .long)]) (AW ad 42 s.heap.size)) ([.ref (ad 3), .int a1, .int a2] : List Value).toArray s 0 0 (AW ad 42 s.heap.size)) (F0 m 0 ls []) := by
    intro H hP hS
    unfold w_X6_addReader at hw
    refine lv_aload_n hx hb dX6_addReader_0 rfl (lv_at hl 0 rfl) ?_
    refine gC_X6_nextReader F hK iw_X6 hP f_f31 dX6_addReader_1 ?_
    refine lv_iload_n hx hb dX6_addReader_4 rfl (lv_at hl 2 rfl) ?_
    refine lv_iconst (v := (-1)) hx hb dX6_addReader_5 (by decide) ?_
    obtain ⟨i_6, hw⟩ := hw
    refine sC_X6_nextReader F hK hP hDs hS i_6 dX6_addReader_6 (fun H locs hP hS => ?_)
    refine lv_aload_n hx hb dX6_addReader_7 rfl (lv_at hl 0 rfl) ?_
    refine gC_X6_lastReader F hK iw_X6 hP f_f28 dX6_addReader_8 ?_
    refine lv_iload_n hx hb dX6_addReader_11 rfl (lv_at hl 1 rfl) ?_
    obtain ⟨i_5, hw⟩ := hw
    refine lC_X6_lastReader F hK hP i_5 dX6_addReader_12 ?_
    refine W.eq (g2 := F0 m 13 ls [.int (gA σ 17 (a1).toNatClampNeg)]) rfl ?_
    refine lv_istore_n (lv' := [(3, .int (gA σ 17 (a1).toNatClampNeg)), (0, .ref (ad 3)), (1, .int a1), (2, .int a2)]) hx hb dX6_addReader_13 rfl hl (by decide) rfl (fun ls hl => ?_)
    refine lv_iload_n hx hb dX6_addReader_14 rfl (lv_at hl 0 rfl) ?_
    refine lv_iconst (v := (-1)) hx hb dX6_addReader_15 (by decide) ?_
    refine lv_icmp_ne (tgt := 29) hx hb dX6_addReader_16 (by decide) (fun c_4 => ?_) (fun c_4 => ?_)
    · have hw := hw.1 c_4
      refine lv_aload_n hx hb dX6_addReader_29 rfl (lv_at hl 1 rfl) ?_
      refine gC_X6_nextReader F hK iw_X6 hP f_f31 dX6_addReader_30 ?_
      refine lv_iload_n hx hb dX6_addReader_33 rfl (lv_at hl 0 rfl) ?_
      refine lv_iload_n hx hb dX6_addReader_34 rfl (lv_at hl 3 rfl) ?_
      obtain ⟨i_2, hw⟩ := hw
      refine sC_X6_nextReader F hK hP hDs hS i_2 dX6_addReader_35 (fun H locs hP hS => ?_)
      exact lab_36 _ _ _ _ _ _ hw hP hS (lv_sub hl [1, 2, 3] rfl)
    · have hw := hw.2 c_4
      refine lv_aload_n hx hb dX6_addReader_19 rfl (lv_at hl 1 rfl) ?_
      refine gC_X6_firstReader F hK iw_X6 hP f_f25 dX6_addReader_20 ?_
      refine lv_iload_n hx hb dX6_addReader_23 rfl (lv_at hl 2 rfl) ?_
      refine lv_iload_n hx hb dX6_addReader_24 rfl (lv_at hl 3 rfl) ?_
      obtain ⟨i_3, hw⟩ := hw
      refine sC_X6_firstReader F hK hP hDs hS i_3 dX6_addReader_25 (fun H locs hP hS => ?_)
      refine lv_goto (tgt := 36) hx hb dX6_addReader_26 (by decide) ?_
      exact lab_36 _ _ _ _ _ _ hw hP hS (lv_sub hl [1, 2, 3] rfl)
  exact key s.heap hP hS

abbrev rm_X4_goRead : Room := { frames := 3, cells := 0, slots := 0, locals := 79 }
set_option maxHeartbeats 4000000 in
set_option maxRecDepth 100000 in
theorem c_X4_goRead (l : Launch) (D : va_G) (ad : Nat → Nat) (cI cJ : ClassId) (hap : apart ad 42) (sz : Nat) (σ : St) (a1 : Int32) (a2 : Int32) (a3 : Int32) (K : St → Prop) (hw : w_X4_goRead σ a1 a2 a3 K) : Met l yX4_goRead wsX4_goRead rm_X4_goRead (va_Pc [.ref (ad 2), .int a1, .int a2, .int a3] (fun U => U.heap.size = sz ∧ inW D (wdC ad cI cJ) [(cI, .int), (cJ, .long)] σ U)) (va_Qv K (inW D (wdC ad cI cJ) [(cI, .int), (cJ, .long)]) (AW ad 42 sz)) 0 0 (AW ad 42 sz) := by
  refine Met.ofW (cc := cX4_goRead) (maxL := 9) (ret := none) (by decide) rfl ?_
  intro p e s m args below meth c s₁ B hml hv
  obtain ⟨rfl, hsz, ⟨hP, hK⟩⟩ := hv
  have F : CallFix p m c cX4_goRead 9 s ([.ref (ad 2), .int a1, .int a2, .int a3] : List Value).toArray wsX4_goRead RX4 := ⟨B.exec, B.bytes, hml, findClass_of_methodNamed B.named, atoms_spec (ws := wsX4_goRead) B.pre⟩
  have hx := F.1
  have hb := F.2.1
  have hown := F.2.2.2.1
  have hts := F.2.2.2.2
  have hr := B.returns
  have hlocks := B.notSynchronized
  subst hsz
  have hDs : ∀ σ, va_D (AW ad 42 s.heap.size) ((wdC ad cI cJ) σ) := fun σ => wdC_D hap σ
  have hS : va_S (AW ad 42 s.heap.size) s.heap s.heap [] := va_S.rf
  have iw_X4 : ∀ w ∈ u_ws RX4 TX4 14, w ∈ wsX4_goRead := by decide +kernel
  have iw_X6 : ∀ w ∈ u_ws RX6 TX6 10, w ∈ wsX4_goRead := by decide +kernel
  have f_f12 := hts (.fieldLink RX4 12 "TokenFloor$Machine" "store" "LTokenFloor$Store;") (by decide +kernel)
  have f_f280 := hts (.fieldLink RX4 280 "TokenFloor$Store" "written" "[J") (by decide +kernel)
  have hl := lv_entry ([.ref (ad 2), .int a1, .int a2, .int a3]) (n := 9) (Nat.le_of_ble_eq_true rfl)
  rw [lg_entry_eq]
  generalize (lg_sl ([.ref (ad 2), .int a1, .int a2, .int a3]) ++ List.replicate (9 - (lg_sl ([.ref (ad 2), .int a1, .int a2, .int a3])).length) Slot.unset).toArray = ls at hl ⊢
  have hl : lv_has ls 9 [(0, .ref (ad 2)), (1, .int a1), (2, .int a2), (3, .int a3)] := hl
  have key : ∀ (H : Heap), va_P D vwCl ((wdC ad cI cJ) σ) H → va_S (AW ad 42 s.heap.size) s.heap H [] → W p l e (headSpec wsX4_goRead rm_X4_goRead).room s m ([.ref (ad 2), .int a1, .int a2, .int a3] : List Value).toArray below meth c H [] 0 0 (MQ below (va_Qv K (inW D (wdC ad cI cJ) [(cI, .int), (cJ, .long)]) (AW ad 42 s.heap.size)) ([.ref (ad 2), .int a1, .int a2, .int a3] : List Value).toArray s 0 0 (AW ad 42 s.heap.size)) (F0 m 0 ls []) := by
    intro H hP hS
    unfold w_X4_goRead at hw
    refine lv_aload_n hx hb dX4_goRead_0 rfl (lv_at hl 0 rfl) ?_
    refine lv_iload_n hx hb dX4_goRead_1 rfl (lv_at hl 1 rfl) ?_
    refine cvI (As := [.int a1]) (rest := []) F hK hP hS (c_X4_placeAsked l D ad cI cJ hap H.size _ _ _ hw) (cwV 1 hts gX4_goRead_X4_placeAsked rfl rfl rfl (by decide +kernel) ⟨Nat.le_of_ble_eq_true rfl, Nat.le_of_ble_eq_true rfl⟩) (va_recv hK hP (ci := 3) (q0 := 2) rfl rfl) rfl hl.1 rfl (Nat.le_of_ble_eq_true rfl) dX4_goRead_2 ⟨Nat.zero_le _, Nat.zero_le _⟩ (fun r_2 u_1 H locs hw hP hS => ?_)
    refine lv_istore (lv' := [(4, .int r_2), (0, .ref (ad 2)), (1, .int a1), (2, .int a2), (3, .int a3)]) hx hb dX4_goRead_5 hl (by decide) rfl (fun ls hl => ?_)
    refine lv_aload_n hx hb dX4_goRead_7 rfl (lv_at hl 1 rfl) ?_
    refine lv_iload_n hx hb dX4_goRead_8 rfl (lv_at hl 2 rfl) ?_
    refine lv_iload_n hx hb dX4_goRead_9 rfl (lv_at hl 3 rfl) ?_
    refine lv_iload hx hb dX4_goRead_10 (lv_at hl 0 rfl) ?_
    refine cvL (As := [.int a1, .int a2, .int r_2]) (rest := []) F hK hP hS (c_X4_refuseCell l D ad cI cJ hap H.size _ _ _ _ _ hw) (cwV 3 hts gX4_goRead_X4_refuseCell rfl rfl rfl (by decide +kernel) ⟨Nat.le_of_ble_eq_true rfl, Nat.le_of_ble_eq_true rfl⟩) (va_recv hK hP (ci := 3) (q0 := 2) rfl rfl) rfl hl.1 rfl (Nat.le_of_ble_eq_true rfl) dX4_goRead_12 ⟨Nat.zero_le _, Nat.zero_le _⟩ (fun r_4 u_3 H locs hw hP hS => ?_)
    refine lv_lstore (lv' := [(5, .long r_4), (4, .int r_2), (0, .ref (ad 2)), (1, .int a1), (2, .int a2), (3, .int a3)]) hx hb dX4_goRead_15 hl (by decide) rfl (fun ls hl => ?_)
    refine lv_lload hx hb dX4_goRead_17 (lv_at hl 0 rfl) ?_
    refine lv_lconst (v := 0) hx hb dX4_goRead_19 (by decide) ?_
    refine W.lcmp hx hb dX4_goRead_20 ?_
    refine lv_if_ne (tgt := 30) hx hb dX4_goRead_21 (by decide) (fun c_16 => ?_) (fun c_16 => ?_)
    · have hw := hw.1 c_16
      refine lv_aload_n hx hb dX4_goRead_30 rfl (lv_at hl 2 rfl) ?_
      refine lv_iload_n hx hb dX4_goRead_31 rfl (lv_at hl 4 rfl) ?_
      refine lv_iconst (v := 0) hx hb dX4_goRead_32 (by decide) ?_
      refine lv_iload_n hx hb dX4_goRead_33 rfl (lv_at hl 5 rfl) ?_
      refine lv_lload hx hb dX4_goRead_34 (lv_at hl 0 rfl) ?_
      refine cvV (As := [.int a2, .int 0, .int a3, .long r_4]) (rest := []) F hK hP hS (c_X4_give l D ad cI cJ hap H.size _ _ _ _ _ _ hw) (cwV 4 hts gX4_goRead_X4_give rfl rfl rfl (by decide +kernel) ⟨Nat.le_of_ble_eq_true rfl, Nat.le_of_ble_eq_true rfl⟩) (va_recv hK hP (ci := 3) (q0 := 2) rfl rfl) rfl hl.1 rfl (Nat.le_of_ble_eq_true rfl) dX4_goRead_36 ⟨Nat.zero_le _, Nat.zero_le _⟩ (fun u_5 H locs hw hP hS => ?_)
      exact rtV F hr hlocks hK hw hP hS dX4_goRead_39
    · have hw := hw.2 c_16
      refine lv_iload hx hb dX4_goRead_24 (lv_at hl 1 rfl) ?_
      refine lv_iconst (v := (-1)) hx hb dX4_goRead_26 (by decide) ?_
      refine lv_icmp_ne (tgt := 40) hx hb dX4_goRead_27 (by decide) (fun c_15 => ?_) (fun c_15 => ?_)
      · have hw := hw.1 c_15
        refine lv_aload_n hx hb dX4_goRead_40 rfl (lv_at hl 2 rfl) ?_
        refine gC_X4_store F hK iw_X4 hP f_f12 dX4_goRead_41 ?_
        refine gC_X6_written F hK iw_X6 hP f_f280 dX4_goRead_44 ?_
        refine lv_iload hx hb dX4_goRead_47 (lv_at hl 1 rfl) ?_
        obtain ⟨i_12, hw⟩ := hw
        refine lC_X6_written F hK hP i_12 dX4_goRead_49 ?_
        refine lv_lstore (lv' := [(7, .long (gL u_3 3 (r_2).toNatClampNeg)), (5, .long r_4), (4, .int r_2), (0, .ref (ad 2)), (1, .int a1), (2, .int a2), (3, .int a3)]) hx hb dX4_goRead_50 hl (by decide) rfl (fun ls hl => ?_)
        refine lv_lload hx hb dX4_goRead_52 (lv_at hl 0 rfl) ?_
        refine lv_lconst (v := 0) hx hb dX4_goRead_54 (by decide) ?_
        refine W.lcmp hx hb dX4_goRead_55 ?_
        refine lv_if_ne (tgt := 72) hx hb dX4_goRead_56 (by decide) (fun c_11 => ?_) (fun c_11 => ?_)
        · have hw := hw.1 c_11
          refine lv_aload_n hx hb dX4_goRead_72 rfl (lv_at hl 3 rfl) ?_
          refine lv_iload_n hx hb dX4_goRead_73 rfl (lv_at hl 5 rfl) ?_
          refine lv_iconst (v := 0) hx hb dX4_goRead_74 (by decide) ?_
          refine lv_iload_n hx hb dX4_goRead_75 rfl (lv_at hl 6 rfl) ?_
          refine lv_lload hx hb dX4_goRead_76 (lv_at hl 0 rfl) ?_
          refine cvV (As := [.int a2, .int 0, .int a3, .long (gL u_3 3 (r_2).toNatClampNeg)]) (rest := []) F hK hP hS (c_X4_give l D ad cI cJ hap H.size _ _ _ _ _ _ hw) (cwV 4 hts gX4_goRead_X4_give rfl rfl rfl (by decide +kernel) ⟨Nat.le_of_ble_eq_true rfl, Nat.le_of_ble_eq_true rfl⟩) (va_recv hK hP (ci := 3) (q0 := 2) rfl rfl) rfl hl.1 rfl (Nat.le_of_ble_eq_true rfl) dX4_goRead_78 ⟨Nat.zero_le _, Nat.zero_le _⟩ (fun u_7 H locs hw hP hS => ?_)
          exact rtV F hr hlocks hK hw hP hS dX4_goRead_81
        · have hw := hw.2 c_11
          refine lv_aload_n hx hb dX4_goRead_59 rfl (lv_at hl 3 rfl) ?_
          refine gC_X4_store F hK iw_X4 hP f_f12 dX4_goRead_60 ?_
          refine lv_iload hx hb dX4_goRead_63 (lv_at hl 2 rfl) ?_
          refine lv_iload_n hx hb dX4_goRead_65 rfl (lv_at hl 4 rfl) ?_
          refine cvV (As := [.int r_2, .int a1]) (rest := []) F hK hP hS (c_X6_addReader l D ad cI cJ hap H.size _ _ _ _ hw) (cwV 2 hts gX4_goRead_X6_addReader rfl rfl rfl (by decide +kernel) ⟨Nat.le_of_ble_eq_true rfl, Nat.le_of_ble_eq_true rfl⟩) (va_recv hK hP (ci := 5) (q0 := 3) rfl rfl) rfl hl.1 rfl (Nat.le_of_ble_eq_true rfl) dX4_goRead_66 ⟨Nat.zero_le _, Nat.zero_le _⟩ (fun u_9 H locs hw hP hS => ?_)
          refine lv_goto (tgt := 81) hx hb dX4_goRead_69 (by decide) ?_
          exact rtV F hr hlocks hK hw hP hS dX4_goRead_81
      · have hw := hw.2 c_15
        refine lv_aload_n hx hb dX4_goRead_30 rfl (lv_at hl 2 rfl) ?_
        refine lv_iload_n hx hb dX4_goRead_31 rfl (lv_at hl 4 rfl) ?_
        refine lv_iconst (v := 0) hx hb dX4_goRead_32 (by decide) ?_
        refine lv_iload_n hx hb dX4_goRead_33 rfl (lv_at hl 5 rfl) ?_
        refine lv_lload hx hb dX4_goRead_34 (lv_at hl 0 rfl) ?_
        refine cvV (As := [.int a2, .int 0, .int a3, .long r_4]) (rest := []) F hK hP hS (c_X4_give l D ad cI cJ hap H.size _ _ _ _ _ _ hw) (cwV 4 hts gX4_goRead_X4_give rfl rfl rfl (by decide +kernel) ⟨Nat.le_of_ble_eq_true rfl, Nat.le_of_ble_eq_true rfl⟩) (va_recv hK hP (ci := 3) (q0 := 2) rfl rfl) rfl hl.1 rfl (Nat.le_of_ble_eq_true rfl) dX4_goRead_36 ⟨Nat.zero_le _, Nat.zero_le _⟩ (fun u_13 H locs hw hP hS => ?_)
        exact rtV F hr hlocks hK hw hP hS dX4_goRead_39
  exact key s.heap hP hS

abbrev rm_X6_takeReader : Room := { frames := 0, cells := 0, slots := 0, locals := 0 }
set_option maxHeartbeats 4000000 in
set_option maxRecDepth 100000 in
theorem c_X6_takeReader (l : Launch) (D : va_G) (ad : Nat → Nat) (cI cJ : ClassId) (hap : apart ad 42) (sz : Nat) (σ : St) (a1 : Int32) (K : Int32 → St → Prop) (hw : w_X6_takeReader σ a1 K) : Met l yX6_takeReader wsX6_takeReader rm_X6_takeReader (va_Pc [.ref (ad 3), .int a1] (fun U => U.heap.size = sz ∧ inW D (wdC ad cI cJ) [(cI, .int), (cJ, .long)] σ U)) (va_Qi K (inW D (wdC ad cI cJ) [(cI, .int), (cJ, .long)]) (AW ad 42 sz)) 0 0 (AW ad 42 sz) := by
  refine Met.ofW (cc := cX6_takeReader) (maxL := 3) (ret := (some .int)) (by decide) rfl ?_
  intro p e s m args below meth c s₁ B hml hv
  obtain ⟨rfl, hsz, ⟨hP, hK⟩⟩ := hv
  have F : CallFix p m c cX6_takeReader 3 s ([.ref (ad 3), .int a1] : List Value).toArray wsX6_takeReader RX6 := ⟨B.exec, B.bytes, hml, findClass_of_methodNamed B.named, atoms_spec (ws := wsX6_takeReader) B.pre⟩
  have hx := F.1
  have hb := F.2.1
  have hown := F.2.2.2.1
  have hts := F.2.2.2.2
  have hr := B.returns
  have hlocks := B.notSynchronized
  subst hsz
  have hDs : ∀ σ, va_D (AW ad 42 s.heap.size) ((wdC ad cI cJ) σ) := fun σ => wdC_D hap σ
  have hS : va_S (AW ad 42 s.heap.size) s.heap s.heap [] := va_S.rf
  have iw_X6 : ∀ w ∈ u_ws RX6 TX6 10, w ∈ wsX6_takeReader := by decide +kernel
  have f_f25 := hts (.fieldLink RX6 25 "TokenFloor$Store" "firstReader" "[I") (by decide +kernel)
  have f_f31 := hts (.fieldLink RX6 31 "TokenFloor$Store" "nextReader" "[I") (by decide +kernel)
  have f_f34 := hts (.fieldLink RX6 34 "TokenFloor$Store" "waiting" "I") (by decide +kernel)
  have hl := lv_entry ([.ref (ad 3), .int a1]) (n := 3) (Nat.le_of_ble_eq_true rfl)
  rw [lg_entry_eq]
  generalize (lg_sl ([.ref (ad 3), .int a1]) ++ List.replicate (3 - (lg_sl ([.ref (ad 3), .int a1])).length) Slot.unset).toArray = ls at hl ⊢
  have hl : lv_has ls 3 [(0, .ref (ad 3)), (1, .int a1)] := hl
  have key : ∀ (H : Heap), va_P D vwCl ((wdC ad cI cJ) σ) H → va_S (AW ad 42 s.heap.size) s.heap H [] → W p l e (headSpec wsX6_takeReader rm_X6_takeReader).room s m ([.ref (ad 3), .int a1] : List Value).toArray below meth c H [] 0 0 (MQ below (va_Qi K (inW D (wdC ad cI cJ) [(cI, .int), (cJ, .long)]) (AW ad 42 s.heap.size)) ([.ref (ad 3), .int a1] : List Value).toArray s 0 0 (AW ad 42 s.heap.size)) (F0 m 0 ls []) := by
    intro H hP hS
    unfold w_X6_takeReader at hw
    refine lv_aload_n hx hb dX6_takeReader_0 rfl (lv_at hl 0 rfl) ?_
    refine gC_X6_firstReader F hK iw_X6 hP f_f25 dX6_takeReader_1 ?_
    refine lv_iload_n hx hb dX6_takeReader_4 rfl (lv_at hl 1 rfl) ?_
    obtain ⟨i_4, hw⟩ := hw
    refine lC_X6_firstReader F hK hP i_4 dX6_takeReader_5 ?_
    refine lv_istore_n (lv' := [(2, .int (gA σ 16 (a1).toNatClampNeg)), (0, .ref (ad 3)), (1, .int a1)]) hx hb dX6_takeReader_6 rfl hl (by decide) rfl (fun ls hl => ?_)
    refine lv_iload_n hx hb dX6_takeReader_7 rfl (lv_at hl 0 rfl) ?_
    refine lv_iconst (v := (-1)) hx hb dX6_takeReader_8 (by decide) ?_
    refine lv_icmp_ne (tgt := 14) hx hb dX6_takeReader_9 (by decide) (fun c_3 => ?_) (fun c_3 => ?_)
    · have hw := hw.1 c_3
      refine lv_aload_n hx hb dX6_takeReader_14 rfl (lv_at hl 1 rfl) ?_
      refine gC_X6_firstReader F hK iw_X6 hP f_f25 dX6_takeReader_15 ?_
      refine lv_iload_n hx hb dX6_takeReader_18 rfl (lv_at hl 2 rfl) ?_
      refine lv_aload_n hx hb dX6_takeReader_19 rfl (lv_at hl 1 rfl) ?_
      refine gC_X6_nextReader F hK iw_X6 hP f_f31 dX6_takeReader_20 ?_
      refine lv_iload_n hx hb dX6_takeReader_23 rfl (lv_at hl 0 rfl) ?_
      obtain ⟨i_2, hw⟩ := hw
      refine lC_X6_nextReader F hK hP i_2 dX6_takeReader_24 ?_
      obtain ⟨i_1, hw⟩ := hw
      refine sC_X6_firstReader F hK hP hDs hS i_1 dX6_takeReader_25 (fun H locs hP hS => ?_)
      refine lv_aload_n hx hb dX6_takeReader_26 rfl (lv_at hl 1 rfl) ?_
      refine lv_dup hx hb dX6_takeReader_27 rfl ?_
      refine gC_X6_waiting F hK iw_X6 hP f_f34 dX6_takeReader_28 ?_
      refine W.eq (g2 := F0 m 31 ls [.int (gS σ 11), .ref (ad 3)]) rfl ?_
      refine lv_iconst (v := 1) hx hb dX6_takeReader_31 (by decide) ?_
      refine lv_isub hx hb dX6_takeReader_32 ?_
      refine pC_X6_waiting F hK iw_X6 hP hDs hS f_f34 dX6_takeReader_33 (fun H locs hP hS => ?_)
      refine lv_iload_n hx hb dX6_takeReader_36 rfl (lv_at hl 0 rfl) ?_
      exact rtI F hr hlocks hK hw hP hS dX6_takeReader_37
    · have hw := hw.2 c_3
      refine lv_iconst (v := (-1)) hx hb dX6_takeReader_12 (by decide) ?_
      exact rtI F hr hlocks hK hw hP hS dX6_takeReader_13
  exact key s.heap hP hS
