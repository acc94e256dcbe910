abbrev rm_X4_goWrite : Room := { frames := 3, cells := 0, slots := 0, locals := 79 }
set_option maxHeartbeats 4000000 in
set_option maxRecDepth 100000 in
theorem c_X4_goWrite (l : Launch) (D : va_G) (ad : Nat → Nat) (cI cJ : ClassId) (hap : apart ad 42) (sz : Nat) (σ : St) (a1 : Int32) (a2 : Int32) (a3 : Int32) (K : St → Prop) (hw : w_X4_goWrite σ a1 a2 a3 K) : Met l yX4_goWrite wsX4_goWrite rm_X4_goWrite (va_Pc [.ref (ad 2), .int a1, .int a2, .int a3] (fun U => U.heap.size = sz ∧ inW D (wdC ad cI cJ) [(cI, .int), (cJ, .long)] σ U)) (va_Qv K (inW D (wdC ad cI cJ) [(cI, .int), (cJ, .long)]) (AW ad 42 sz)) 0 0 (AW ad 42 sz) := by
  refine Met.ofW (cc := cX4_goWrite) (maxL := 11) (ret := none) (by decide) rfl ?_
  intro p e s m args below meth c s₁ B hml hv
  obtain ⟨rfl, hsz, ⟨hP, hK⟩⟩ := hv
  have F : CallFix p m c cX4_goWrite 11 s ([.ref (ad 2), .int a1, .int a2, .int a3] : List Value).toArray wsX4_goWrite RX4 := ⟨B.exec, B.bytes, hml, findClass_of_methodNamed B.named, atoms_spec (ws := wsX4_goWrite) B.pre⟩
  have hx := F.1
  have hb := F.2.1
  have hown := F.2.2.2.1
  have hts := F.2.2.2.2
  have hr := B.returns
  have hlocks := B.notSynchronized
  subst hsz
  have hDs : ∀ σ, va_D (AW ad 42 s.heap.size) ((wdC ad cI cJ) σ) := fun σ => wdC_D hap σ
  have hS : va_S (AW ad 42 s.heap.size) s.heap s.heap [] := va_S.rf
  have iw_X1 : ∀ w ∈ u_ws RX1 TX1 8, w ∈ wsX4_goWrite := by decide +kernel
  have iw_X4 : ∀ w ∈ u_ws RX4 TX4 14, w ∈ wsX4_goWrite := by decide +kernel
  have iw_X6 : ∀ w ∈ u_ws RX6 TX6 10, w ∈ wsX4_goWrite := by decide +kernel
  have f_f12 := hts (.fieldLink RX4 12 "TokenFloor$Machine" "store" "LTokenFloor$Store;") (by decide +kernel)
  have f_f170 := hts (.fieldLink RX4 170 "TokenFloor$Floor" "actOf" "[I") (by decide +kernel)
  have f_f172 := hts (.fieldLink RX4 172 "TokenFloor$Floor" "colourOf" "[I") (by decide +kernel)
  have f_f280 := hts (.fieldLink RX4 280 "TokenFloor$Store" "written" "[J") (by decide +kernel)
  have f_f36 := hts (.fieldLink RX4 36 "TokenFloor$Machine" "floor" "LTokenFloor$Floor;") (by decide +kernel)
  have f_f78 := hts (.fieldLink RX4 78 "TokenFloor$Machine" "how" "I") (by decide +kernel)
  have lab_98 : ∀ (n : Nat), ∀ (σ : St) (x2 : Int32) (x3 : Int32) (x4 : Int32) (x7 : Int64) (x9 : Int32) (x10 : Int32) (H : Heap) (locs : List Loc) (ls : Array Slot), w_X4_goWrite_98 K n σ x2 x3 x4 x7 x9 x10 → va_P D vwCl ((wdC ad cI cJ) σ) H → va_S (AW ad 42 s.heap.size) s.heap H locs → lv_has ls 11 [(0, .ref (ad 2)), (2, .int x2), (3, .int x3), (4, .int x4), (7, .long x7), (9, .int x9), (10, .int x10)] → W p l e (headSpec wsX4_goWrite rm_X4_goWrite).room s m ([.ref (ad 2), .int a1, .int a2, .int a3] : List Value).toArray below meth c H locs 0 0 (MQ below (va_Qv K (inW D (wdC ad cI cJ) [(cI, .int), (cJ, .long)]) (AW ad 42 s.heap.size)) ([.ref (ad 2), .int a1, .int a2, .int a3] : List Value).toArray s 0 0 (AW ad 42 s.heap.size)) (F0 m 98 ls []) := by
    intro n
    induction n with
    | zero =>
      intro σ x2 x3 x4 x7 x9 x10 H locs ls hw
      exact hw.elim
    | succ n hL98 =>
      intro σ x2 x3 x4 x7 x9 x10 H locs ls hw hP hS hl
      have hw : b_X4_goWrite_98 (w_X4_goWrite_98 K n) K σ x2 x3 x4 x7 x9 x10 := hw
      unfold b_X4_goWrite_98 at hw
      generalize w_X4_goWrite_98 K n = L98 at hw hL98
      refine lv_iload hx hb dX4_goWrite_98 (lv_at hl 6 rfl) ?_
      refine lv_sipush (v := 3000) hx hb dX4_goWrite_100 (by decide) ?_
      refine lv_icmp_ge (tgt := 168) hx hb dX4_goWrite_103 (by decide) (fun c_13 => ?_) (fun c_13 => ?_)
      · have hw := hw.1 c_13
        refine lv_aload_n hx hb dX4_goWrite_168 rfl (lv_at hl 0 rfl) ?_
        refine lv_iload_n hx hb dX4_goWrite_169 rfl (lv_at hl 1 rfl) ?_
        refine lv_iconst (v := 0) hx hb dX4_goWrite_170 (by decide) ?_
        refine lv_iload_n hx hb dX4_goWrite_171 rfl (lv_at hl 2 rfl) ?_
        refine lv_lload hx hb dX4_goWrite_172 (lv_at hl 4 rfl) ?_
        refine cvV (As := [.int x2, .int 0, .int x3, .long x7]) (rest := []) F hK hP hS (c_X4_give l D ad cI cJ hap H.size _ _ _ _ _ _ hw) (cwV 4 hts gX4_goWrite_X4_give rfl rfl rfl (by decide +kernel) ⟨Nat.le_of_ble_eq_true rfl, Nat.le_of_ble_eq_true rfl⟩) (va_recv hK hP (ci := 3) (q0 := 2) rfl rfl) rfl hl.1 rfl (Nat.le_of_ble_eq_true rfl) dX4_goWrite_174 ⟨Nat.zero_le _, Nat.zero_le _⟩ (fun u_1 H locs hw hP hS => ?_)
        exact rtV F hr hlocks hK hw hP hS dX4_goWrite_177
      · have hw := hw.2 c_13
        refine lv_iload hx hb dX4_goWrite_106 (lv_at hl 5 rfl) ?_
        refine lv_iconst (v := (-1)) hx hb dX4_goWrite_108 (by decide) ?_
        refine lv_icmp_eq (tgt := 168) hx hb dX4_goWrite_109 (by decide) (fun c_12 => ?_) (fun c_12 => ?_)
        · have hw := hw.1 c_12
          refine lv_aload_n hx hb dX4_goWrite_168 rfl (lv_at hl 0 rfl) ?_
          refine lv_iload_n hx hb dX4_goWrite_169 rfl (lv_at hl 1 rfl) ?_
          refine lv_iconst (v := 0) hx hb dX4_goWrite_170 (by decide) ?_
          refine lv_iload_n hx hb dX4_goWrite_171 rfl (lv_at hl 2 rfl) ?_
          refine lv_lload hx hb dX4_goWrite_172 (lv_at hl 4 rfl) ?_
          refine cvV (As := [.int x2, .int 0, .int x3, .long x7]) (rest := []) F hK hP hS (c_X4_give l D ad cI cJ hap H.size _ _ _ _ _ _ hw) (cwV 4 hts gX4_goWrite_X4_give rfl rfl rfl (by decide +kernel) ⟨Nat.le_of_ble_eq_true rfl, Nat.le_of_ble_eq_true rfl⟩) (va_recv hK hP (ci := 3) (q0 := 2) rfl rfl) rfl hl.1 rfl (Nat.le_of_ble_eq_true rfl) dX4_goWrite_174 ⟨Nat.zero_le _, Nat.zero_le _⟩ (fun u_3 H locs hw hP hS => ?_)
          exact rtV F hr hlocks hK hw hP hS dX4_goWrite_177
        · have hw := hw.2 c_12
          refine lv_aload_n hx hb dX4_goWrite_112 rfl (lv_at hl 0 rfl) ?_
          refine lv_aload_n hx hb dX4_goWrite_113 rfl (lv_at hl 0 rfl) ?_
          refine gC_X4_floor F hK iw_X4 hP f_f36 dX4_goWrite_114 ?_
          refine gC_X1_actOf F hK iw_X1 hP f_f170 dX4_goWrite_117 ?_
          refine lv_iload hx hb dX4_goWrite_120 (lv_at hl 5 rfl) ?_
          obtain ⟨i_11, hw⟩ := hw
          refine lC_X1_actOf F hK hP i_11 dX4_goWrite_122 ?_
          refine lv_iconst (v := 0) hx hb dX4_goWrite_123 (by decide) ?_
          refine lv_aload_n hx hb dX4_goWrite_124 rfl (lv_at hl 0 rfl) ?_
          refine gC_X4_floor F hK iw_X4 hP f_f36 dX4_goWrite_125 ?_
          refine gC_X1_colourOf F hK iw_X1 hP f_f172 dX4_goWrite_128 ?_
          refine lv_iload hx hb dX4_goWrite_131 (lv_at hl 5 rfl) ?_
          obtain ⟨i_10, hw⟩ := hw
          refine lC_X1_colourOf F hK hP i_10 dX4_goWrite_133 ?_
          refine lv_lload hx hb dX4_goWrite_134 (lv_at hl 4 rfl) ?_
          refine cvV (As := [.int (gA σ 24 (x9).toNatClampNeg), .int 0, .int (gA σ 25 (x9).toNatClampNeg), .long x7]) (rest := []) F hK hP hS (c_X4_give l D ad cI cJ hap H.size _ _ _ _ _ _ hw) (cwV 4 hts gX4_goWrite_X4_give rfl rfl rfl (by decide +kernel) ⟨Nat.le_of_ble_eq_true rfl, Nat.le_of_ble_eq_true rfl⟩) (va_recv hK hP (ci := 3) (q0 := 2) rfl rfl) rfl hl.1 rfl (Nat.le_of_ble_eq_true rfl) dX4_goWrite_136 ⟨Nat.zero_le _, Nat.zero_le _⟩ (fun u_5 H locs hw hP hS => ?_)
          refine lv_aload_n hx hb dX4_goWrite_139 rfl (lv_at hl 0 rfl) ?_
          refine gC_X4_how F hK iw_X4 hP f_f78 dX4_goWrite_140 ?_
          refine W.eq (g2 := F0 m 143 ls [.int (gS u_5 4)]) rfl ?_
          refine lv_iconst (v := (-1)) hx hb dX4_goWrite_143 (by decide) ?_
          refine lv_icmp_ne (tgt := 159) hx hb dX4_goWrite_144 (by decide) (fun c_9 => ?_) (fun c_9 => ?_)
          · have hw := hw.1 c_9
            refine lv_iconst (v := (-1)) hx hb dX4_goWrite_159 (by decide) ?_
            refine lv_istore (lv' := [(9, .int (-1)), (0, .ref (ad 2)), (2, .int x2), (3, .int x3), (4, .int x4), (7, .long x7), (10, .int x10)]) hx hb dX4_goWrite_160 hl (by decide) rfl (fun ls hl => ?_)
            refine lv_iinc (v := (x10 + 1)) (lv' := [(10, .int (x10 + 1)), (9, .int (-1)), (0, .ref (ad 2)), (2, .int x2), (3, .int x3), (4, .int x4), (7, .long x7)]) hx hb dX4_goWrite_162 hl (k := 6) rfl rfl (by decide) rfl (fun ls hl => ?_)
            refine lv_goto (tgt := 98) hx hb dX4_goWrite_165 (by decide) ?_
            exact hL98 _ _ _ _ _ _ _ _ _ _ hw hP hS (lv_sub hl [2, 3, 4, 5, 6, 1, 0] rfl)
          · have hw := hw.2 c_9
            refine lv_aload_n hx hb dX4_goWrite_147 rfl (lv_at hl 0 rfl) ?_
            refine gC_X4_store F hK iw_X4 hP f_f12 dX4_goWrite_148 ?_
            refine lv_iload hx hb dX4_goWrite_151 (lv_at hl 3 rfl) ?_
            refine cvI (As := [.int x4]) (rest := []) F hK hP hS (c_X6_takeReader l D ad cI cJ hap H.size _ _ _ hw) (cwV 1 hts gX4_goWrite_X6_takeReader rfl rfl rfl (by decide +kernel) ⟨Nat.le_of_ble_eq_true rfl, Nat.le_of_ble_eq_true rfl⟩) (va_recv hK hP (ci := 5) (q0 := 3) rfl rfl) rfl hl.1 rfl (Nat.le_of_ble_eq_true rfl) dX4_goWrite_153 ⟨Nat.zero_le _, Nat.zero_le _⟩ (fun r_8 u_7 H locs hw hP hS => ?_)
            refine lv_goto (tgt := 160) hx hb dX4_goWrite_156 (by decide) ?_
            refine lv_istore (lv' := [(9, .int r_8), (0, .ref (ad 2)), (2, .int x2), (3, .int x3), (4, .int x4), (7, .long x7), (10, .int x10)]) hx hb dX4_goWrite_160 hl (by decide) rfl (fun ls hl => ?_)
            refine lv_iinc (v := (x10 + 1)) (lv' := [(10, .int (x10 + 1)), (9, .int r_8), (0, .ref (ad 2)), (2, .int x2), (3, .int x3), (4, .int x4), (7, .long x7)]) hx hb dX4_goWrite_162 hl (k := 6) rfl rfl (by decide) rfl (fun ls hl => ?_)
            refine lv_goto (tgt := 98) hx hb dX4_goWrite_165 (by decide) ?_
            exact hL98 _ _ _ _ _ _ _ _ _ _ hw hP hS (lv_sub hl [2, 3, 4, 5, 6, 1, 0] rfl)
  have hl := lv_entry ([.ref (ad 2), .int a1, .int a2, .int a3]) (n := 11) (Nat.le_of_ble_eq_true rfl)
  rw [lg_entry_eq]
  generalize (lg_sl ([.ref (ad 2), .int a1, .int a2, .int a3]) ++ List.replicate (11 - (lg_sl ([.ref (ad 2), .int a1, .int a2, .int a3])).length) Slot.unset).toArray = ls at hl ⊢
  have hl : lv_has ls 11 [(0, .ref (ad 2)), (1, .int a1), (2, .int a2), (3, .int a3)] := hl
  have key : ∀ (H : Heap), va_P D vwCl ((wdC ad cI cJ) σ) H → va_S (AW ad 42 s.heap.size) s.heap H [] → W p l e (headSpec wsX4_goWrite rm_X4_goWrite).room s m ([.ref (ad 2), .int a1, .int a2, .int a3] : List Value).toArray below meth c H [] 0 0 (MQ below (va_Qv K (inW D (wdC ad cI cJ) [(cI, .int), (cJ, .long)]) (AW ad 42 s.heap.size)) ([.ref (ad 2), .int a1, .int a2, .int a3] : List Value).toArray s 0 0 (AW ad 42 s.heap.size)) (F0 m 0 ls []) := by
    intro H hP hS
    unfold w_X4_goWrite at hw
    refine lv_aload_n hx hb dX4_goWrite_0 rfl (lv_at hl 0 rfl) ?_
    refine lv_iload_n hx hb dX4_goWrite_1 rfl (lv_at hl 1 rfl) ?_
    refine cvI (As := [.int a1]) (rest := []) F hK hP hS (c_X4_placeAsked l D ad cI cJ hap H.size _ _ _ hw) (cwV 1 hts gX4_goWrite_X4_placeAsked rfl rfl rfl (by decide +kernel) ⟨Nat.le_of_ble_eq_true rfl, Nat.le_of_ble_eq_true rfl⟩) (va_recv hK hP (ci := 3) (q0 := 2) rfl rfl) rfl hl.1 rfl (Nat.le_of_ble_eq_true rfl) dX4_goWrite_2 ⟨Nat.zero_le _, Nat.zero_le _⟩ (fun r_15 u_14 H locs hw hP hS => ?_)
    refine lv_istore (lv' := [(4, .int r_15), (0, .ref (ad 2)), (1, .int a1), (2, .int a2), (3, .int a3)]) hx hb dX4_goWrite_5 hl (by decide) rfl (fun ls hl => ?_)
    refine lv_aload_n hx hb dX4_goWrite_7 rfl (lv_at hl 1 rfl) ?_
    refine lv_iload_n hx hb dX4_goWrite_8 rfl (lv_at hl 2 rfl) ?_
    refine lv_iload_n hx hb dX4_goWrite_9 rfl (lv_at hl 3 rfl) ?_
    refine lv_iload hx hb dX4_goWrite_10 (lv_at hl 0 rfl) ?_
    refine cvL (As := [.int a1, .int a2, .int r_15]) (rest := []) F hK hP hS (c_X4_refuseCell l D ad cI cJ hap H.size _ _ _ _ _ hw) (cwV 3 hts gX4_goWrite_X4_refuseCell rfl rfl rfl (by decide +kernel) ⟨Nat.le_of_ble_eq_true rfl, Nat.le_of_ble_eq_true rfl⟩) (va_recv hK hP (ci := 3) (q0 := 2) rfl rfl) rfl hl.1 rfl (Nat.le_of_ble_eq_true rfl) dX4_goWrite_12 ⟨Nat.zero_le _, Nat.zero_le _⟩ (fun r_17 u_16 H locs hw hP hS => ?_)
    refine lv_lstore (lv' := [(5, .long r_17), (4, .int r_15), (0, .ref (ad 2)), (1, .int a1), (2, .int a2), (3, .int a3)]) hx hb dX4_goWrite_15 hl (by decide) rfl (fun ls hl => ?_)
    refine lv_lload hx hb dX4_goWrite_17 (lv_at hl 0 rfl) ?_
    refine lv_lconst (v := 0) hx hb dX4_goWrite_19 (by decide) ?_
    refine W.lcmp hx hb dX4_goWrite_20 ?_
    refine lv_if_ne (tgt := 30) hx hb dX4_goWrite_21 (by decide) (fun c_33 => ?_) (fun c_33 => ?_)
    · have hw := hw.1 c_33
      refine lv_aload_n hx hb dX4_goWrite_30 rfl (lv_at hl 2 rfl) ?_
      refine lv_iload_n hx hb dX4_goWrite_31 rfl (lv_at hl 4 rfl) ?_
      refine lv_iconst (v := 0) hx hb dX4_goWrite_32 (by decide) ?_
      refine lv_iload_n hx hb dX4_goWrite_33 rfl (lv_at hl 5 rfl) ?_
      refine lv_lload hx hb dX4_goWrite_34 (lv_at hl 0 rfl) ?_
      refine cvV (As := [.int a2, .int 0, .int a3, .long r_17]) (rest := []) F hK hP hS (c_X4_give l D ad cI cJ hap H.size _ _ _ _ _ _ hw) (cwV 4 hts gX4_goWrite_X4_give rfl rfl rfl (by decide +kernel) ⟨Nat.le_of_ble_eq_true rfl, Nat.le_of_ble_eq_true rfl⟩) (va_recv hK hP (ci := 3) (q0 := 2) rfl rfl) rfl hl.1 rfl (Nat.le_of_ble_eq_true rfl) dX4_goWrite_36 ⟨Nat.zero_le _, Nat.zero_le _⟩ (fun u_18 H locs hw hP hS => ?_)
      exact rtV F hr hlocks hK hw hP hS dX4_goWrite_39
    · have hw := hw.2 c_33
      refine lv_iload hx hb dX4_goWrite_24 (lv_at hl 1 rfl) ?_
      refine lv_iconst (v := (-1)) hx hb dX4_goWrite_26 (by decide) ?_
      refine lv_icmp_ne (tgt := 40) hx hb dX4_goWrite_27 (by decide) (fun c_32 => ?_) (fun c_32 => ?_)
      · have hw := hw.1 c_32
        refine lv_aload_n hx hb dX4_goWrite_40 rfl (lv_at hl 2 rfl) ?_
        refine gC_X4_store F hK iw_X4 hP f_f12 dX4_goWrite_41 ?_
        refine gC_X6_written F hK iw_X6 hP f_f280 dX4_goWrite_44 ?_
        refine lv_iload hx hb dX4_goWrite_47 (lv_at hl 1 rfl) ?_
        obtain ⟨i_29, hw⟩ := hw
        refine lC_X6_written F hK hP i_29 dX4_goWrite_49 ?_
        refine lv_lconst (v := 0) hx hb dX4_goWrite_50 (by decide) ?_
        refine W.lcmp hx hb dX4_goWrite_51 ?_
        refine lv_if_eq (tgt := 61) hx hb dX4_goWrite_52 (by decide) (fun c_28 => ?_) (fun c_28 => ?_)
        · have hw := hw.1 c_28
          refine lv_aload_n hx hb dX4_goWrite_61 rfl (lv_at hl 2 rfl) ?_
          refine gC_X4_floor F hK iw_X4 hP f_f36 dX4_goWrite_62 ?_
          refine lv_iload_n hx hb dX4_goWrite_65 rfl (lv_at hl 3 rfl) ?_
          refine lv_iconst (v := 2) hx hb dX4_goWrite_66 (by decide) ?_
          refine cvL (As := [.int a1, .int 2]) (rest := []) F hK hP hS (c_X1_cameTo l D ad cI cJ hap H.size _ _ _ _ hw) (cwV 2 hts gX4_goWrite_X1_cameTo rfl rfl rfl (by decide +kernel) ⟨Nat.le_of_ble_eq_true rfl, Nat.le_of_ble_eq_true rfl⟩) (va_recv hK hP (ci := 1) (q0 := 5) rfl rfl) rfl hl.1 rfl (Nat.le_of_ble_eq_true rfl) dX4_goWrite_67 ⟨Nat.zero_le _, Nat.zero_le _⟩ (fun r_21 u_20 H locs hw hP hS => ?_)
          refine lv_lstore (lv' := [(7, .long r_21), (5, .long r_17), (4, .int r_15), (0, .ref (ad 2)), (1, .int a1), (2, .int a2), (3, .int a3)]) hx hb dX4_goWrite_70 hl (by decide) rfl (fun ls hl => ?_)
          refine lv_aload_n hx hb dX4_goWrite_72 rfl (lv_at hl 3 rfl) ?_
          refine gC_X4_store F hK iw_X4 hP f_f12 dX4_goWrite_73 ?_
          refine gC_X6_written F hK iw_X6 hP f_f280 dX4_goWrite_76 ?_
          refine lv_iload hx hb dX4_goWrite_79 (lv_at hl 2 rfl) ?_
          refine lv_lload hx hb dX4_goWrite_81 (lv_at hl 0 rfl) ?_
          obtain ⟨i_25, hw⟩ := hw
          refine sC_X6_written F hK hP hDs hS i_25 dX4_goWrite_83 (fun H locs hP hS => ?_)
          refine lv_aload_n hx hb dX4_goWrite_84 rfl (lv_at hl 3 rfl) ?_
          refine gC_X4_store F hK iw_X4 hP f_f12 dX4_goWrite_85 ?_
          refine lv_iload hx hb dX4_goWrite_88 (lv_at hl 2 rfl) ?_
          refine cvI (As := [.int r_15]) (rest := []) F hK hP hS (c_X6_takeReader l D ad cI cJ hap H.size _ _ _ hw) (cwV 1 hts gX4_goWrite_X6_takeReader rfl rfl rfl (by decide +kernel) ⟨Nat.le_of_ble_eq_true rfl, Nat.le_of_ble_eq_true rfl⟩) (va_recv hK hP (ci := 5) (q0 := 3) rfl rfl) rfl hl.1 rfl (Nat.le_of_ble_eq_true rfl) dX4_goWrite_90 ⟨Nat.zero_le _, Nat.zero_le _⟩ (fun r_23 u_22 H locs hw hP hS => ?_)
          refine lv_istore (lv' := [(9, .int r_23), (7, .long r_21), (5, .long r_17), (4, .int r_15), (0, .ref (ad 2)), (1, .int a1), (2, .int a2), (3, .int a3)]) hx hb dX4_goWrite_93 hl (by decide) rfl (fun ls hl => ?_)
          refine lv_iconst (v := 0) hx hb dX4_goWrite_95 (by decide) ?_
          refine lv_istore (lv' := [(10, .int 0), (9, .int r_23), (7, .long r_21), (5, .long r_17), (4, .int r_15), (0, .ref (ad 2)), (1, .int a1), (2, .int a2), (3, .int a3)]) hx hb dX4_goWrite_96 hl (by decide) rfl (fun ls hl => ?_)
          obtain ⟨n_24, hw⟩ := hw
          exact lab_98 n_24 _ _ _ _ _ _ _ _ _ _ hw hP hS (lv_sub hl [5, 7, 8, 4, 2, 1, 0] rfl)
        · have hw := hw.2 c_28
          refine lv_aload_n hx hb dX4_goWrite_55 rfl (lv_at hl 2 rfl) ?_
          refine lv_iload_n hx hb dX4_goWrite_56 rfl (lv_at hl 4 rfl) ?_
          refine cvV (As := [.int a2]) (rest := []) F hK hP hS (c_X4_clashAt l D ad cI cJ hap H.size _ _ _ hw) (cwV 1 hts gX4_goWrite_X4_clashAt rfl rfl rfl (by decide +kernel) ⟨Nat.le_of_ble_eq_true rfl, Nat.le_of_ble_eq_true rfl⟩) (va_recv hK hP (ci := 3) (q0 := 2) rfl rfl) rfl hl.1 rfl (Nat.le_of_ble_eq_true rfl) dX4_goWrite_57 ⟨Nat.zero_le _, Nat.zero_le _⟩ (fun u_26 H locs hw hP hS => ?_)
          exact rtV F hr hlocks hK hw hP hS dX4_goWrite_60
      · have hw := hw.2 c_32
        refine lv_aload_n hx hb dX4_goWrite_30 rfl (lv_at hl 2 rfl) ?_
        refine lv_iload_n hx hb dX4_goWrite_31 rfl (lv_at hl 4 rfl) ?_
        refine lv_iconst (v := 0) hx hb dX4_goWrite_32 (by decide) ?_
        refine lv_iload_n hx hb dX4_goWrite_33 rfl (lv_at hl 5 rfl) ?_
        refine lv_lload hx hb dX4_goWrite_34 (lv_at hl 0 rfl) ?_
        refine cvV (As := [.int a2, .int 0, .int a3, .long r_17]) (rest := []) F hK hP hS (c_X4_give l D ad cI cJ hap H.size _ _ _ _ _ _ hw) (cwV 4 hts gX4_goWrite_X4_give rfl rfl rfl (by decide +kernel) ⟨Nat.le_of_ble_eq_true rfl, Nat.le_of_ble_eq_true rfl⟩) (va_recv hK hP (ci := 3) (q0 := 2) rfl rfl) rfl hl.1 rfl (Nat.le_of_ble_eq_true rfl) dX4_goWrite_36 ⟨Nat.zero_le _, Nat.zero_le _⟩ (fun u_30 H locs hw hP hS => ?_)
        exact rtV F hr hlocks hK hw hP hS dX4_goWrite_39
  exact key s.heap hP hS

abbrev rm_X4_goEnd : Room := { frames := 1, cells := 0, slots := 0, locals := 21 }
set_option maxHeartbeats 4000000 in
set_option maxRecDepth 100000 in
theorem c_X4_goEnd (l : Launch) (D : va_G) (ad : Nat → Nat) (cI cJ : ClassId) (hap : apart ad 42) (sz : Nat) (σ : St) (a1 : Int32) (a2 : Int32) (a3 : Int64) (K : St → Prop) (hw : w_X4_goEnd σ a1 a2 a3 K) : Met l yX4_goEnd wsX4_goEnd rm_X4_goEnd (va_Pc [.ref (ad 2), .int a1, .int a2, .long a3] (fun U => U.heap.size = sz ∧ inW D (wdC ad cI cJ) [(cI, .int), (cJ, .long)] σ U)) (va_Qv K (inW D (wdC ad cI cJ) [(cI, .int), (cJ, .long)]) (AW ad 42 sz)) 0 0 (AW ad 42 sz) := by
  refine Met.ofW (cc := cX4_goEnd) (maxL := 6) (ret := none) (by decide) rfl ?_
  intro p e s m args below meth c s₁ B hml hv
  obtain ⟨rfl, hsz, ⟨hP, hK⟩⟩ := hv
  have F : CallFix p m c cX4_goEnd 6 s ([.ref (ad 2), .int a1, .int a2, .long a3] : List Value).toArray wsX4_goEnd RX4 := ⟨B.exec, B.bytes, hml, findClass_of_methodNamed B.named, atoms_spec (ws := wsX4_goEnd) B.pre⟩
  have hx := F.1
  have hb := F.2.1
  have hown := F.2.2.2.1
  have hts := F.2.2.2.2
  have hr := B.returns
  have hlocks := B.notSynchronized
  subst hsz
  have hDs : ∀ σ, va_D (AW ad 42 s.heap.size) ((wdC ad cI cJ) σ) := fun σ => wdC_D hap σ
  have hS : va_S (AW ad 42 s.heap.size) s.heap s.heap [] := va_S.rf
  have iw_X2 : ∀ w ∈ u_ws RX2 TX2 15, w ∈ wsX4_goEnd := by decide +kernel
  have iw_X4 : ∀ w ∈ u_ws RX4 TX4 14, w ∈ wsX4_goEnd := by decide +kernel
  have f_f186 := hts (.fieldLink RX4 186 "TokenFloor$Graph" "number" "[I") (by decide +kernel)
  have f_f22 := hts (.fieldLink RX4 22 "TokenFloor$Machine" "ends" "[J") (by decide +kernel)
  have f_f47 := hts (.fieldLink RX4 47 "TokenFloor$Machine" "graph" "LTokenFloor$Graph;") (by decide +kernel)
  have f_f96 := hts (.fieldLink RX4 96 "TokenFloor$Machine" "strays" "I") (by decide +kernel)
  have hl := lv_entry ([.ref (ad 2), .int a1, .int a2, .long a3]) (n := 6) (Nat.le_of_ble_eq_true rfl)
  rw [lg_entry_eq]
  generalize (lg_sl ([.ref (ad 2), .int a1, .int a2, .long a3]) ++ List.replicate (6 - (lg_sl ([.ref (ad 2), .int a1, .int a2, .long a3])).length) Slot.unset).toArray = ls at hl ⊢
  have hl : lv_has ls 6 [(0, .ref (ad 2)), (1, .int a1), (2, .int a2), (3, .long a3)] := hl
  have key : ∀ (H : Heap), va_P D vwCl ((wdC ad cI cJ) σ) H → va_S (AW ad 42 s.heap.size) s.heap H [] → W p l e (headSpec wsX4_goEnd rm_X4_goEnd).room s m ([.ref (ad 2), .int a1, .int a2, .long a3] : List Value).toArray below meth c H [] 0 0 (MQ below (va_Qv K (inW D (wdC ad cI cJ) [(cI, .int), (cJ, .long)]) (AW ad 42 s.heap.size)) ([.ref (ad 2), .int a1, .int a2, .long a3] : List Value).toArray s 0 0 (AW ad 42 s.heap.size)) (F0 m 0 ls []) := by
    intro H hP hS
    unfold w_X4_goEnd at hw
    refine lv_aload_n hx hb dX4_goEnd_0 rfl (lv_at hl 0 rfl) ?_
    refine gC_X4_graph F hK iw_X4 hP f_f47 dX4_goEnd_1 ?_
    refine gC_X2_number F hK iw_X2 hP f_f186 dX4_goEnd_4 ?_
    refine lv_iload_n hx hb dX4_goEnd_7 rfl (lv_at hl 1 rfl) ?_
    obtain ⟨i_7, hw⟩ := hw
    refine lC_X2_number F hK hP i_7 dX4_goEnd_8 ?_
    refine lv_istore (lv' := [(5, .int (gA σ 1 (a1).toNatClampNeg)), (0, .ref (ad 2)), (1, .int a1), (2, .int a2), (3, .long a3)]) hx hb dX4_goEnd_9 hl (by decide) rfl (fun ls hl => ?_)
    refine lv_iload_n hx hb dX4_goEnd_11 rfl (lv_at hl 3 rfl) ?_
    refine lv_if_eq (tgt := 28) hx hb dX4_goEnd_12 (by decide) (fun c_6 => ?_) (fun c_6 => ?_)
    · have hw := hw.1 c_6
      refine lv_aload_n hx hb dX4_goEnd_28 rfl (lv_at hl 1 rfl) ?_
      refine gC_X4_ends F hK iw_X4 hP f_f22 dX4_goEnd_29 ?_
      refine lv_iload hx hb dX4_goEnd_32 (lv_at hl 0 rfl) ?_
      obtain ⟨i_5, hw⟩ := hw
      refine lC_X4_ends F hK hP i_5 dX4_goEnd_34 ?_
      refine lv_lconst (v := 0) hx hb dX4_goEnd_35 (by decide) ?_
      refine W.lcmp hx hb dX4_goEnd_36 ?_
      refine lv_if_eq (tgt := 48) hx hb dX4_goEnd_37 (by decide) (fun c_4 => ?_) (fun c_4 => ?_)
      · have hw := hw.1 c_4
        refine lv_aload_n hx hb dX4_goEnd_48 rfl (lv_at hl 1 rfl) ?_
        refine gC_X4_ends F hK iw_X4 hP f_f22 dX4_goEnd_49 ?_
        refine lv_iload hx hb dX4_goEnd_52 (lv_at hl 0 rfl) ?_
        refine lv_lload_n hx hb dX4_goEnd_54 rfl (lv_at hl 4 rfl) ?_
        obtain ⟨i_1, hw⟩ := hw
        refine sC_X4_ends F hK hP hDs hS i_1 dX4_goEnd_55 (fun H locs hP hS => ?_)
        exact rtV F hr hlocks hK hw hP hS dX4_goEnd_56
      · have hw := hw.2 c_4
        refine lv_aload_n hx hb dX4_goEnd_40 rfl (lv_at hl 1 rfl) ?_
        refine lv_iload_n hx hb dX4_goEnd_41 rfl (lv_at hl 2 rfl) ?_
        refine cvV (As := [.int a1]) (rest := []) F hK hP hS (c_X4_clashAt l D ad cI cJ hap H.size _ _ _ hw) (cwV 1 hts gX4_goEnd_X4_clashAt rfl rfl rfl (by decide +kernel) ⟨Nat.le_of_ble_eq_true rfl, Nat.le_of_ble_eq_true rfl⟩) (va_recv hK hP (ci := 3) (q0 := 2) rfl rfl) rfl hl.1 rfl (Nat.le_of_ble_eq_true rfl) dX4_goEnd_42 ⟨Nat.zero_le _, Nat.zero_le _⟩ (fun u_2 H locs hw hP hS => ?_)
        refine lv_goto (tgt := 56) hx hb dX4_goEnd_45 (by decide) ?_
        exact rtV F hr hlocks hK hw hP hS dX4_goEnd_56
    · have hw := hw.2 c_6
      refine lv_aload_n hx hb dX4_goEnd_15 rfl (lv_at hl 1 rfl) ?_
      refine lv_dup hx hb dX4_goEnd_16 rfl ?_
      refine gC_X4_strays F hK iw_X4 hP f_f96 dX4_goEnd_17 ?_
      refine W.eq (g2 := F0 m 20 ls [.int (gS σ 9), .ref (ad 2)]) rfl ?_
      refine lv_iconst (v := 1) hx hb dX4_goEnd_20 (by decide) ?_
      refine lv_iadd hx hb dX4_goEnd_21 ?_
      refine pC_X4_strays F hK iw_X4 hP hDs hS f_f96 dX4_goEnd_22 (fun H locs hP hS => ?_)
      refine lv_goto (tgt := 56) hx hb dX4_goEnd_25 (by decide) ?_
      exact rtV F hr hlocks hK hw hP hS dX4_goEnd_56
  exact key s.heap hP hS

abbrev rm_X8_ofTruth : Room := { frames := 1, cells := 0, slots := 0, locals := 20 }
set_option maxHeartbeats 4000000 in
set_option maxRecDepth 100000 in
theorem c_X8_ofTruth (l : Launch) (D : va_G) (ad : Nat → Nat) (cI cJ : ClassId) (hap : apart ad 42) (sz : Nat) (σ : St) (a1 : Int32) (K : Int64 → St → Prop) (hw : w_X8_ofTruth σ a1 K) : Met l yX8_ofTruth wsX8_ofTruth rm_X8_ofTruth (va_Pc [.int a1] (fun U => U.heap.size = sz ∧ inW D (wdC ad cI cJ) [(cI, .int), (cJ, .long)] σ U)) (va_Ql K (inW D (wdC ad cI cJ) [(cI, .int), (cJ, .long)]) (AW ad 42 sz)) 0 0 (AW ad 42 sz) := by
  refine Met.ofW (cc := cX8_ofTruth) (maxL := 1) (ret := (some .long)) (by decide) rfl ?_
  intro p e s m args below meth c s₁ B hml hv
  obtain ⟨rfl, hsz, ⟨hP, hK⟩⟩ := hv
  have F : CallFix p m c cX8_ofTruth 1 s ([.int a1] : List Value).toArray wsX8_ofTruth RX8 := ⟨B.exec, B.bytes, hml, findClass_of_methodNamed B.named, atoms_spec (ws := wsX8_ofTruth) B.pre⟩
  have hx := F.1
  have hb := F.2.1
  have hown := F.2.2.2.1
  have hts := F.2.2.2.2
  have hr := B.returns
  have hlocks := B.notSynchronized
  subst hsz
  have hDs : ∀ σ, va_D (AW ad 42 s.heap.size) ((wdC ad cI cJ) σ) := fun σ => wdC_D hap σ
  have hS : va_S (AW ad 42 s.heap.size) s.heap s.heap [] := va_S.rf
  have hl := lv_entry ([.int a1]) (n := 1) (Nat.le_of_ble_eq_true rfl)
  rw [lg_entry_eq]
  generalize (lg_sl ([.int a1]) ++ List.replicate (1 - (lg_sl ([.int a1])).length) Slot.unset).toArray = ls at hl ⊢
  have hl : lv_has ls 1 [(0, .int a1)] := hl
  have key : ∀ (H : Heap), va_P D vwCl ((wdC ad cI cJ) σ) H → va_S (AW ad 42 s.heap.size) s.heap H [] → W p l e (headSpec wsX8_ofTruth rm_X8_ofTruth).room s m ([.int a1] : List Value).toArray below meth c H [] 0 0 (MQ below (va_Ql K (inW D (wdC ad cI cJ) [(cI, .int), (cJ, .long)]) (AW ad 42 s.heap.size)) ([.int a1] : List Value).toArray s 0 0 (AW ad 42 s.heap.size)) (F0 m 0 ls []) := by
    intro H hP hS
    unfold w_X8_ofTruth at hw
    refine lv_iload_n hx hb dX8_ofTruth_0 rfl (lv_at hl 0 rfl) ?_
    refine lv_if_eq (tgt := 8) hx hb dX8_ofTruth_1 (by decide) (fun c_5 => ?_) (fun c_5 => ?_)
    · have hw := hw.1 c_5
      refine lv_iconst (v := 0) hx hb dX8_ofTruth_8 (by decide) ?_
      refine csL (As := [.int 0]) (rest := []) F hK hP hS (c_X8_ofNumber l D ad cI cJ hap H.size _ _ _ hw) (va_cwS 1 hts gX8_ofTruth_X8_ofNumber rfl rfl rfl (by decide +kernel) ⟨Nat.le_of_ble_eq_true rfl, Nat.le_of_ble_eq_true rfl⟩) rfl hl.1 rfl (Nat.le_of_ble_eq_true rfl) dX8_ofTruth_9 ⟨Nat.zero_le _, Nat.zero_le _⟩ (fun r_2 u_1 H locs hw hP hS => ?_)
      exact rtL F hr hlocks hK hw hP hS dX8_ofTruth_12
    · have hw := hw.2 c_5
      refine lv_iconst (v := 1) hx hb dX8_ofTruth_4 (by decide) ?_
      refine lv_goto (tgt := 9) hx hb dX8_ofTruth_5 (by decide) ?_
      refine csL (As := [.int 1]) (rest := []) F hK hP hS (c_X8_ofNumber l D ad cI cJ hap H.size _ _ _ hw) (va_cwS 1 hts gX8_ofTruth_X8_ofNumber rfl rfl rfl (by decide +kernel) ⟨Nat.le_of_ble_eq_true rfl, Nat.le_of_ble_eq_true rfl⟩) rfl hl.1 rfl (Nat.le_of_ble_eq_true rfl) dX8_ofTruth_9 ⟨Nat.zero_le _, Nat.zero_le _⟩ (fun r_4 u_3 H locs hw hP hS => ?_)
      exact rtL F hr hlocks hK hw hP hS dX8_ofTruth_12
  exact key s.heap hP hS

abbrev rm_X7_not : Room := { frames := 2, cells := 0, slots := 0, locals := 45 }
set_option maxHeartbeats 4000000 in
set_option maxRecDepth 100000 in
theorem c_X7_not (l : Launch) (D : va_G) (ad : Nat → Nat) (cI cJ : ClassId) (hap : apart ad 42) (sz : Nat) (σ : St) (a1 : Int32) (a2 : Int64) (K : Int64 → St → Prop) (hw : w_X7_not σ a1 a2 K) : Met l yX7_not wsX7_not rm_X7_not (va_Pc [.int a1, .long a2] (fun U => U.heap.size = sz ∧ inW D (wdC ad cI cJ) [(cI, .int), (cJ, .long)] σ U)) (va_Ql K (inW D (wdC ad cI cJ) [(cI, .int), (cJ, .long)]) (AW ad 42 sz)) 0 0 (AW ad 42 sz) := by
  refine Met.ofW (cc := cX7_not) (maxL := 5) (ret := (some .long)) (by decide) rfl ?_
  intro p e s m args below meth c s₁ B hml hv
  obtain ⟨rfl, hsz, ⟨hP, hK⟩⟩ := hv
  have F : CallFix p m c cX7_not 5 s ([.int a1, .long a2] : List Value).toArray wsX7_not RX7 := ⟨B.exec, B.bytes, hml, findClass_of_methodNamed B.named, atoms_spec (ws := wsX7_not) B.pre⟩
  have hx := F.1
  have hb := F.2.1
  have hown := F.2.2.2.1
  have hts := F.2.2.2.2
  have hr := B.returns
  have hlocks := B.notSynchronized
  subst hsz
  have hDs : ∀ σ, va_D (AW ad 42 s.heap.size) ((wdC ad cI cJ) σ) := fun σ => wdC_D hap σ
  have hS : va_S (AW ad 42 s.heap.size) s.heap s.heap [] := va_S.rf
  have hl := lv_entry ([.int a1, .long a2]) (n := 5) (Nat.le_of_ble_eq_true rfl)
  rw [lg_entry_eq]
  generalize (lg_sl ([.int a1, .long a2]) ++ List.replicate (5 - (lg_sl ([.int a1, .long a2])).length) Slot.unset).toArray = ls at hl ⊢
  have hl : lv_has ls 5 [(0, .int a1), (1, .long a2)] := hl
  have key : ∀ (H : Heap), va_P D vwCl ((wdC ad cI cJ) σ) H → va_S (AW ad 42 s.heap.size) s.heap H [] → W p l e (headSpec wsX7_not rm_X7_not).room s m ([.int a1, .long a2] : List Value).toArray below meth c H [] 0 0 (MQ below (va_Ql K (inW D (wdC ad cI cJ) [(cI, .int), (cJ, .long)]) (AW ad 42 s.heap.size)) ([.int a1, .long a2] : List Value).toArray s 0 0 (AW ad 42 s.heap.size)) (F0 m 0 ls []) := by
    intro H hP hS
    unfold w_X7_not at hw
    refine lv_iload_n hx hb dX7_not_0 rfl (lv_at hl 0 rfl) ?_
    refine lv_lload_n hx hb dX7_not_1 rfl (lv_at hl 1 rfl) ?_
    refine lv_iconst (v := 1) hx hb dX7_not_2 (by decide) ?_
    refine csL (As := [.int a1, .long a2, .int 1]) (rest := []) F hK hP hS (c_X8_refuse l D ad cI cJ hap H.size _ _ _ _ _ hw) (va_cwS 3 hts gX7_not_X8_refuse rfl rfl rfl (by decide +kernel) ⟨Nat.le_of_ble_eq_true rfl, Nat.le_of_ble_eq_true rfl⟩) rfl hl.1 rfl (Nat.le_of_ble_eq_true rfl) dX7_not_3 ⟨Nat.zero_le _, Nat.zero_le _⟩ (fun r_2 u_1 H locs hw hP hS => ?_)
    refine lv_lstore_n (lv' := [(3, .long r_2), (0, .int a1), (1, .long a2)]) hx hb dX7_not_6 rfl hl (by decide) rfl (fun ls hl => ?_)
    refine lv_lload_n hx hb dX7_not_7 rfl (lv_at hl 0 rfl) ?_
    refine lv_lconst (v := 0) hx hb dX7_not_8 (by decide) ?_
    refine W.lcmp hx hb dX7_not_9 ?_
    refine lv_if_eq (tgt := 17) hx hb dX7_not_10 (by decide) (fun c_10 => ?_) (fun c_10 => ?_)
    · have hw := hw.1 c_10
      refine lv_lload_n hx hb dX7_not_17 rfl (lv_at hl 2 rfl) ?_
      refine csI (As := [.long a2]) (rest := []) F hK hP hS (c_X8_contentOf l D ad cI cJ hap H.size _ _ _ hw) (va_cwS 1 hts gX7_not_X8_contentOf rfl rfl rfl (by decide +kernel) ⟨Nat.le_of_ble_eq_true rfl, Nat.le_of_ble_eq_true rfl⟩) rfl hl.1 rfl (Nat.le_of_ble_eq_true rfl) dX7_not_18 ⟨Nat.zero_le _, Nat.zero_le _⟩ (fun r_4 u_3 H locs hw hP hS => ?_)
      refine lv_if_ne (tgt := 28) hx hb dX7_not_21 (by decide) (fun c_9 => ?_) (fun c_9 => ?_)
      · have hw := hw.1 c_9
        refine lv_iconst (v := 0) hx hb dX7_not_28 (by decide) ?_
        refine csL (As := [.int 0]) (rest := []) F hK hP hS (c_X8_ofTruth l D ad cI cJ hap H.size _ _ _ hw) (va_cwS 1 hts gX7_not_X8_ofTruth rfl rfl rfl (by decide +kernel) ⟨Nat.le_of_ble_eq_true rfl, Nat.le_of_ble_eq_true rfl⟩) rfl hl.1 rfl (Nat.le_of_ble_eq_true rfl) dX7_not_29 ⟨Nat.zero_le _, Nat.zero_le _⟩ (fun r_6 u_5 H locs hw hP hS => ?_)
        exact rtL F hr hlocks hK hw hP hS dX7_not_32
      · have hw := hw.2 c_9
        refine lv_iconst (v := 1) hx hb dX7_not_24 (by decide) ?_
        refine lv_goto (tgt := 29) hx hb dX7_not_25 (by decide) ?_
        refine csL (As := [.int 1]) (rest := []) F hK hP hS (c_X8_ofTruth l D ad cI cJ hap H.size _ _ _ hw) (va_cwS 1 hts gX7_not_X8_ofTruth rfl rfl rfl (by decide +kernel) ⟨Nat.le_of_ble_eq_true rfl, Nat.le_of_ble_eq_true rfl⟩) rfl hl.1 rfl (Nat.le_of_ble_eq_true rfl) dX7_not_29 ⟨Nat.zero_le _, Nat.zero_le _⟩ (fun r_8 u_7 H locs hw hP hS => ?_)
        exact rtL F hr hlocks hK hw hP hS dX7_not_32
    · have hw := hw.2 c_10
      refine lv_lload_n hx hb dX7_not_13 rfl (lv_at hl 0 rfl) ?_
      refine lv_goto (tgt := 32) hx hb dX7_not_14 (by decide) ?_
      exact rtL F hr hlocks hK hw hP hS dX7_not_32
  exact key s.heap hP hS

abbrev rm_X7_ofTwo : Room := { frames := 2, cells := 0, slots := 0, locals := 48 }
set_option maxHeartbeats 4000000 in
set_option maxRecDepth 100000 in
theorem c_X7_ofTwo (l : Launch) (D : va_G) (ad : Nat → Nat) (cI cJ : ClassId) (hap : apart ad 42) (sz : Nat) (σ : St) (a1 : Int32) (a2 : Int32) (a3 : Int64) (a4 : Int64) (K : Int64 → St → Prop) (hw : w_X7_ofTwo σ a1 a2 a3 a4 K) : Met l yX7_ofTwo wsX7_ofTwo rm_X7_ofTwo (va_Pc [.int a1, .int a2, .long a3, .long a4] (fun U => U.heap.size = sz ∧ inW D (wdC ad cI cJ) [(cI, .int), (cJ, .long)] σ U)) (va_Ql K (inW D (wdC ad cI cJ) [(cI, .int), (cJ, .long)]) (AW ad 42 sz)) 0 0 (AW ad 42 sz) := by
  refine Met.ofW (cc := cX7_ofTwo) (maxL := 11) (ret := (some .long)) (by decide) rfl ?_
  intro p e s m args below meth c s₁ B hml hv
  obtain ⟨rfl, hsz, ⟨hP, hK⟩⟩ := hv
  have F : CallFix p m c cX7_ofTwo 11 s ([.int a1, .int a2, .long a3, .long a4] : List Value).toArray wsX7_ofTwo RX7 := ⟨B.exec, B.bytes, hml, findClass_of_methodNamed B.named, atoms_spec (ws := wsX7_ofTwo) B.pre⟩
  have hx := F.1
  have hb := F.2.1
  have hown := F.2.2.2.1
  have hts := F.2.2.2.2
  have hr := B.returns
  have hlocks := B.notSynchronized
  subst hsz
  have hDs : ∀ σ, va_D (AW ad 42 s.heap.size) ((wdC ad cI cJ) σ) := fun σ => wdC_D hap σ
  have hS : va_S (AW ad 42 s.heap.size) s.heap s.heap [] := va_S.rf
  have lab_14 : ∀ (σ : St) (x0 : Int32) (x1 : Int32) (x2 : Int64) (x4 : Int64) (t0 : Int32) (H : Heap) (locs : List Loc) (ls : Array Slot), b_X7_ofTwo_14 K σ x0 x1 x2 x4 t0 → va_P D vwCl ((wdC ad cI cJ) σ) H → va_S (AW ad 42 s.heap.size) s.heap H locs → lv_has ls 11 [(0, .int x0), (1, .int x1), (2, .long x2), (4, .long x4)] → W p l e (headSpec wsX7_ofTwo rm_X7_ofTwo).room s m ([.int a1, .int a2, .long a3, .long a4] : List Value).toArray below meth c H locs 0 0 (MQ below (va_Ql K (inW D (wdC ad cI cJ) [(cI, .int), (cJ, .long)]) (AW ad 42 s.heap.size)) ([.int a1, .int a2, .long a3, .long a4] : List Value).toArray s 0 0 (AW ad 42 s.heap.size)) (F0 m 14 ls [.int t0]) := by
    intro σ x0 x1 x2 x4 t0 H locs ls hw hP hS hl
    unfold b_X7_ofTwo_14 at hw
    refine lv_istore (lv' := [(6, .int t0), (0, .int x0), (1, .int x1), (2, .long x2), (4, .long x4)]) hx hb dX7_ofTwo_14 hl (by decide) rfl (fun ls hl => ?_)
    refine lv_iload_n hx hb dX7_ofTwo_16 rfl (lv_at hl 2 rfl) ?_
    refine lv_lload_n hx hb dX7_ofTwo_17 rfl (lv_at hl 3 rfl) ?_
    refine lv_iload hx hb dX7_ofTwo_18 (lv_at hl 0 rfl) ?_
    refine lv_lload hx hb dX7_ofTwo_20 (lv_at hl 4 rfl) ?_
    refine lv_iload hx hb dX7_ofTwo_22 (lv_at hl 0 rfl) ?_
    refine csL (As := [.int x1, .long x2, .int t0, .long x4, .int t0]) (rest := []) F hK hP hS (c_X8_refuseTwo l D ad cI cJ hap H.size _ _ _ _ _ _ _ hw) (va_cwS 5 hts gX7_ofTwo_X8_refuseTwo rfl rfl rfl (by decide +kernel) ⟨Nat.le_of_ble_eq_true rfl, Nat.le_of_ble_eq_true rfl⟩) rfl hl.1 rfl (Nat.le_of_ble_eq_true rfl) dX7_ofTwo_24 ⟨Nat.zero_le _, Nat.zero_le _⟩ (fun r_2 u_1 H locs hw hP hS => ?_)
    refine lv_lstore (lv' := [(7, .long r_2), (6, .int t0), (0, .int x0), (1, .int x1), (2, .long x2), (4, .long x4)]) hx hb dX7_ofTwo_27 hl (by decide) rfl (fun ls hl => ?_)
    refine lv_lload hx hb dX7_ofTwo_29 (lv_at hl 0 rfl) ?_
    refine lv_lconst (v := 0) hx hb dX7_ofTwo_31 (by decide) ?_
    refine W.lcmp hx hb dX7_ofTwo_32 ?_
    refine lv_if_eq (tgt := 39) hx hb dX7_ofTwo_33 (by decide) (fun c_54 => ?_) (fun c_54 => ?_)
    · have hw := hw.1 c_54
      refine lv_lload_n hx hb dX7_ofTwo_39 rfl (lv_at hl 4 rfl) ?_
      refine csI (As := [.long x2]) (rest := []) F hK hP hS (c_X8_contentOf l D ad cI cJ hap H.size _ _ _ hw) (va_cwS 1 hts gX7_ofTwo_X8_contentOf rfl rfl rfl (by decide +kernel) ⟨Nat.le_of_ble_eq_true rfl, Nat.le_of_ble_eq_true rfl⟩) rfl hl.1 rfl (Nat.le_of_ble_eq_true rfl) dX7_ofTwo_40 ⟨Nat.zero_le _, Nat.zero_le _⟩ (fun r_4 u_3 H locs hw hP hS => ?_)
      refine lv_istore (lv' := [(9, .int r_4), (7, .long r_2), (6, .int t0), (0, .int x0), (1, .int x1), (2, .long x2), (4, .long x4)]) hx hb dX7_ofTwo_43 hl (by decide) rfl (fun ls hl => ?_)
      refine lv_lload hx hb dX7_ofTwo_45 (lv_at hl 6 rfl) ?_
      refine csI (As := [.long x4]) (rest := []) F hK hP hS (c_X8_contentOf l D ad cI cJ hap H.size _ _ _ hw) (va_cwS 1 hts gX7_ofTwo_X8_contentOf rfl rfl rfl (by decide +kernel) ⟨Nat.le_of_ble_eq_true rfl, Nat.le_of_ble_eq_true rfl⟩) rfl hl.1 rfl (Nat.le_of_ble_eq_true rfl) dX7_ofTwo_47 ⟨Nat.zero_le _, Nat.zero_le _⟩ (fun r_6 u_5 H locs hw hP hS => ?_)
      refine lv_istore (lv' := [(10, .int r_6), (9, .int r_4), (7, .long r_2), (6, .int t0), (0, .int x0), (1, .int x1), (2, .long x2), (4, .long x4)]) hx hb dX7_ofTwo_50 hl (by decide) rfl (fun ls hl => ?_)
      refine lv_iload_n hx hb dX7_ofTwo_52 rfl (lv_at hl 4 rfl) ?_
      by_cases k_7 : x0 = 2
      · have hw := hw.1 k_7
        refine sw_in 2 (tgt := 92) F dX7_ofTwo_53 k_7 (by decide) (by decide) rfl (by decide) ?_
        refine lv_iload hx hb dX7_ofTwo_92 (lv_at hl 1 rfl) ?_
        refine lv_iload hx hb dX7_ofTwo_94 (lv_at hl 0 rfl) ?_
        refine lv_iadd hx hb dX7_ofTwo_96 ?_
        refine csL (As := [.int (r_4 + r_6)]) (rest := []) F hK hP hS (c_X8_ofNumber l D ad cI cJ hap H.size _ _ _ hw) (va_cwS 1 hts gX7_ofTwo_X8_ofNumber rfl rfl rfl (by decide +kernel) ⟨Nat.le_of_ble_eq_true rfl, Nat.le_of_ble_eq_true rfl⟩) rfl hl.1 rfl (Nat.le_of_ble_eq_true rfl) dX7_ofTwo_97 ⟨Nat.zero_le _, Nat.zero_le _⟩ (fun r_9 u_8 H locs hw hP hS => ?_)
        exact rtL F hr hlocks hK hw hP hS dX7_ofTwo_100
      · have hw := hw.2 k_7
        by_cases k_10 : x0 = 3
        · have hw := hw.1 k_10
          refine sw_in 3 (tgt := 101) F dX7_ofTwo_53 k_10 (by decide) (by decide) rfl (by decide) ?_
          refine lv_iload hx hb dX7_ofTwo_101 (lv_at hl 1 rfl) ?_
          refine lv_iload hx hb dX7_ofTwo_103 (lv_at hl 0 rfl) ?_
          refine lv_isub hx hb dX7_ofTwo_105 ?_
          refine csL (As := [.int (r_4 - r_6)]) (rest := []) F hK hP hS (c_X8_ofNumber l D ad cI cJ hap H.size _ _ _ hw) (va_cwS 1 hts gX7_ofTwo_X8_ofNumber rfl rfl rfl (by decide +kernel) ⟨Nat.le_of_ble_eq_true rfl, Nat.le_of_ble_eq_true rfl⟩) rfl hl.1 rfl (Nat.le_of_ble_eq_true rfl) dX7_ofTwo_106 ⟨Nat.zero_le _, Nat.zero_le _⟩ (fun r_12 u_11 H locs hw hP hS => ?_)
          exact rtL F hr hlocks hK hw hP hS dX7_ofTwo_109
        · have hw := hw.2 k_10
          by_cases k_13 : x0 = 4
          · have hw := hw.1 k_13
            refine sw_in 4 (tgt := 110) F dX7_ofTwo_53 k_13 (by decide) (by decide) rfl (by decide) ?_
            refine lv_iload hx hb dX7_ofTwo_110 (lv_at hl 1 rfl) ?_
            refine lv_iload hx hb dX7_ofTwo_112 (lv_at hl 0 rfl) ?_
            refine lv_imul hx hb dX7_ofTwo_114 ?_
            refine csL (As := [.int (r_4 * r_6)]) (rest := []) F hK hP hS (c_X8_ofNumber l D ad cI cJ hap H.size _ _ _ hw) (va_cwS 1 hts gX7_ofTwo_X8_ofNumber rfl rfl rfl (by decide +kernel) ⟨Nat.le_of_ble_eq_true rfl, Nat.le_of_ble_eq_true rfl⟩) rfl hl.1 rfl (Nat.le_of_ble_eq_true rfl) dX7_ofTwo_115 ⟨Nat.zero_le _, Nat.zero_le _⟩ (fun r_15 u_14 H locs hw hP hS => ?_)
            exact rtL F hr hlocks hK hw hP hS dX7_ofTwo_118
          · have hw := hw.2 k_13
            by_cases k_16 : x0 = 5
            · have hw := hw.1 k_16
              refine sw_in 5 (tgt := 119) F dX7_ofTwo_53 k_16 (by decide) (by decide) rfl (by decide) ?_
              refine lv_iload hx hb dX7_ofTwo_119 (lv_at hl 0 rfl) ?_
              refine lv_if_ne (tgt := 132) hx hb dX7_ofTwo_121 (by decide) (fun c_22 => ?_) (fun c_22 => ?_)
              · have hw := hw.1 c_22
                refine lv_iload hx hb dX7_ofTwo_132 (lv_at hl 1 rfl) ?_
                refine lv_iload hx hb dX7_ofTwo_134 (lv_at hl 0 rfl) ?_
                obtain ⟨h_19, hw⟩ := hw
                refine lv_idiv hx hb dX7_ofTwo_136 h_19 ?_
                refine csL (As := [.int (r_4 / r_6)]) (rest := []) F hK hP hS (c_X8_ofNumber l D ad cI cJ hap H.size _ _ _ hw) (va_cwS 1 hts gX7_ofTwo_X8_ofNumber rfl rfl rfl (by decide +kernel) ⟨Nat.le_of_ble_eq_true rfl, Nat.le_of_ble_eq_true rfl⟩) rfl hl.1 rfl (Nat.le_of_ble_eq_true rfl) dX7_ofTwo_137 ⟨Nat.zero_le _, Nat.zero_le _⟩ (fun r_18 u_17 H locs hw hP hS => ?_)
                exact rtL F hr hlocks hK hw hP hS dX7_ofTwo_140
              · have hw := hw.2 c_22
                refine lv_iconst (v := 1) hx hb dX7_ofTwo_124 (by decide) ?_
                refine lv_iload_n hx hb dX7_ofTwo_125 rfl (lv_at hl 5 rfl) ?_
                refine csL (As := [.int 1, .int x1]) (rest := []) F hK hP hS (c_X8_ofFault l D ad cI cJ hap H.size _ _ _ _ hw) (va_cwS 2 hts gX7_ofTwo_X8_ofFault rfl rfl rfl (by decide +kernel) ⟨Nat.le_of_ble_eq_true rfl, Nat.le_of_ble_eq_true rfl⟩) rfl hl.1 rfl (Nat.le_of_ble_eq_true rfl) dX7_ofTwo_126 ⟨Nat.zero_le _, Nat.zero_le _⟩ (fun r_21 u_20 H locs hw hP hS => ?_)
                refine lv_goto (tgt := 140) hx hb dX7_ofTwo_129 (by decide) ?_
                exact rtL F hr hlocks hK hw hP hS dX7_ofTwo_140
            · have hw := hw.2 k_16
              by_cases k_23 : x0 = 6
              · have hw := hw.1 k_23
                refine sw_in 6 (tgt := 141) F dX7_ofTwo_53 k_23 (by decide) (by decide) rfl (by decide) ?_
                refine lv_iload hx hb dX7_ofTwo_141 (lv_at hl 0 rfl) ?_
                refine lv_if_ne (tgt := 154) hx hb dX7_ofTwo_143 (by decide) (fun c_29 => ?_) (fun c_29 => ?_)
                · have hw := hw.1 c_29
                  refine lv_iload hx hb dX7_ofTwo_154 (lv_at hl 1 rfl) ?_
                  refine lv_iload hx hb dX7_ofTwo_156 (lv_at hl 0 rfl) ?_
                  obtain ⟨h_26, hw⟩ := hw
                  refine lv_irem hx hb dX7_ofTwo_158 h_26 ?_
                  refine csL (As := [.int (r_4 - r_4 / r_6 * r_6)]) (rest := []) F hK hP hS (c_X8_ofNumber l D ad cI cJ hap H.size _ _ _ hw) (va_cwS 1 hts gX7_ofTwo_X8_ofNumber rfl rfl rfl (by decide +kernel) ⟨Nat.le_of_ble_eq_true rfl, Nat.le_of_ble_eq_true rfl⟩) rfl hl.1 rfl (Nat.le_of_ble_eq_true rfl) dX7_ofTwo_159 ⟨Nat.zero_le _, Nat.zero_le _⟩ (fun r_25 u_24 H locs hw hP hS => ?_)
                  exact rtL F hr hlocks hK hw hP hS dX7_ofTwo_162
                · have hw := hw.2 c_29
                  refine lv_iconst (v := 1) hx hb dX7_ofTwo_146 (by decide) ?_
                  refine lv_iload_n hx hb dX7_ofTwo_147 rfl (lv_at hl 5 rfl) ?_
                  refine csL (As := [.int 1, .int x1]) (rest := []) F hK hP hS (c_X8_ofFault l D ad cI cJ hap H.size _ _ _ _ hw) (va_cwS 2 hts gX7_ofTwo_X8_ofFault rfl rfl rfl (by decide +kernel) ⟨Nat.le_of_ble_eq_true rfl, Nat.le_of_ble_eq_true rfl⟩) rfl hl.1 rfl (Nat.le_of_ble_eq_true rfl) dX7_ofTwo_148 ⟨Nat.zero_le _, Nat.zero_le _⟩ (fun r_28 u_27 H locs hw hP hS => ?_)
                  refine lv_goto (tgt := 162) hx hb dX7_ofTwo_151 (by decide) ?_
                  exact rtL F hr hlocks hK hw hP hS dX7_ofTwo_162
              · have hw := hw.2 k_23
                by_cases k_30 : x0 = 7
                · have hw := hw.1 k_30
                  refine sw_in 7 (tgt := 163) F dX7_ofTwo_53 k_30 (by decide) (by decide) rfl (by decide) ?_
                  refine lv_iload hx hb dX7_ofTwo_163 (lv_at hl 1 rfl) ?_
                  refine lv_iload hx hb dX7_ofTwo_165 (lv_at hl 0 rfl) ?_
                  refine lv_icmp_ge (tgt := 174) hx hb dX7_ofTwo_167 (by decide) (fun c_35 => ?_) (fun c_35 => ?_)
                  · have hw := hw.1 c_35
                    refine lv_iconst (v := 0) hx hb dX7_ofTwo_174 (by decide) ?_
                    refine csL (As := [.int 0]) (rest := []) F hK hP hS (c_X8_ofTruth l D ad cI cJ hap H.size _ _ _ hw) (va_cwS 1 hts gX7_ofTwo_X8_ofTruth rfl rfl rfl (by decide +kernel) ⟨Nat.le_of_ble_eq_true rfl, Nat.le_of_ble_eq_true rfl⟩) rfl hl.1 rfl (Nat.le_of_ble_eq_true rfl) dX7_ofTwo_175 ⟨Nat.zero_le _, Nat.zero_le _⟩ (fun r_32 u_31 H locs hw hP hS => ?_)
                    exact rtL F hr hlocks hK hw hP hS dX7_ofTwo_178
                  · have hw := hw.2 c_35
                    refine lv_iconst (v := 1) hx hb dX7_ofTwo_170 (by decide) ?_
                    refine lv_goto (tgt := 175) hx hb dX7_ofTwo_171 (by decide) ?_
                    refine csL (As := [.int 1]) (rest := []) F hK hP hS (c_X8_ofTruth l D ad cI cJ hap H.size _ _ _ hw) (va_cwS 1 hts gX7_ofTwo_X8_ofTruth rfl rfl rfl (by decide +kernel) ⟨Nat.le_of_ble_eq_true rfl, Nat.le_of_ble_eq_true rfl⟩) rfl hl.1 rfl (Nat.le_of_ble_eq_true rfl) dX7_ofTwo_175 ⟨Nat.zero_le _, Nat.zero_le _⟩ (fun r_34 u_33 H locs hw hP hS => ?_)
                    exact rtL F hr hlocks hK hw hP hS dX7_ofTwo_178
                · have hw := hw.2 k_30
                  have z_41 : ¬ x0.toInt = 2 := lv_neT (fun z => k_7 z) (k := 2) (by decide)
                  have z_42 : ¬ x0.toInt = 3 := lv_neT (fun z => k_10 z) (k := 3) (by decide)
                  have z_43 : ¬ x0.toInt = 4 := lv_neT (fun z => k_13 z) (k := 4) (by decide)
                  have z_44 : ¬ x0.toInt = 5 := lv_neT (fun z => k_16 z) (k := 5) (by decide)
                  have z_45 : ¬ x0.toInt = 6 := lv_neT (fun z => k_23 z) (k := 6) (by decide)
                  have z_46 : ¬ x0.toInt = 7 := lv_neT (fun z => k_30 z) (k := 7) (by decide)
                  have kd : W p l e (headSpec wsX7_ofTwo rm_X7_ofTwo).room s m ([.int a1, .int a2, .long a3, .long a4] : List Value).toArray below meth c H locs 0 0 (MQ below (va_Ql K (inW D (wdC ad cI cJ) [(cI, .int), (cJ, .long)]) (AW ad 42 s.heap.size)) ([.int a1, .int a2, .long a3, .long a4] : List Value).toArray s 0 0 (AW ad 42 s.heap.size)) (F0 m 179 ls []) := by
                    refine lv_iload hx hb dX7_ofTwo_179 (lv_at hl 1 rfl) ?_
                    refine lv_iload hx hb dX7_ofTwo_181 (lv_at hl 0 rfl) ?_
                    refine lv_icmp_ne (tgt := 190) hx hb dX7_ofTwo_183 (by decide) (fun c_40 => ?_) (fun c_40 => ?_)
                    · have hw := hw.1 c_40
                      refine lv_iconst (v := 0) hx hb dX7_ofTwo_190 (by decide) ?_
                      refine csL (As := [.int 0]) (rest := []) F hK hP hS (c_X8_ofTruth l D ad cI cJ hap H.size _ _ _ hw) (va_cwS 1 hts gX7_ofTwo_X8_ofTruth rfl rfl rfl (by decide +kernel) ⟨Nat.le_of_ble_eq_true rfl, Nat.le_of_ble_eq_true rfl⟩) rfl hl.1 rfl (Nat.le_of_ble_eq_true rfl) dX7_ofTwo_191 ⟨Nat.zero_le _, Nat.zero_le _⟩ (fun r_37 u_36 H locs hw hP hS => ?_)
                      exact rtL F hr hlocks hK hw hP hS dX7_ofTwo_194
                    · have hw := hw.2 c_40
                      refine lv_iconst (v := 1) hx hb dX7_ofTwo_186 (by decide) ?_
                      refine lv_goto (tgt := 191) hx hb dX7_ofTwo_187 (by decide) ?_
                      refine csL (As := [.int 1]) (rest := []) F hK hP hS (c_X8_ofTruth l D ad cI cJ hap H.size _ _ _ hw) (va_cwS 1 hts gX7_ofTwo_X8_ofTruth rfl rfl rfl (by decide +kernel) ⟨Nat.le_of_ble_eq_true rfl, Nat.le_of_ble_eq_true rfl⟩) rfl hl.1 rfl (Nat.le_of_ble_eq_true rfl) dX7_ofTwo_191 ⟨Nat.zero_le _, Nat.zero_le _⟩ (fun r_39 u_38 H locs hw hP hS => ?_)
                      exact rtL F hr hlocks hK hw hP hS dX7_ofTwo_194
                  rcases (show (x0.toInt < 2 ∨ 7 < x0.toInt) by omega) with o_47
                  · exact lv_tableOut hx hb dX7_ofTwo_53 o_47 (by decide) kd
    · have hw := hw.2 c_54
      refine lv_lload hx hb dX7_ofTwo_36 (lv_at hl 0 rfl) ?_
      exact rtL F hr hlocks hK hw hP hS dX7_ofTwo_38
  have hl := lv_entry ([.int a1, .int a2, .long a3, .long a4]) (n := 11) (Nat.le_of_ble_eq_true rfl)
  rw [lg_entry_eq]
  generalize (lg_sl ([.int a1, .int a2, .long a3, .long a4]) ++ List.replicate (11 - (lg_sl ([.int a1, .int a2, .long a3, .long a4])).length) Slot.unset).toArray = ls at hl ⊢
  have hl : lv_has ls 11 [(0, .int a1), (1, .int a2), (2, .long a3), (4, .long a4)] := hl
  have key : ∀ (H : Heap), va_P D vwCl ((wdC ad cI cJ) σ) H → va_S (AW ad 42 s.heap.size) s.heap H [] → W p l e (headSpec wsX7_ofTwo rm_X7_ofTwo).room s m ([.int a1, .int a2, .long a3, .long a4] : List Value).toArray below meth c H [] 0 0 (MQ below (va_Ql K (inW D (wdC ad cI cJ) [(cI, .int), (cJ, .long)]) (AW ad 42 s.heap.size)) ([.int a1, .int a2, .long a3, .long a4] : List Value).toArray s 0 0 (AW ad 42 s.heap.size)) (F0 m 0 ls []) := by
    intro H hP hS
    unfold w_X7_ofTwo at hw
    refine lv_iload_n hx hb dX7_ofTwo_0 rfl (lv_at hl 0 rfl) ?_
    refine lv_bipush (v := 8) hx hb dX7_ofTwo_1 (by decide) ?_
    refine lv_icmp_ne (tgt := 13) hx hb dX7_ofTwo_3 (by decide) (fun c_57 => ?_) (fun c_57 => ?_)
    · have hw := hw.1 c_57
      refine lv_iconst (v := 1) hx hb dX7_ofTwo_13 (by decide) ?_
      exact lab_14 _ _ _ _ _ _ _ _ _ hw hP hS (lv_sub hl [0, 1, 2, 3] rfl)
    · have hw := hw.2 c_57
      refine lv_lload_n hx hb dX7_ofTwo_6 rfl (lv_at hl 2 rfl) ?_
      refine csI (As := [.long a3]) (rest := []) F hK hP hS (c_X8_sortOf l D ad cI cJ hap H.size _ _ _ hw) (va_cwS 1 hts gX7_ofTwo_X8_sortOf rfl rfl rfl (by decide +kernel) ⟨Nat.le_of_ble_eq_true rfl, Nat.le_of_ble_eq_true rfl⟩) rfl hl.1 rfl (Nat.le_of_ble_eq_true rfl) dX7_ofTwo_7 ⟨Nat.zero_le _, Nat.zero_le _⟩ (fun r_56 u_55 H locs hw hP hS => ?_)
      refine lv_goto (tgt := 14) hx hb dX7_ofTwo_10 (by decide) ?_
      exact lab_14 _ _ _ _ _ _ _ _ _ hw hP hS (lv_sub hl [0, 1, 2, 3] rfl)
  exact key s.heap hP hS

abbrev rm_X4_plainResult : Room := { frames := 3, cells := 0, slots := 0, locals := 78 }
set_option maxHeartbeats 4000000 in
set_option maxRecDepth 100000 in
theorem c_X4_plainResult (l : Launch) (D : va_G) (ad : Nat → Nat) (cI cJ : ClassId) (hap : apart ad 42) (sz : Nat) (σ : St) (a1 : Int32) (a2 : Int32) (a3 : Int64) (K : Int64 → St → Prop) (hw : w_X4_plainResult σ a1 a2 a3 K) : Met l yX4_plainResult wsX4_plainResult rm_X4_plainResult (va_Pc [.ref (ad 2), .int a1, .int a2, .long a3] (fun U => U.heap.size = sz ∧ inW D (wdC ad cI cJ) [(cI, .int), (cJ, .long)] σ U)) (va_Ql K (inW D (wdC ad cI cJ) [(cI, .int), (cJ, .long)]) (AW ad 42 sz)) 0 0 (AW ad 42 sz) := by
  refine Met.ofW (cc := cX4_plainResult) (maxL := 9) (ret := (some .long)) (by decide) rfl ?_
  intro p e s m args below meth c s₁ B hml hv
  obtain ⟨rfl, hsz, ⟨hP, hK⟩⟩ := hv
  have F : CallFix p m c cX4_plainResult 9 s ([.ref (ad 2), .int a1, .int a2, .long a3] : List Value).toArray wsX4_plainResult RX4 := ⟨B.exec, B.bytes, hml, findClass_of_methodNamed B.named, atoms_spec (ws := wsX4_plainResult) B.pre⟩
  have hx := F.1
  have hb := F.2.1
  have hown := F.2.2.2.1
  have hts := F.2.2.2.2
  have hr := B.returns
  have hlocks := B.notSynchronized
  subst hsz
  have hDs : ∀ σ, va_D (AW ad 42 s.heap.size) ((wdC ad cI cJ) σ) := fun σ => wdC_D hap σ
  have hS : va_S (AW ad 42 s.heap.size) s.heap s.heap [] := va_S.rf
  have iw_X2 : ∀ w ∈ u_ws RX2 TX2 15, w ∈ wsX4_plainResult := by decide +kernel
  have iw_X4 : ∀ w ∈ u_ws RX4 TX4 14, w ∈ wsX4_plainResult := by decide +kernel
  have f_f12 := hts (.fieldLink RX4 12 "TokenFloor$Machine" "store" "LTokenFloor$Store;") (by decide +kernel)
  have f_f179 := hts (.fieldLink RX4 179 "TokenFloor$Graph" "kind" "[I") (by decide +kernel)
  have f_f186 := hts (.fieldLink RX4 186 "TokenFloor$Graph" "number" "[I") (by decide +kernel)
  have f_f36 := hts (.fieldLink RX4 36 "TokenFloor$Machine" "floor" "LTokenFloor$Floor;") (by decide +kernel)
  have f_f47 := hts (.fieldLink RX4 47 "TokenFloor$Machine" "graph" "LTokenFloor$Graph;") (by decide +kernel)
  have hl := lv_entry ([.ref (ad 2), .int a1, .int a2, .long a3]) (n := 9) (Nat.le_of_ble_eq_true rfl)
  rw [lg_entry_eq]
  generalize (lg_sl ([.ref (ad 2), .int a1, .int a2, .long a3]) ++ List.replicate (9 - (lg_sl ([.ref (ad 2), .int a1, .int a2, .long a3])).length) Slot.unset).toArray = ls at hl ⊢
  have hl : lv_has ls 9 [(0, .ref (ad 2)), (1, .int a1), (2, .int a2), (3, .long a3)] := hl
  have key : ∀ (H : Heap), va_P D vwCl ((wdC ad cI cJ) σ) H → va_S (AW ad 42 s.heap.size) s.heap H [] → W p l e (headSpec wsX4_plainResult rm_X4_plainResult).room s m ([.ref (ad 2), .int a1, .int a2, .long a3] : List Value).toArray below meth c H [] 0 0 (MQ below (va_Ql K (inW D (wdC ad cI cJ) [(cI, .int), (cJ, .long)]) (AW ad 42 s.heap.size)) ([.ref (ad 2), .int a1, .int a2, .long a3] : List Value).toArray s 0 0 (AW ad 42 s.heap.size)) (F0 m 0 ls []) := by
    intro H hP hS
    unfold w_X4_plainResult at hw
    refine lv_aload_n hx hb dX4_plainResult_0 rfl (lv_at hl 0 rfl) ?_
    refine gC_X4_graph F hK iw_X4 hP f_f47 dX4_plainResult_1 ?_
    refine gC_X2_kind F hK iw_X2 hP f_f179 dX4_plainResult_4 ?_
    refine lv_iload_n hx hb dX4_plainResult_7 rfl (lv_at hl 2 rfl) ?_
    obtain ⟨i_27, hw⟩ := hw
    refine lC_X2_kind F hK hP i_27 dX4_plainResult_8 ?_
    refine lv_istore (lv' := [(5, .int (gA σ 0 (a2).toNatClampNeg)), (0, .ref (ad 2)), (1, .int a1), (2, .int a2), (3, .long a3)]) hx hb dX4_plainResult_9 hl (by decide) rfl (fun ls hl => ?_)
    refine lv_iload hx hb dX4_plainResult_11 (lv_at hl 0 rfl) ?_
    by_cases k_1 : (gA σ 0 (a2).toNatClampNeg) = 0 ∨ (gA σ 0 (a2).toNatClampNeg) = 15
    · have hw := hw.1 k_1
      have kd : W p l e (headSpec wsX4_plainResult rm_X4_plainResult).room s m ([.ref (ad 2), .int a1, .int a2, .long a3] : List Value).toArray below meth c H locs 0 0 (MQ below (va_Ql K (inW D (wdC ad cI cJ) [(cI, .int), (cJ, .long)]) (AW ad 42 s.heap.size)) ([.ref (ad 2), .int a1, .int a2, .long a3] : List Value).toArray s 0 0 (AW ad 42 s.heap.size)) (F0 m 64 ls []) := by
        refine lv_lload_n hx hb dX4_plainResult_64 rfl (lv_at hl 4 rfl) ?_
        exact rtL F hr hlocks hK hw hP hS dX4_plainResult_65
      rcases k_1 with k_26 | k_26
      · exact lv_lookup (tgt := 64) (off := 51) hx hb dX4_plainResult_13 (by decide) (by rw [k_26]; decide) (by decide) kd
      · exact lv_lookup (tgt := 64) (off := 51) hx hb dX4_plainResult_13 (by decide) (by rw [k_26]; decide) (by decide) kd
    · have hw := hw.2 k_1
      by_cases k_2 : (gA σ 0 (a2).toNatClampNeg) = 1
      · have hw := hw.1 k_2
        refine lv_lookup (tgt := 66) (off := 53) hx hb dX4_plainResult_13 (by decide) (by rw [k_2]; decide) (by decide) ?_
        refine lv_aload_n hx hb dX4_plainResult_66 rfl (lv_at hl 1 rfl) ?_
        refine gC_X4_graph F hK iw_X4 hP f_f47 dX4_plainResult_67 ?_
        refine gC_X2_number F hK iw_X2 hP f_f186 dX4_plainResult_70 ?_
        refine lv_iload_n hx hb dX4_plainResult_73 rfl (lv_at hl 3 rfl) ?_
        obtain ⟨i_5, hw⟩ := hw
        refine lC_X2_number F hK hP i_5 dX4_plainResult_74 ?_
        refine csL (As := [.int (gA σ 1 (a2).toNatClampNeg)]) (rest := []) F hK hP hS (c_X8_ofNumber l D ad cI cJ hap H.size _ _ _ hw) (va_cwS 1 hts gX4_plainResult_X8_ofNumber rfl rfl rfl (by decide +kernel) ⟨Nat.le_of_ble_eq_true rfl, Nat.le_of_ble_eq_true rfl⟩) rfl hl.1 rfl (Nat.le_of_ble_eq_true rfl) dX4_plainResult_75 ⟨Nat.zero_le _, Nat.zero_le _⟩ (fun r_4 u_3 H locs hw hP hS => ?_)
        exact rtL F hr hlocks hK hw hP hS dX4_plainResult_78
      · have hw := hw.2 k_2
        by_cases k_6 : (gA σ 0 (a2).toNatClampNeg) = 9
        · have hw := hw.1 k_6
          refine lv_lookup (tgt := 79) (off := 66) hx hb dX4_plainResult_13 (by decide) (by rw [k_6]; decide) (by decide) ?_
          refine lv_iload_n hx hb dX4_plainResult_79 rfl (lv_at hl 3 rfl) ?_
          refine lv_lload_n hx hb dX4_plainResult_80 rfl (lv_at hl 4 rfl) ?_
          refine csL (As := [.int a2, .long a3]) (rest := []) F hK hP hS (c_X7_not l D ad cI cJ hap H.size _ _ _ _ hw) (va_cwS 2 hts gX4_plainResult_X7_not rfl rfl rfl (by decide +kernel) ⟨Nat.le_of_ble_eq_true rfl, Nat.le_of_ble_eq_true rfl⟩) rfl hl.1 rfl (Nat.le_of_ble_eq_true rfl) dX4_plainResult_81 ⟨Nat.zero_le _, Nat.zero_le _⟩ (fun r_8 u_7 H locs hw hP hS => ?_)
          exact rtL F hr hlocks hK hw hP hS dX4_plainResult_84
        · have hw := hw.2 k_6
          by_cases k_9 : (gA σ 0 (a2).toNatClampNeg) = 20
          · have hw := hw.1 k_9
            refine lv_lookup (tgt := 85) (off := 72) hx hb dX4_plainResult_13 (by decide) (by rw [k_9]; decide) (by decide) ?_
            refine lv_iload_n hx hb dX4_plainResult_85 rfl (lv_at hl 3 rfl) ?_
            refine lv_lload_n hx hb dX4_plainResult_86 rfl (lv_at hl 4 rfl) ?_
            refine lv_iconst (v := 2) hx hb dX4_plainResult_87 (by decide) ?_
            refine csL (As := [.int a2, .long a3, .int 2]) (rest := []) F hK hP hS (c_X8_refuse l D ad cI cJ hap H.size _ _ _ _ _ hw) (va_cwS 3 hts gX4_plainResult_X8_refuse rfl rfl rfl (by decide +kernel) ⟨Nat.le_of_ble_eq_true rfl, Nat.le_of_ble_eq_true rfl⟩) rfl hl.1 rfl (Nat.le_of_ble_eq_true rfl) dX4_plainResult_88 ⟨Nat.zero_le _, Nat.zero_le _⟩ (fun r_11 u_10 H locs hw hP hS => ?_)
            refine lv_lstore (lv' := [(6, .long r_11), (5, .int (gA σ 0 (a2).toNatClampNeg)), (0, .ref (ad 2)), (1, .int a1), (2, .int a2), (3, .long a3)]) hx hb dX4_plainResult_91 hl (by decide) rfl (fun ls hl => ?_)
            refine lv_lload_n hx hb dX4_plainResult_93 rfl (lv_at hl 5 rfl) ?_
            refine csI (As := [.long a3]) (rest := []) F hK hP hS (c_X8_contentOf l D ad cI cJ hap H.size _ _ _ hw) (va_cwS 1 hts gX4_plainResult_X8_contentOf rfl rfl rfl (by decide +kernel) ⟨Nat.le_of_ble_eq_true rfl, Nat.le_of_ble_eq_true rfl⟩) rfl hl.1 rfl (Nat.le_of_ble_eq_true rfl) dX4_plainResult_94 ⟨Nat.zero_le _, Nat.zero_le _⟩ (fun r_13 u_12 H locs hw hP hS => ?_)
            refine lv_istore (lv' := [(8, .int r_13), (6, .long r_11), (5, .int (gA σ 0 (a2).toNatClampNeg)), (0, .ref (ad 2)), (1, .int a1), (2, .int a2), (3, .long a3)]) hx hb dX4_plainResult_97 hl (by decide) rfl (fun ls hl => ?_)
            refine lv_lload hx hb dX4_plainResult_99 (lv_at hl 1 rfl) ?_
            refine lv_lconst (v := 0) hx hb dX4_plainResult_101 (by decide) ?_
            refine W.lcmp hx hb dX4_plainResult_102 ?_
            refine lv_if_eq (tgt := 111) hx hb dX4_plainResult_103 (by decide) (fun c_18 => ?_) (fun c_18 => ?_)
            · have hw := hw.1 c_18
              refine lv_aload_n hx hb dX4_plainResult_111 rfl (lv_at hl 3 rfl) ?_
              refine gC_X4_store F hK iw_X4 hP f_f12 dX4_plainResult_112 ?_
              refine lv_iload hx hb dX4_plainResult_115 (lv_at hl 0 rfl) ?_
              refine cvI (As := [.int r_13]) (rest := []) F hK hP hS (c_X6_sizeOf l D ad cI cJ hap H.size _ _ _ hw) (cwV 1 hts gX4_plainResult_X6_sizeOf rfl rfl rfl (by decide +kernel) ⟨Nat.le_of_ble_eq_true rfl, Nat.le_of_ble_eq_true rfl⟩) (va_recv hK hP (ci := 5) (q0 := 3) rfl rfl) rfl hl.1 rfl (Nat.le_of_ble_eq_true rfl) dX4_plainResult_117 ⟨Nat.zero_le _, Nat.zero_le _⟩ (fun r_15 u_14 H locs hw hP hS => ?_)
              refine csL (As := [.int r_15]) (rest := []) F hK hP hS (c_X8_ofNumber l D ad cI cJ hap H.size _ _ _ hw) (va_cwS 1 hts gX4_plainResult_X8_ofNumber rfl rfl rfl (by decide +kernel) ⟨Nat.le_of_ble_eq_true rfl, Nat.le_of_ble_eq_true rfl⟩) rfl hl.1 rfl (Nat.le_of_ble_eq_true rfl) dX4_plainResult_120 ⟨Nat.zero_le _, Nat.zero_le _⟩ (fun r_17 u_16 H locs hw hP hS => ?_)
              exact rtL F hr hlocks hK hw hP hS dX4_plainResult_123
            · have hw := hw.2 c_18
              refine lv_lload hx hb dX4_plainResult_106 (lv_at hl 1 rfl) ?_
              refine lv_goto (tgt := 123) hx hb dX4_plainResult_108 (by decide) ?_
              exact rtL F hr hlocks hK hw hP hS dX4_plainResult_123
          · have hw := hw.2 k_9
            refine lv_lookup (tgt := 124) (off := 111) hx hb dX4_plainResult_13 (by decide) ?_ (by decide) ?_
            · show Op.lookupswitch.offset [(0, 51), (1, 53), (9, 66), (15, 51), (20, 72)] 111 (gA σ 0 (a2).toNatClampNeg).toInt = 111
              rw [lv_osw (k := 0) (fun z => k_1 (Or.inl z)) (by decide)]
              rw [lv_osw (k := 1) (fun z => k_2 z) (by decide)]
              rw [lv_osw (k := 9) (fun z => k_6 z) (by decide)]
              rw [lv_osw (k := 15) (fun z => k_1 (Or.inr z)) (by decide)]
              rw [lv_osw (k := 20) (fun z => k_9 z) (by decide)]
              rfl
            · refine lv_iload hx hb dX4_plainResult_124 (lv_at hl 0 rfl) ?_
              refine lv_iload_n hx hb dX4_plainResult_126 rfl (lv_at hl 3 rfl) ?_
              refine lv_lload_n hx hb dX4_plainResult_127 rfl (lv_at hl 4 rfl) ?_
              refine lv_aload_n hx hb dX4_plainResult_128 rfl (lv_at hl 1 rfl) ?_
              refine gC_X4_floor F hK iw_X4 hP f_f36 dX4_plainResult_129 ?_
              refine lv_iload_n hx hb dX4_plainResult_132 rfl (lv_at hl 2 rfl) ?_
              refine lv_iconst (v := 1) hx hb dX4_plainResult_133 (by decide) ?_
              refine cvL (As := [.int a1, .int 1]) (rest := [.long a3, .int a2, .int (gA σ 0 (a2).toNatClampNeg)]) F hK hP hS (c_X1_cameTo l D ad cI cJ hap H.size _ _ _ _ hw) (cwV 2 hts gX4_plainResult_X1_cameTo rfl rfl rfl (by decide +kernel) ⟨Nat.le_of_ble_eq_true rfl, Nat.le_of_ble_eq_true rfl⟩) (va_recv hK hP (ci := 1) (q0 := 5) rfl rfl) rfl hl.1 rfl (Nat.le_of_ble_eq_true rfl) dX4_plainResult_134 ⟨Nat.zero_le _, Nat.zero_le _⟩ (fun r_20 u_19 H locs hw hP hS => ?_)
              refine csL (As := [.int (gA σ 0 (a2).toNatClampNeg), .int a2, .long a3, .long r_20]) (rest := []) F hK hP hS (c_X7_ofTwo l D ad cI cJ hap H.size _ _ _ _ _ _ hw) (va_cwS 4 hts gX4_plainResult_X7_ofTwo rfl rfl rfl (by decide +kernel) ⟨Nat.le_of_ble_eq_true rfl, Nat.le_of_ble_eq_true rfl⟩) rfl hl.1 rfl (Nat.le_of_ble_eq_true rfl) dX4_plainResult_137 ⟨Nat.zero_le _, Nat.zero_le _⟩ (fun r_22 u_21 H locs hw hP hS => ?_)
              exact rtL F hr hlocks hK hw hP hS dX4_plainResult_140
  exact key s.heap hP hS
