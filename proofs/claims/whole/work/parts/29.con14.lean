abbrev rm_X10_begins : Room := { frames := 3, cells := 0, slots := 0, locals := 72 }
set_option maxHeartbeats 4000000 in
set_option maxRecDepth 100000 in
theorem c_X10_begins (l : Launch) (D : va_G) (ad : Nat → Nat) (cI : ClassId) (hap : apart ad 40) (sz : Nat) (σ : St) (K : St → Prop) (hw : w_X10_begins σ K) : Met l yX10_begins wsX10_begins rm_X10_begins (va_Pc [.ref (ad 0)] (fun U => U.heap.size = sz ∧ inW D (wdM ad cI) [(cI, .int)] σ U)) (va_Qv K (inW D (wdM ad cI) [(cI, .int)]) (AW ad 40 sz)) 0 0 (AW ad 40 sz) := by
  refine Met.ofW (cc := cX10_begins) (maxL := 3) (ret := none) (by decide) rfl ?_
  intro p e s m args below meth c s₁ B hml hv
  obtain ⟨rfl, hsz, ⟨hP, hK⟩⟩ := hv
  have F : CallFix p m c cX10_begins 3 s ([.ref (ad 0)] : List Value).toArray wsX10_begins RX10 := ⟨B.exec, B.bytes, hml, findClass_of_methodNamed B.named, atoms_spec (ws := wsX10_begins) B.pre⟩
  have hx := F.1
  have hb := F.2.1
  have hown := F.2.2.2.1
  have hts := F.2.2.2.2
  have hr := B.returns
  have hlocks := B.notSynchronized
  subst hsz
  have hDs : ∀ σ, va_D (AW ad 40 s.heap.size) ((wdM ad cI) σ) := fun σ => wdM_D hap σ
  have hS : va_S (AW ad 40 s.heap.size) s.heap s.heap [] := va_S.rf
  have iw_X10 : ∀ w ∈ u_ws RX10 TX10 57, w ∈ wsX10_begins := by decide +kernel
  have f_f112 := hts (.fieldLink RX10 112 "TokenFloorModel" "endKind" "[I") (by decide +kernel)
  have f_f146 := hts (.fieldLink RX10 146 "TokenFloorModel" "tokens" "I") (by decide +kernel)
  have f_f149 := hts (.fieldLink RX10 149 "TokenFloorModel" "isRun" "Z") (by decide +kernel)
  have f_f153 := hts (.fieldLink RX10 153 "TokenFloorModel" "how" "I") (by decide +kernel)
  have f_f156 := hts (.fieldLink RX10 156 "TokenFloorModel" "clash" "I") (by decide +kernel)
  have f_f159 := hts (.fieldLink RX10 159 "TokenFloorModel" "isStopped" "Z") (by decide +kernel)
  have f_f162 := hts (.fieldLink RX10 162 "TokenFloorModel" "colours" "I") (by decide +kernel)
  have f_f169 := hts (.fieldLink RX10 169 "TokenFloorModel" "pairs" "I") (by decide +kernel)
  have f_f175 := hts (.fieldLink RX10 175 "TokenFloorModel" "readyMany" "I") (by decide +kernel)
  have f_f218 := hts (.fieldLink RX10 218 "TokenFloorModel" "lost" "I") (by decide +kernel)
  have f_f231 := hts (.fieldLink RX10 231 "TokenFloorModel" "strays" "I") (by decide +kernel)
  have f_f237 := hts (.fieldLink RX10 237 "TokenFloorModel" "rows" "I") (by decide +kernel)
  have f_f240 := hts (.fieldLink RX10 240 "TokenFloorModel" "cells" "I") (by decide +kernel)
  have f_f242 := hts (.fieldLink RX10 242 "TokenFloorModel" "readers" "I") (by decide +kernel)
  have f_f245 := hts (.fieldLink RX10 245 "TokenFloorModel" "steps" "I") (by decide +kernel)
  have f_f248 := hts (.fieldLink RX10 248 "TokenFloorModel" "ticked" "I") (by decide +kernel)
  have f_f251 := hts (.fieldLink RX10 251 "TokenFloorModel" "most" "I") (by decide +kernel)
  have f_f31 := hts (.fieldLink RX10 31 "TokenFloorModel" "tokenAct" "[I") (by decide +kernel)
  have f_f34 := hts (.fieldLink RX10 34 "TokenFloorModel" "tokenPort" "[I") (by decide +kernel)
  have f_f37 := hts (.fieldLink RX10 37 "TokenFloorModel" "tokenValue" "[I") (by decide +kernel)
  have f_f76 := hts (.fieldLink RX10 76 "TokenFloorModel" "first" "[I") (by decide +kernel)
  have f_f79 := hts (.fieldLink RX10 79 "TokenFloorModel" "fired" "[I") (by decide +kernel)
  have lab_135 : ∀ (n : Nat), ∀ (σ : St) (x1 : Int32) (x2 : Int32) (H : Heap) (locs : List Loc) (ls : Array Slot), w_X10_begins_135 K n σ x1 x2 → va_P D vwCl ((wdM ad cI) σ) H → va_S (AW ad 40 s.heap.size) s.heap H locs → lv_has ls 3 [(0, .ref (ad 0)), (1, .int x1), (2, .int x2)] → W p l e (headSpec wsX10_begins rm_X10_begins).room s m ([.ref (ad 0)] : List Value).toArray below meth c H locs 0 0 (MQ below (va_Qv K (inW D (wdM ad cI) [(cI, .int)]) (AW ad 40 s.heap.size)) ([.ref (ad 0)] : List Value).toArray s 0 0 (AW ad 40 s.heap.size)) (F0 m 135 ls []) := by
    intro n
    induction n with
    | zero =>
      intro σ x1 x2 H locs ls hw
      exact hw.elim
    | succ n hL135 =>
      intro σ x1 x2 H locs ls hw hP hS hl
      have hw : b_X10_begins_135 (w_X10_begins_135 K n) K σ x1 x2 := hw
      unfold b_X10_begins_135 at hw
      generalize w_X10_begins_135 K n = L135 at hw hL135
      refine lv_iload_n hx hb dX10_begins_135 rfl (lv_at hl 2 rfl) ?_
      refine lv_aload_n hx hb dX10_begins_136 rfl (lv_at hl 0 rfl) ?_
      refine gM_X10_tokens F hK iw_X10 hP f_f146 dX10_begins_137 ?_
      refine W.eq (g2 := F0 m 140 ls [.int (gS σ 2), .int x2]) rfl ?_
      refine lv_icmp_ge (tgt := 182) hx hb dX10_begins_140 (by decide) (fun c_7 => ?_) (fun c_7 => ?_)
      · have hw := hw.1 c_7
        exact rtV F hr hlocks hK hw hP hS dX10_begins_182
      · have hw := hw.2 c_7
        refine lv_aload_n hx hb dX10_begins_143 rfl (lv_at hl 0 rfl) ?_
        refine gM_X10_isStopped F hK iw_X10 hP f_f159 dX10_begins_144 ?_
        refine W.eq (g2 := F0 m 147 ls [.int (gS σ 4)]) rfl ?_
        refine lv_if_ne (tgt := 182) hx hb dX10_begins_147 (by decide) (fun c_6 => ?_) (fun c_6 => ?_)
        · have hw := hw.1 c_6
          exact rtV F hr hlocks hK hw hP hS dX10_begins_182
        · have hw := hw.2 c_6
          refine lv_aload_n hx hb dX10_begins_150 rfl (lv_at hl 0 rfl) ?_
          refine lv_aload_n hx hb dX10_begins_151 rfl (lv_at hl 0 rfl) ?_
          refine gM_X10_tokenAct F hK iw_X10 hP f_f31 dX10_begins_152 ?_
          refine lv_iload_n hx hb dX10_begins_155 rfl (lv_at hl 2 rfl) ?_
          obtain ⟨i_5, hw⟩ := hw
          refine lM_X10_tokenAct F hK hP i_5 dX10_begins_156 ?_
          refine lv_aload_n hx hb dX10_begins_157 rfl (lv_at hl 0 rfl) ?_
          refine gM_X10_tokenPort F hK iw_X10 hP f_f34 dX10_begins_158 ?_
          refine lv_iload_n hx hb dX10_begins_161 rfl (lv_at hl 2 rfl) ?_
          obtain ⟨i_4, hw⟩ := hw
          refine lM_X10_tokenPort F hK hP i_4 dX10_begins_162 ?_
          refine lv_iload_n hx hb dX10_begins_163 rfl (lv_at hl 1 rfl) ?_
          refine lv_iconst (v := 1) hx hb dX10_begins_164 (by decide) ?_
          refine lv_aload_n hx hb dX10_begins_165 rfl (lv_at hl 0 rfl) ?_
          refine gM_X10_tokenValue F hK iw_X10 hP f_f37 dX10_begins_166 ?_
          refine lv_iload_n hx hb dX10_begins_169 rfl (lv_at hl 2 rfl) ?_
          obtain ⟨i_3, hw⟩ := hw
          refine lM_X10_tokenValue F hK hP i_3 dX10_begins_170 ?_
          refine lv_iconst (v := (-1)) hx hb dX10_begins_171 (by decide) ?_
          refine cvI (As := [.int (gA σ 7 (x2).toNatClampNeg), .int (gA σ 8 (x2).toNatClampNeg), .int x1, .int 1, .int (gA σ 9 (x2).toNatClampNeg), .int (-1)]) (rest := []) F hK hP hS (c_X10_comes l D ad cI hap H.size _ _ _ _ _ _ _ _ hw) (cwV 6 hts gX10_begins_X10_comes rfl rfl rfl (by decide +kernel) ⟨Nat.le_of_ble_eq_true rfl, Nat.le_of_ble_eq_true rfl⟩) (va_recv hK hP (ci := 7) (q0 := 0) rfl rfl) rfl hl.1 rfl (Nat.le_of_ble_eq_true rfl) dX10_begins_172 ⟨Nat.zero_le _, Nat.zero_le _⟩ (fun r_2 u_1 H locs hw hP hS => ?_)
          obtain ⟨zr_2, hw⟩ := hw
          refine lv_pop hx hb dX10_begins_175 rfl ?_
          refine lv_iinc (v := (x2 + 1)) (lv' := [(2, .int (x2 + 1)), (0, .ref (ad 0)), (1, .int x1)]) hx hb dX10_begins_176 hl (k := 2) rfl rfl (by decide) rfl (fun ls hl => ?_)
          refine lv_goto (tgt := 135) hx hb dX10_begins_179 (by decide) ?_
          exact hL135 _ _ _ _ _ _ hw hP hS (lv_sub hl [1, 2, 0] rfl)
  have lab_105 : ∀ (n : Nat), ∀ (σ : St) (x1 : Int32) (H : Heap) (locs : List Loc) (ls : Array Slot), w_X10_begins_105 K n σ x1 → va_P D vwCl ((wdM ad cI) σ) H → va_S (AW ad 40 s.heap.size) s.heap H locs → lv_has ls 3 [(0, .ref (ad 0)), (1, .int x1)] → W p l e (headSpec wsX10_begins rm_X10_begins).room s m ([.ref (ad 0)] : List Value).toArray below meth c H locs 0 0 (MQ below (va_Qv K (inW D (wdM ad cI) [(cI, .int)]) (AW ad 40 s.heap.size)) ([.ref (ad 0)] : List Value).toArray s 0 0 (AW ad 40 s.heap.size)) (F0 m 105 ls []) := by
    intro n
    induction n with
    | zero =>
      intro σ x1 H locs ls hw
      exact hw.elim
    | succ n hL105 =>
      intro σ x1 H locs ls hw hP hS hl
      have hw : b_X10_begins_105 (w_X10_begins_105 K n) K σ x1 := hw
      unfold b_X10_begins_105 at hw
      generalize w_X10_begins_105 K n = L105 at hw hL105
      refine lv_iload_n hx hb dX10_begins_105 rfl (lv_at hl 1 rfl) ?_
      refine lv_bipush (v := 10) hx hb dX10_begins_106 (by decide) ?_
      refine lv_icmp_ge (tgt := 124) hx hb dX10_begins_108 (by decide) (fun c_12 => ?_) (fun c_12 => ?_)
      · have hw := hw.1 c_12
        refine lv_aload_n hx hb dX10_begins_124 rfl (lv_at hl 0 rfl) ?_
        refine lv_iconst (v := 0) hx hb dX10_begins_125 (by decide) ?_
        refine lv_iconst (v := 0) hx hb dX10_begins_126 (by decide) ?_
        refine lv_iconst (v := 0) hx hb dX10_begins_127 (by decide) ?_
        refine lv_iconst (v := 0) hx hb dX10_begins_128 (by decide) ?_
        refine cvI (As := [.int 0, .int 0, .int 0, .int 0]) (rest := []) F hK hP hS (c_X10_colour l D ad cI hap H.size _ _ _ _ _ _ hw) (cwV 4 hts gX10_begins_X10_colour rfl rfl rfl (by decide +kernel) ⟨Nat.le_of_ble_eq_true rfl, Nat.le_of_ble_eq_true rfl⟩) (va_recv hK hP (ci := 7) (q0 := 0) rfl rfl) rfl hl.1 rfl (Nat.le_of_ble_eq_true rfl) dX10_begins_129 ⟨Nat.zero_le _, Nat.zero_le _⟩ (fun r_9 u_8 H locs hw hP hS => ?_)
        refine lv_istore_n (lv' := [(1, .int r_9), (0, .ref (ad 0))]) hx hb dX10_begins_132 rfl hl (by decide) rfl (fun ls hl => ?_)
        refine lv_iconst (v := 0) hx hb dX10_begins_133 (by decide) ?_
        refine lv_istore_n (lv' := [(2, .int 0), (1, .int r_9), (0, .ref (ad 0))]) hx hb dX10_begins_134 rfl hl (by decide) rfl (fun ls hl => ?_)
        obtain ⟨n_10, hw⟩ := hw
        exact lab_135 n_10 _ _ _ _ _ _ hw hP hS (lv_sub hl [2, 1, 0] rfl)
      · have hw := hw.2 c_12
        refine lv_aload_n hx hb dX10_begins_111 rfl (lv_at hl 0 rfl) ?_
        refine gM_X10_endKind F hK iw_X10 hP f_f112 dX10_begins_112 ?_
        refine lv_iload_n hx hb dX10_begins_115 rfl (lv_at hl 1 rfl) ?_
        refine lv_iconst (v := 0) hx hb dX10_begins_116 (by decide) ?_
        obtain ⟨i_11, hw⟩ := hw
        refine sM_X10_endKind F hK hP hDs hS i_11 dX10_begins_117 (fun H locs hP hS => ?_)
        refine lv_iinc (v := (x1 + 1)) (lv' := [(1, .int (x1 + 1)), (0, .ref (ad 0))]) hx hb dX10_begins_118 hl (k := 1) rfl rfl (by decide) rfl (fun ls hl => ?_)
        refine lv_goto (tgt := 105) hx hb dX10_begins_121 (by decide) ?_
        exact hL105 _ _ _ _ _ hw hP hS (lv_sub hl [1, 0] rfl)
  have lab_77 : ∀ (n : Nat), ∀ (σ : St) (x1 : Int32) (H : Heap) (locs : List Loc) (ls : Array Slot), w_X10_begins_77 K n σ x1 → va_P D vwCl ((wdM ad cI) σ) H → va_S (AW ad 40 s.heap.size) s.heap H locs → lv_has ls 3 [(0, .ref (ad 0)), (1, .int x1)] → W p l e (headSpec wsX10_begins rm_X10_begins).room s m ([.ref (ad 0)] : List Value).toArray below meth c H locs 0 0 (MQ below (va_Qv K (inW D (wdM ad cI) [(cI, .int)]) (AW ad 40 s.heap.size)) ([.ref (ad 0)] : List Value).toArray s 0 0 (AW ad 40 s.heap.size)) (F0 m 77 ls []) := by
    intro n
    induction n with
    | zero =>
      intro σ x1 H locs ls hw
      exact hw.elim
    | succ n hL77 =>
      intro σ x1 H locs ls hw hP hS hl
      have hw : b_X10_begins_77 (w_X10_begins_77 K n) K σ x1 := hw
      unfold b_X10_begins_77 at hw
      generalize w_X10_begins_77 K n = L77 at hw hL77
      refine lv_iload_n hx hb dX10_begins_77 rfl (lv_at hl 1 rfl) ?_
      refine lv_bipush (v := 80) hx hb dX10_begins_78 (by decide) ?_
      refine lv_icmp_ge (tgt := 103) hx hb dX10_begins_80 (by decide) (fun c_16 => ?_) (fun c_16 => ?_)
      · have hw := hw.1 c_16
        refine lv_iconst (v := 0) hx hb dX10_begins_103 (by decide) ?_
        refine lv_istore_n (lv' := [(1, .int 0), (0, .ref (ad 0))]) hx hb dX10_begins_104 rfl hl (by decide) rfl (fun ls hl => ?_)
        obtain ⟨n_13, hw⟩ := hw
        exact lab_105 n_13 _ _ _ _ _ hw hP hS (lv_sub hl [1, 0] rfl)
      · have hw := hw.2 c_16
        refine lv_aload_n hx hb dX10_begins_83 rfl (lv_at hl 0 rfl) ?_
        refine gM_X10_first F hK iw_X10 hP f_f76 dX10_begins_84 ?_
        refine lv_iload_n hx hb dX10_begins_87 rfl (lv_at hl 1 rfl) ?_
        refine lv_iconst (v := (-1)) hx hb dX10_begins_88 (by decide) ?_
        obtain ⟨i_15, hw⟩ := hw
        refine sM_X10_first F hK hP hDs hS i_15 dX10_begins_89 (fun H locs hP hS => ?_)
        refine lv_aload_n hx hb dX10_begins_90 rfl (lv_at hl 0 rfl) ?_
        refine gM_X10_fired F hK iw_X10 hP f_f79 dX10_begins_91 ?_
        refine lv_iload_n hx hb dX10_begins_94 rfl (lv_at hl 1 rfl) ?_
        refine lv_iconst (v := 0) hx hb dX10_begins_95 (by decide) ?_
        obtain ⟨i_14, hw⟩ := hw
        refine sM_X10_fired F hK hP hDs hS i_14 dX10_begins_96 (fun H locs hP hS => ?_)
        refine lv_iinc (v := (x1 + 1)) (lv' := [(1, .int (x1 + 1)), (0, .ref (ad 0))]) hx hb dX10_begins_97 hl (k := 1) rfl rfl (by decide) rfl (fun ls hl => ?_)
        refine lv_goto (tgt := 77) hx hb dX10_begins_100 (by decide) ?_
        exact hL77 _ _ _ _ _ hw hP hS (lv_sub hl [1, 0] rfl)
  have hl := lv_entry ([.ref (ad 0)]) (n := 3) (Nat.le_of_ble_eq_true rfl)
  rw [lg_entry_eq]
  generalize (lg_sl ([.ref (ad 0)]) ++ List.replicate (3 - (lg_sl ([.ref (ad 0)])).length) Slot.unset).toArray = ls at hl ⊢
  have hl : lv_has ls 3 [(0, .ref (ad 0))] := hl
  have key : ∀ (H : Heap), va_P D vwCl ((wdM ad cI) σ) H → va_S (AW ad 40 s.heap.size) s.heap H [] → W p l e (headSpec wsX10_begins rm_X10_begins).room s m ([.ref (ad 0)] : List Value).toArray below meth c H [] 0 0 (MQ below (va_Qv K (inW D (wdM ad cI) [(cI, .int)]) (AW ad 40 s.heap.size)) ([.ref (ad 0)] : List Value).toArray s 0 0 (AW ad 40 s.heap.size)) (F0 m 0 ls []) := by
    intro H hP hS
    unfold w_X10_begins at hw
    refine lv_aload_n hx hb dX10_begins_0 rfl (lv_at hl 0 rfl) ?_
    refine lv_iconst (v := 1) hx hb dX10_begins_1 (by decide) ?_
    refine pM_X10_isRun F hK iw_X10 hP hDs hS f_f149 dX10_begins_2 (Or.inr rfl) (fun H locs hP hS => ?_)
    refine lv_aload_n hx hb dX10_begins_5 rfl (lv_at hl 0 rfl) ?_
    refine lv_iconst (v := 0) hx hb dX10_begins_6 (by decide) ?_
    refine pM_X10_isStopped F hK iw_X10 hP hDs hS f_f159 dX10_begins_7 (Or.inl rfl) (fun H locs hP hS => ?_)
    refine lv_aload_n hx hb dX10_begins_10 rfl (lv_at hl 0 rfl) ?_
    refine lv_iconst (v := 0) hx hb dX10_begins_11 (by decide) ?_
    refine pM_X10_how F hK iw_X10 hP hDs hS f_f153 dX10_begins_12 (fun H locs hP hS => ?_)
    refine lv_aload_n hx hb dX10_begins_15 rfl (lv_at hl 0 rfl) ?_
    refine lv_iconst (v := 0) hx hb dX10_begins_16 (by decide) ?_
    refine pM_X10_steps F hK iw_X10 hP hDs hS f_f245 dX10_begins_17 (fun H locs hP hS => ?_)
    refine lv_aload_n hx hb dX10_begins_20 rfl (lv_at hl 0 rfl) ?_
    refine lv_iconst (v := 0) hx hb dX10_begins_21 (by decide) ?_
    refine pM_X10_ticked F hK iw_X10 hP hDs hS f_f248 dX10_begins_22 (fun H locs hP hS => ?_)
    refine lv_aload_n hx hb dX10_begins_25 rfl (lv_at hl 0 rfl) ?_
    refine lv_iconst (v := 0) hx hb dX10_begins_26 (by decide) ?_
    refine pM_X10_most F hK iw_X10 hP hDs hS f_f251 dX10_begins_27 (fun H locs hP hS => ?_)
    refine lv_aload_n hx hb dX10_begins_30 rfl (lv_at hl 0 rfl) ?_
    refine lv_iconst (v := 0) hx hb dX10_begins_31 (by decide) ?_
    refine pM_X10_lost F hK iw_X10 hP hDs hS f_f218 dX10_begins_32 (fun H locs hP hS => ?_)
    refine lv_aload_n hx hb dX10_begins_35 rfl (lv_at hl 0 rfl) ?_
    refine lv_iconst (v := 0) hx hb dX10_begins_36 (by decide) ?_
    refine pM_X10_strays F hK iw_X10 hP hDs hS f_f231 dX10_begins_37 (fun H locs hP hS => ?_)
    refine lv_aload_n hx hb dX10_begins_40 rfl (lv_at hl 0 rfl) ?_
    refine lv_iconst (v := (-1)) hx hb dX10_begins_41 (by decide) ?_
    refine pM_X10_clash F hK iw_X10 hP hDs hS f_f156 dX10_begins_42 (fun H locs hP hS => ?_)
    refine lv_aload_n hx hb dX10_begins_45 rfl (lv_at hl 0 rfl) ?_
    refine lv_iconst (v := 0) hx hb dX10_begins_46 (by decide) ?_
    refine pM_X10_colours F hK iw_X10 hP hDs hS f_f162 dX10_begins_47 (fun H locs hP hS => ?_)
    refine lv_aload_n hx hb dX10_begins_50 rfl (lv_at hl 0 rfl) ?_
    refine lv_iconst (v := 0) hx hb dX10_begins_51 (by decide) ?_
    refine pM_X10_pairs F hK iw_X10 hP hDs hS f_f169 dX10_begins_52 (fun H locs hP hS => ?_)
    refine lv_aload_n hx hb dX10_begins_55 rfl (lv_at hl 0 rfl) ?_
    refine lv_iconst (v := 0) hx hb dX10_begins_56 (by decide) ?_
    refine pM_X10_readyMany F hK iw_X10 hP hDs hS f_f175 dX10_begins_57 (fun H locs hP hS => ?_)
    refine lv_aload_n hx hb dX10_begins_60 rfl (lv_at hl 0 rfl) ?_
    refine lv_iconst (v := 0) hx hb dX10_begins_61 (by decide) ?_
    refine pM_X10_rows F hK iw_X10 hP hDs hS f_f237 dX10_begins_62 (fun H locs hP hS => ?_)
    refine lv_aload_n hx hb dX10_begins_65 rfl (lv_at hl 0 rfl) ?_
    refine lv_iconst (v := 0) hx hb dX10_begins_66 (by decide) ?_
    refine pM_X10_cells F hK iw_X10 hP hDs hS f_f240 dX10_begins_67 (fun H locs hP hS => ?_)
    refine lv_aload_n hx hb dX10_begins_70 rfl (lv_at hl 0 rfl) ?_
    refine lv_iconst (v := 0) hx hb dX10_begins_71 (by decide) ?_
    refine pM_X10_readers F hK iw_X10 hP hDs hS f_f242 dX10_begins_72 (fun H locs hP hS => ?_)
    refine lv_iconst (v := 0) hx hb dX10_begins_75 (by decide) ?_
    refine lv_istore_n (lv' := [(1, .int 0), (0, .ref (ad 0))]) hx hb dX10_begins_76 rfl hl (by decide) rfl (fun ls hl => ?_)
    obtain ⟨n_17, hw⟩ := hw
    exact lab_77 n_17 _ _ _ _ _ hw hP hS (lv_sub hl [1, 0] rfl)
  exact key s.heap hP hS

abbrev rm_X10_stepped : Room := { frames := 8, cells := 0, slots := 0, locals := 197 }
set_option maxHeartbeats 4000000 in
set_option maxRecDepth 100000 in
theorem c_X10_stepped (l : Launch) (D : va_G) (ad : Nat → Nat) (cI : ClassId) (hap : apart ad 40) (sz : Nat) (σ : St) (a1 : Int32) (K : St → Prop) (hw : w_X10_stepped σ a1 K) : Met l yX10_stepped wsX10_stepped rm_X10_stepped (va_Pc [.ref (ad 0), .int a1] (fun U => U.heap.size = sz ∧ inW D (wdM ad cI) [(cI, .int)] σ U)) (va_Qv K (inW D (wdM ad cI) [(cI, .int)]) (AW ad 40 sz)) 0 0 (AW ad 40 sz) := by
  refine Met.ofW (cc := cX10_stepped) (maxL := 4) (ret := none) (by decide) rfl ?_
  intro p e s m args below meth c s₁ B hml hv
  obtain ⟨rfl, hsz, ⟨hP, hK⟩⟩ := hv
  have F : CallFix p m c cX10_stepped 4 s ([.ref (ad 0), .int a1] : List Value).toArray wsX10_stepped RX10 := ⟨B.exec, B.bytes, hml, findClass_of_methodNamed B.named, atoms_spec (ws := wsX10_stepped) B.pre⟩
  have hx := F.1
  have hb := F.2.1
  have hown := F.2.2.2.1
  have hts := F.2.2.2.2
  have hr := B.returns
  have hlocks := B.notSynchronized
  subst hsz
  have hDs : ∀ σ, va_D (AW ad 40 s.heap.size) ((wdM ad cI) σ) := fun σ => wdM_D hap σ
  have hS : va_S (AW ad 40 s.heap.size) s.heap s.heap [] := va_S.rf
  have iw_X10 : ∀ w ∈ u_ws RX10 TX10 57, w ∈ wsX10_stepped := by decide +kernel
  have f_f175 := hts (.fieldLink RX10 175 "TokenFloorModel" "readyMany" "I") (by decide +kernel)
  have f_f245 := hts (.fieldLink RX10 245 "TokenFloorModel" "steps" "I") (by decide +kernel)
  have f_f52 := hts (.fieldLink RX10 52 "TokenFloorModel" "pAct" "[I") (by decide +kernel)
  have f_f61 := hts (.fieldLink RX10 61 "TokenFloorModel" "pHow" "[I") (by decide +kernel)
  have f_f79 := hts (.fieldLink RX10 79 "TokenFloorModel" "fired" "[I") (by decide +kernel)
  have f_f82 := hts (.fieldLink RX10 82 "TokenFloorModel" "ready" "[I") (by decide +kernel)
  have lab_11 : ∀ (n : Nat), ∀ (σ : St) (x2 : Int32) (x3 : Int32) (H : Heap) (locs : List Loc) (ls : Array Slot), w_X10_stepped_11 K n σ x2 x3 → va_P D vwCl ((wdM ad cI) σ) H → va_S (AW ad 40 s.heap.size) s.heap H locs → lv_has ls 4 [(0, .ref (ad 0)), (2, .int x2), (3, .int x3)] → W p l e (headSpec wsX10_stepped rm_X10_stepped).room s m ([.ref (ad 0), .int a1] : List Value).toArray below meth c H locs 0 0 (MQ below (va_Qv K (inW D (wdM ad cI) [(cI, .int)]) (AW ad 40 s.heap.size)) ([.ref (ad 0), .int a1] : List Value).toArray s 0 0 (AW ad 40 s.heap.size)) (F0 m 11 ls []) := by
    intro n
    induction n with
    | zero =>
      intro σ x2 x3 H locs ls hw
      exact hw.elim
    | succ n hL11 =>
      intro σ x2 x3 H locs ls hw hP hS hl
      have hw : b_X10_stepped_11 (w_X10_stepped_11 K n) K σ x2 x3 := hw
      unfold b_X10_stepped_11 at hw
      generalize w_X10_stepped_11 K n = L11 at hw hL11
      refine lv_iload_n hx hb dX10_stepped_11 rfl (lv_at hl 2 rfl) ?_
      refine lv_aload_n hx hb dX10_stepped_12 rfl (lv_at hl 0 rfl) ?_
      refine gM_X10_readyMany F hK iw_X10 hP f_f175 dX10_stepped_13 ?_
      refine W.eq (g2 := F0 m 16 ls [.int (gS σ 14), .int x3]) rfl ?_
      refine lv_icmp_ge (tgt := 39) hx hb dX10_stepped_16 (by decide) (fun c_9 => ?_) (fun c_9 => ?_)
      · have hw := hw.1 c_9
        refine lv_aload_n hx hb dX10_stepped_39 rfl (lv_at hl 0 rfl) ?_
        refine lv_dup hx hb dX10_stepped_40 rfl ?_
        refine gM_X10_readyMany F hK iw_X10 hP f_f175 dX10_stepped_41 ?_
        refine W.eq (g2 := F0 m 44 ls [.int (gS σ 14), .ref (ad 0)]) rfl ?_
        refine lv_iconst (v := 1) hx hb dX10_stepped_44 (by decide) ?_
        refine lv_isub hx hb dX10_stepped_45 ?_
        refine pM_X10_readyMany F hK iw_X10 hP hDs hS f_f175 dX10_stepped_46 (fun H locs hP hS => ?_)
        refine lv_aload_n hx hb dX10_stepped_49 rfl (lv_at hl 0 rfl) ?_
        refine gM_X10_pHow F hK iw_X10 hP f_f61 dX10_stepped_50 ?_
        refine lv_iload_n hx hb dX10_stepped_53 rfl (lv_at hl 1 rfl) ?_
        refine lv_iconst (v := 2) hx hb dX10_stepped_54 (by decide) ?_
        obtain ⟨i_6, hw⟩ := hw
        refine sM_X10_pHow F hK hP hDs hS i_6 dX10_stepped_55 (fun H locs hP hS => ?_)
        refine lv_aload_n hx hb dX10_stepped_56 rfl (lv_at hl 0 rfl) ?_
        refine lv_dup hx hb dX10_stepped_57 rfl ?_
        refine gM_X10_steps F hK iw_X10 hP f_f245 dX10_stepped_58 ?_
        refine W.eq (g2 := F0 m 61 ls [.int (gS σ 6), .ref (ad 0)]) rfl ?_
        refine lv_iconst (v := 1) hx hb dX10_stepped_61 (by decide) ?_
        refine lv_iadd hx hb dX10_stepped_62 ?_
        refine pM_X10_steps F hK iw_X10 hP hDs hS f_f245 dX10_stepped_63 (fun H locs hP hS => ?_)
        refine lv_aload_n hx hb dX10_stepped_66 rfl (lv_at hl 0 rfl) ?_
        refine gM_X10_fired F hK iw_X10 hP f_f79 dX10_stepped_67 ?_
        refine lv_aload_n hx hb dX10_stepped_70 rfl (lv_at hl 0 rfl) ?_
        refine gM_X10_pAct F hK iw_X10 hP f_f52 dX10_stepped_71 ?_
        refine lv_iload_n hx hb dX10_stepped_74 rfl (lv_at hl 1 rfl) ?_
        obtain ⟨i_5, hw⟩ := hw
        refine lM_X10_pAct F hK hP i_5 dX10_stepped_75 ?_
        refine W.eq (g2 := F0 m 76 ls [.int (gA σ 14 (x2).toNatClampNeg), .ref (ad 24)]) rfl ?_
        refine lv_dup2_11 hx hb dX10_stepped_76 rfl rfl ?_
        obtain ⟨i_4, hw⟩ := hw
        refine lM_X10_fired F hK hP i_4 dX10_stepped_77 ?_
        refine W.eq (g2 := F0 m 78 ls [.int (gA σ 23 ((gA σ 14 (x2).toNatClampNeg)).toNatClampNeg), .int (gA σ 14 (x2).toNatClampNeg), .ref (ad 24)]) rfl ?_
        refine lv_iconst (v := 1) hx hb dX10_stepped_78 (by decide) ?_
        refine lv_iadd hx hb dX10_stepped_79 ?_
        obtain ⟨i_3, hw⟩ := hw
        refine sM_X10_fired F hK hP hDs hS i_3 dX10_stepped_80 (fun H locs hP hS => ?_)
        refine lv_aload_n hx hb dX10_stepped_81 rfl (lv_at hl 0 rfl) ?_
        refine lv_iload_n hx hb dX10_stepped_82 rfl (lv_at hl 1 rfl) ?_
        refine cvI (As := [.int x2]) (rest := []) F hK hP hS (c_X10_goesOff l D ad cI hap H.size _ _ _ hw) (cwV 1 hts gX10_stepped_X10_goesOff rfl rfl rfl (by decide +kernel) ⟨Nat.le_of_ble_eq_true rfl, Nat.le_of_ble_eq_true rfl⟩) (va_recv hK hP (ci := 7) (q0 := 0) rfl rfl) rfl hl.1 rfl (Nat.le_of_ble_eq_true rfl) dX10_stepped_83 ⟨Nat.zero_le _, Nat.zero_le _⟩ (fun r_2 u_1 H locs hw hP hS => ?_)
        obtain ⟨zr_2, hw⟩ := hw
        refine lv_pop hx hb dX10_stepped_86 rfl ?_
        exact rtV F hr hlocks hK hw hP hS dX10_stepped_87
      · have hw := hw.2 c_9
        refine lv_aload_n hx hb dX10_stepped_19 rfl (lv_at hl 0 rfl) ?_
        refine gM_X10_ready F hK iw_X10 hP f_f82 dX10_stepped_20 ?_
        refine lv_iload_n hx hb dX10_stepped_23 rfl (lv_at hl 2 rfl) ?_
        refine lv_iconst (v := 1) hx hb dX10_stepped_24 (by decide) ?_
        refine lv_isub hx hb dX10_stepped_25 ?_
        refine lv_aload_n hx hb dX10_stepped_26 rfl (lv_at hl 0 rfl) ?_
        refine gM_X10_ready F hK iw_X10 hP f_f82 dX10_stepped_27 ?_
        refine lv_iload_n hx hb dX10_stepped_30 rfl (lv_at hl 2 rfl) ?_
        obtain ⟨i_8, hw⟩ := hw
        refine lM_X10_ready F hK hP i_8 dX10_stepped_31 ?_
        obtain ⟨i_7, hw⟩ := hw
        refine sM_X10_ready F hK hP hDs hS i_7 dX10_stepped_32 (fun H locs hP hS => ?_)
        refine lv_iinc (v := (x3 + 1)) (lv' := [(3, .int (x3 + 1)), (0, .ref (ad 0)), (2, .int x2)]) hx hb dX10_stepped_33 hl (k := 2) rfl rfl (by decide) rfl (fun ls hl => ?_)
        refine lv_goto (tgt := 11) hx hb dX10_stepped_36 (by decide) ?_
        exact hL11 _ _ _ _ _ _ hw hP hS (lv_sub hl [1, 2, 0] rfl)
  have hl := lv_entry ([.ref (ad 0), .int a1]) (n := 4) (Nat.le_of_ble_eq_true rfl)
  rw [lg_entry_eq]
  generalize (lg_sl ([.ref (ad 0), .int a1]) ++ List.replicate (4 - (lg_sl ([.ref (ad 0), .int a1])).length) Slot.unset).toArray = ls at hl ⊢
  have hl : lv_has ls 4 [(0, .ref (ad 0)), (1, .int a1)] := hl
  have key : ∀ (H : Heap), va_P D vwCl ((wdM ad cI) σ) H → va_S (AW ad 40 s.heap.size) s.heap H [] → W p l e (headSpec wsX10_stepped rm_X10_stepped).room s m ([.ref (ad 0), .int a1] : List Value).toArray below meth c H [] 0 0 (MQ below (va_Qv K (inW D (wdM ad cI) [(cI, .int)]) (AW ad 40 s.heap.size)) ([.ref (ad 0), .int a1] : List Value).toArray s 0 0 (AW ad 40 s.heap.size)) (F0 m 0 ls []) := by
    intro H hP hS
    unfold w_X10_stepped at hw
    refine lv_aload_n hx hb dX10_stepped_0 rfl (lv_at hl 0 rfl) ?_
    refine gM_X10_ready F hK iw_X10 hP f_f82 dX10_stepped_1 ?_
    refine lv_iload_n hx hb dX10_stepped_4 rfl (lv_at hl 1 rfl) ?_
    obtain ⟨i_11, hw⟩ := hw
    refine lM_X10_ready F hK hP i_11 dX10_stepped_5 ?_
    refine lv_istore_n (lv' := [(2, .int (gA σ 24 (a1).toNatClampNeg)), (0, .ref (ad 0)), (1, .int a1)]) hx hb dX10_stepped_6 rfl hl (by decide) rfl (fun ls hl => ?_)
    refine lv_iload_n hx hb dX10_stepped_7 rfl (lv_at hl 2 rfl) ?_
    refine lv_iconst (v := 1) hx hb dX10_stepped_8 (by decide) ?_
    refine lv_iadd hx hb dX10_stepped_9 ?_
    refine lv_istore_n (lv' := [(3, .int (a1 + 1)), (2, .int (gA σ 24 (a1).toNatClampNeg)), (0, .ref (ad 0)), (1, .int a1)]) hx hb dX10_stepped_10 rfl hl (by decide) rfl (fun ls hl => ?_)
    obtain ⟨n_10, hw⟩ := hw
    exact lab_11 n_10 _ _ _ _ _ _ hw hP hS (lv_sub hl [2, 1, 0] rfl)
  exact key s.heap hP hS

abbrev rm_X10_run : Room := { frames := 9, cells := 0, slots := 0, locals := 220 }
set_option maxHeartbeats 4000000 in
set_option maxRecDepth 100000 in
theorem c_X10_run (l : Launch) (D : va_G) (ad : Nat → Nat) (cI : ClassId) (hap : apart ad 40) (sz : Nat) (σ : St) (a1 : Int32) (a2 : Int32) (K : Int32 → St → Prop) (hw : w_X10_run σ a1 a2 K) : Met l yX10_run wsX10_run rm_X10_run (va_Pc [.ref (ad 0), .int a1, .int a2] (fun U => U.heap.size = sz ∧ inW D (wdM ad cI) [(cI, .int)] σ U)) (va_Qi K (inW D (wdM ad cI) [(cI, .int)]) (AW ad 40 sz)) 0 0 (AW ad 40 sz) := by
  refine Met.ofW (cc := cX10_run) (maxL := 4) (ret := (some .int)) (by decide) rfl ?_
  intro p e s m args below meth c s₁ B hml hv
  obtain ⟨rfl, hsz, ⟨hP, hK⟩⟩ := hv
  have F : CallFix p m c cX10_run 4 s ([.ref (ad 0), .int a1, .int a2] : List Value).toArray wsX10_run RX10 := ⟨B.exec, B.bytes, hml, findClass_of_methodNamed B.named, atoms_spec (ws := wsX10_run) B.pre⟩
  have hx := F.1
  have hb := F.2.1
  have hown := F.2.2.2.1
  have hts := F.2.2.2.2
  have hr := B.returns
  have hlocks := B.notSynchronized
  subst hsz
  have hDs : ∀ σ, va_D (AW ad 40 s.heap.size) ((wdM ad cI) σ) := fun σ => wdM_D hap σ
  have hS : va_S (AW ad 40 s.heap.size) s.heap s.heap [] := va_S.rf
  have iw_X10 : ∀ w ∈ u_ws RX10 TX10 57, w ∈ wsX10_run := by decide +kernel
  have f_c260 := hts (.constant RX10 260 1103515245) (by decide +kernel)
  have f_f153 := hts (.fieldLink RX10 153 "TokenFloorModel" "how" "I") (by decide +kernel)
  have f_f159 := hts (.fieldLink RX10 159 "TokenFloorModel" "isStopped" "Z") (by decide +kernel)
  have f_f175 := hts (.fieldLink RX10 175 "TokenFloorModel" "readyMany" "I") (by decide +kernel)
  have f_f245 := hts (.fieldLink RX10 245 "TokenFloorModel" "steps" "I") (by decide +kernel)
  have f_f251 := hts (.fieldLink RX10 251 "TokenFloorModel" "most" "I") (by decide +kernel)
  have lab_19 : ∀ (n : Nat), ∀ (σ : St) (x2 : Int32) (x3 : Int32) (H : Heap) (locs : List Loc) (ls : Array Slot), w_X10_run_19 K n σ x2 x3 → va_P D vwCl ((wdM ad cI) σ) H → va_S (AW ad 40 s.heap.size) s.heap H locs → lv_has ls 4 [(0, .ref (ad 0)), (2, .int x2), (3, .int x3)] → W p l e (headSpec wsX10_run rm_X10_run).room s m ([.ref (ad 0), .int a1, .int a2] : List Value).toArray below meth c H locs 0 0 (MQ below (va_Qi K (inW D (wdM ad cI) [(cI, .int)]) (AW ad 40 s.heap.size)) ([.ref (ad 0), .int a1, .int a2] : List Value).toArray s 0 0 (AW ad 40 s.heap.size)) (F0 m 19 ls []) := by
    intro n
    induction n with
    | zero =>
      intro σ x2 x3 H locs ls hw
      exact hw.elim
    | succ n hL19 =>
      intro σ x2 x3 H locs ls hw hP hS hl
      have hw : b_X10_run_19 (w_X10_run_19 K n) K σ x2 x3 := hw
      unfold b_X10_run_19 at hw
      generalize w_X10_run_19 K n = L19 at hw hL19
      refine lv_aload_n hx hb dX10_run_19 rfl (lv_at hl 0 rfl) ?_
      refine gM_X10_isStopped F hK iw_X10 hP f_f159 dX10_run_20 ?_
      refine W.eq (g2 := F0 m 23 ls [.int (gS σ 4)]) rfl ?_
      refine lv_if_ne (tgt := 82) hx hb dX10_run_23 (by decide) (fun c_8 => ?_) (fun c_8 => ?_)
      · have hw := hw.1 c_8
        refine lv_aload_n hx hb dX10_run_82 rfl (lv_at hl 0 rfl) ?_
        refine gM_X10_how F hK iw_X10 hP f_f153 dX10_run_83 ?_
        refine W.eq (g2 := F0 m 86 ls [.int (gS σ 5)]) rfl ?_
        exact rtI F hr hlocks hK hw hP hS dX10_run_86
      · have hw := hw.2 c_8
        refine lv_aload_n hx hb dX10_run_26 rfl (lv_at hl 0 rfl) ?_
        refine gM_X10_readyMany F hK iw_X10 hP f_f175 dX10_run_27 ?_
        refine W.eq (g2 := F0 m 30 ls [.int (gS σ 14)]) rfl ?_
        refine lv_if_le (tgt := 82) hx hb dX10_run_30 (by decide) (fun c_7 => ?_) (fun c_7 => ?_)
        · have hw := hw.1 c_7
          refine lv_aload_n hx hb dX10_run_82 rfl (lv_at hl 0 rfl) ?_
          refine gM_X10_how F hK iw_X10 hP f_f153 dX10_run_83 ?_
          refine W.eq (g2 := F0 m 86 ls [.int (gS σ 5)]) rfl ?_
          exact rtI F hr hlocks hK hw hP hS dX10_run_86
        · have hw := hw.2 c_7
          refine lv_aload_n hx hb dX10_run_33 rfl (lv_at hl 0 rfl) ?_
          refine gM_X10_steps F hK iw_X10 hP f_f245 dX10_run_34 ?_
          refine W.eq (g2 := F0 m 37 ls [.int (gS σ 6)]) rfl ?_
          refine lv_iload_n hx hb dX10_run_37 rfl (lv_at hl 1 rfl) ?_
          refine lv_icmp_ne (tgt := 51) hx hb dX10_run_38 (by decide) (fun c_6 => ?_) (fun c_6 => ?_)
          · have hw := hw.1 c_6
            refine lv_ldcw (v := 1103515245) hx hb hown f_c260 dX10_run_51 ?_
            refine lv_iload_n hx hb dX10_run_54 rfl (lv_at hl 2 rfl) ?_
            refine lv_imul hx hb dX10_run_55 ?_
            refine lv_sipush (v := 12345) hx hb dX10_run_56 (by decide) ?_
            refine lv_iadd hx hb dX10_run_59 ?_
            refine lv_istore_n (lv' := [(3, .int ((1103515245 * x3) + 12345)), (0, .ref (ad 0)), (2, .int x2)]) hx hb dX10_run_60 rfl hl (by decide) rfl (fun ls hl => ?_)
            refine lv_aload_n hx hb dX10_run_61 rfl (lv_at hl 1 rfl) ?_
            refine lv_iconst (v := 1) hx hb dX10_run_62 (by decide) ?_
            refine pM_X10_most F hK iw_X10 hP hDs hS f_f251 dX10_run_63 (fun H locs hP hS => ?_)
            refine lv_aload_n hx hb dX10_run_66 rfl (lv_at hl 1 rfl) ?_
            refine lv_iload_n hx hb dX10_run_67 rfl (lv_at hl 0 rfl) ?_
            refine lv_bipush (v := 16) hx hb dX10_run_68 (by decide) ?_
            refine lv_iushr hx hb dX10_run_70 rfl ?_
            refine lv_aload_n hx hb dX10_run_71 rfl (lv_at hl 1 rfl) ?_
            refine gM_X10_readyMany F hK iw_X10 hP f_f175 dX10_run_72 ?_
            refine W.eq (g2 := F0 m 75 ls [.int (gS σ 14), .int ((((1103515245 * x3) + 12345).toUInt32 >>> ((16 : Int32).toUInt32 &&& Int32.toUInt32 31)).toInt32), .ref (ad 0)]) rfl ?_
            obtain ⟨h_3, hw⟩ := hw
            refine lv_irem hx hb dX10_run_75 h_3 ?_
            refine cvV (As := [.int (((((1103515245 * x3) + 12345).toUInt32 >>> ((16 : Int32).toUInt32 &&& Int32.toUInt32 31)).toInt32) - ((((1103515245 * x3) + 12345).toUInt32 >>> ((16 : Int32).toUInt32 &&& Int32.toUInt32 31)).toInt32) / (gS σ 14) * (gS σ 14))]) (rest := []) F hK hP hS (c_X10_stepped l D ad cI hap H.size _ _ _ hw) (cwV 1 hts gX10_run_X10_stepped rfl rfl rfl (by decide +kernel) ⟨Nat.le_of_ble_eq_true rfl, Nat.le_of_ble_eq_true rfl⟩) (va_recv hK hP (ci := 7) (q0 := 0) rfl rfl) rfl hl.1 rfl (Nat.le_of_ble_eq_true rfl) dX10_run_76 ⟨Nat.zero_le _, Nat.zero_le _⟩ (fun u_1 H locs hw hP hS => ?_)
            refine lv_goto (tgt := 19) hx hb dX10_run_79 (by decide) ?_
            exact hL19 _ _ _ _ _ _ hw hP hS (lv_sub hl [1, 2, 0] rfl)
          · have hw := hw.2 c_6
            refine lv_aload_n hx hb dX10_run_41 rfl (lv_at hl 0 rfl) ?_
            refine lv_iconst (v := 3) hx hb dX10_run_42 (by decide) ?_
            refine lv_iconst (v := (-1)) hx hb dX10_run_43 (by decide) ?_
            refine cvI (As := [.int 3, .int (-1)]) (rest := []) F hK hP hS (c_X10_stops l D ad cI hap H.size _ _ _ _ hw) (cwV 2 hts gX10_run_X10_stops rfl rfl rfl (by decide +kernel) ⟨Nat.le_of_ble_eq_true rfl, Nat.le_of_ble_eq_true rfl⟩) (va_recv hK hP (ci := 7) (q0 := 0) rfl rfl) rfl hl.1 rfl (Nat.le_of_ble_eq_true rfl) dX10_run_44 ⟨Nat.zero_le _, Nat.zero_le _⟩ (fun r_5 u_4 H locs hw hP hS => ?_)
            obtain ⟨zr_5, hw⟩ := hw
            refine lv_pop hx hb dX10_run_47 rfl ?_
            refine lv_goto (tgt := 19) hx hb dX10_run_48 (by decide) ?_
            exact hL19 _ _ _ _ _ _ hw hP hS (lv_sub hl [0, 1, 2] rfl)
  have hl := lv_entry ([.ref (ad 0), .int a1, .int a2]) (n := 4) (Nat.le_of_ble_eq_true rfl)
  rw [lg_entry_eq]
  generalize (lg_sl ([.ref (ad 0), .int a1, .int a2]) ++ List.replicate (4 - (lg_sl ([.ref (ad 0), .int a1, .int a2])).length) Slot.unset).toArray = ls at hl ⊢
  have hl : lv_has ls 4 [(0, .ref (ad 0)), (1, .int a1), (2, .int a2)] := hl
  have key : ∀ (H : Heap), va_P D vwCl ((wdM ad cI) σ) H → va_S (AW ad 40 s.heap.size) s.heap H [] → W p l e (headSpec wsX10_run rm_X10_run).room s m ([.ref (ad 0), .int a1, .int a2] : List Value).toArray below meth c H [] 0 0 (MQ below (va_Qi K (inW D (wdM ad cI) [(cI, .int)]) (AW ad 40 s.heap.size)) ([.ref (ad 0), .int a1, .int a2] : List Value).toArray s 0 0 (AW ad 40 s.heap.size)) (F0 m 0 ls []) := by
    intro H hP hS
    unfold w_X10_run at hw
    refine lv_iload_n hx hb dX10_run_0 rfl (lv_at hl 2 rfl) ?_
    refine lv_iconst (v := 0) hx hb dX10_run_1 (by decide) ?_
    refine lv_sipush (v := 4000) hx hb dX10_run_2 (by decide) ?_
    refine csI (As := [.int a2, .int 0, .int 4000]) (rest := []) F hK hP hS (c_X10_in l D ad cI hap H.size _ _ _ _ _ hw) (va_cwS 3 hts gX10_run_X10_in rfl rfl rfl (by decide +kernel) ⟨Nat.le_of_ble_eq_true rfl, Nat.le_of_ble_eq_true rfl⟩) rfl hl.1 rfl (Nat.le_of_ble_eq_true rfl) dX10_run_5 ⟨Nat.zero_le _, Nat.zero_le _⟩ (fun r_10 u_9 H locs hw hP hS => ?_)
    obtain ⟨zr_10, hw⟩ := hw
    refine lv_if_ne (tgt := 13) hx hb dX10_run_8 (by decide) (fun c_14 => ?_) (fun c_14 => ?_)
    · have hw := hw.1 c_14
      refine lv_aload_n hx hb dX10_run_13 rfl (lv_at hl 0 rfl) ?_
      refine cvV (As := []) (rest := []) F hK hP hS (c_X10_begins l D ad cI hap H.size _ _ hw) (cwV 0 hts gX10_run_X10_begins rfl rfl rfl (by decide +kernel) ⟨Nat.le_of_ble_eq_true rfl, Nat.le_of_ble_eq_true rfl⟩) (va_recv hK hP (ci := 7) (q0 := 0) rfl rfl) rfl hl.1 rfl (Nat.le_of_ble_eq_true rfl) dX10_run_14 ⟨Nat.zero_le _, Nat.zero_le _⟩ (fun u_11 H locs hw hP hS => ?_)
      refine lv_iload_n hx hb dX10_run_17 rfl (lv_at hl 1 rfl) ?_
      refine lv_istore_n (lv' := [(3, .int a1), (0, .ref (ad 0)), (1, .int a1), (2, .int a2)]) hx hb dX10_run_18 rfl hl (by decide) rfl (fun ls hl => ?_)
      obtain ⟨n_13, hw⟩ := hw
      exact lab_19 n_13 _ _ _ _ _ _ hw hP hS (lv_sub hl [1, 3, 0] rfl)
    · have hw := hw.2 c_14
      refine lv_iconst (v := (-1)) hx hb dX10_run_11 (by decide) ?_
      exact rtI F hr hlocks hK hw hP hS dX10_run_12
  exact key s.heap hP hS

abbrev rm_X10_ticks : Room := { frames := 9, cells := 0, slots := 0, locals := 220 }
set_option maxHeartbeats 4000000 in
set_option maxRecDepth 100000 in
theorem c_X10_ticks (l : Launch) (D : va_G) (ad : Nat → Nat) (cI : ClassId) (hap : apart ad 40) (sz : Nat) (σ : St) (a1 : Int32) (K : Int32 → St → Prop) (hw : w_X10_ticks σ a1 K) : Met l yX10_ticks wsX10_ticks rm_X10_ticks (va_Pc [.ref (ad 0), .int a1] (fun U => U.heap.size = sz ∧ inW D (wdM ad cI) [(cI, .int)] σ U)) (va_Qi K (inW D (wdM ad cI) [(cI, .int)]) (AW ad 40 sz)) 0 0 (AW ad 40 sz) := by
  refine Met.ofW (cc := cX10_ticks) (maxL := 5) (ret := (some .int)) (by decide) rfl ?_
  intro p e s m args below meth c s₁ B hml hv
  obtain ⟨rfl, hsz, ⟨hP, hK⟩⟩ := hv
  have F : CallFix p m c cX10_ticks 5 s ([.ref (ad 0), .int a1] : List Value).toArray wsX10_ticks RX10 := ⟨B.exec, B.bytes, hml, findClass_of_methodNamed B.named, atoms_spec (ws := wsX10_ticks) B.pre⟩
  have hx := F.1
  have hb := F.2.1
  have hown := F.2.2.2.1
  have hts := F.2.2.2.2
  have hr := B.returns
  have hlocks := B.notSynchronized
  subst hsz
  have hDs : ∀ σ, va_D (AW ad 40 s.heap.size) ((wdM ad cI) σ) := fun σ => wdM_D hap σ
  have hS : va_S (AW ad 40 s.heap.size) s.heap s.heap [] := va_S.rf
  have iw_X10 : ∀ w ∈ u_ws RX10 TX10 57, w ∈ wsX10_ticks := by decide +kernel
  have f_f153 := hts (.fieldLink RX10 153 "TokenFloorModel" "how" "I") (by decide +kernel)
  have f_f159 := hts (.fieldLink RX10 159 "TokenFloorModel" "isStopped" "Z") (by decide +kernel)
  have f_f175 := hts (.fieldLink RX10 175 "TokenFloorModel" "readyMany" "I") (by decide +kernel)
  have f_f245 := hts (.fieldLink RX10 245 "TokenFloorModel" "steps" "I") (by decide +kernel)
  have f_f248 := hts (.fieldLink RX10 248 "TokenFloorModel" "ticked" "I") (by decide +kernel)
  have f_f251 := hts (.fieldLink RX10 251 "TokenFloorModel" "most" "I") (by decide +kernel)
  have lab_114 : ∀ (L17 : St → Int32 → Prop) (hL17 : ∀ (σ : St) (x1 : Int32) (H : Heap) (locs : List Loc) (ls : Array Slot), L17 σ x1 → va_P D vwCl ((wdM ad cI) σ) H → va_S (AW ad 40 s.heap.size) s.heap H locs → lv_has ls 5 [(0, .ref (ad 0)), (1, .int x1)] → W p l e (headSpec wsX10_ticks rm_X10_ticks).room s m ([.ref (ad 0), .int a1] : List Value).toArray below meth c H locs 0 0 (MQ below (va_Qi K (inW D (wdM ad cI) [(cI, .int)]) (AW ad 40 s.heap.size)) ([.ref (ad 0), .int a1] : List Value).toArray s 0 0 (AW ad 40 s.heap.size)) (F0 m 17 ls [])), ∀ (σ : St) (x1 : Int32) (x3 : Int32) (H : Heap) (locs : List Loc) (ls : Array Slot), b_X10_ticks_114 L17 K σ x1 x3 → va_P D vwCl ((wdM ad cI) σ) H → va_S (AW ad 40 s.heap.size) s.heap H locs → lv_has ls 5 [(0, .ref (ad 0)), (1, .int x1), (3, .int x3)] → W p l e (headSpec wsX10_ticks rm_X10_ticks).room s m ([.ref (ad 0), .int a1] : List Value).toArray below meth c H locs 0 0 (MQ below (va_Qi K (inW D (wdM ad cI) [(cI, .int)]) (AW ad 40 s.heap.size)) ([.ref (ad 0), .int a1] : List Value).toArray s 0 0 (AW ad 40 s.heap.size)) (F0 m 114 ls []) := by
    intro L17 hL17
    intro σ x1 x3 H locs ls hw hP hS hl
    unfold b_X10_ticks_114 at hw
    refine lv_aload_n hx hb dX10_ticks_114 rfl (lv_at hl 0 rfl) ?_
    refine lv_iload_n hx hb dX10_ticks_115 rfl (lv_at hl 2 rfl) ?_
    refine lv_aload_n hx hb dX10_ticks_116 rfl (lv_at hl 0 rfl) ?_
    refine gM_X10_most F hK iw_X10 hP f_f251 dX10_ticks_117 ?_
    refine W.eq (g2 := F0 m 120 ls [.int (gS σ 8), .int x3, .ref (ad 0)]) rfl ?_
    refine lv_icmp_le (tgt := 127) hx hb dX10_ticks_120 (by decide) (fun c_1 => ?_) (fun c_1 => ?_)
    · have hw := hw.1 c_1
      refine lv_aload_n hx hb dX10_ticks_127 rfl (lv_at hl 0 rfl) ?_
      refine gM_X10_most F hK iw_X10 hP f_f251 dX10_ticks_128 ?_
      refine W.eq (g2 := F0 m 131 ls [.int (gS σ 8), .ref (ad 0)]) rfl ?_
      refine pM_X10_most F hK iw_X10 hP hDs hS f_f251 dX10_ticks_131 (fun H locs hP hS => ?_)
      refine lv_goto (tgt := 17) hx hb dX10_ticks_134 (by decide) ?_
      exact hL17 _ _ _ _ _ hw hP hS (lv_sub hl [0, 1] rfl)
    · have hw := hw.2 c_1
      refine lv_iload_n hx hb dX10_ticks_123 rfl (lv_at hl 2 rfl) ?_
      refine lv_goto (tgt := 131) hx hb dX10_ticks_124 (by decide) ?_
      refine pM_X10_most F hK iw_X10 hP hDs hS f_f251 dX10_ticks_131 (fun H locs hP hS => ?_)
      refine lv_goto (tgt := 17) hx hb dX10_ticks_134 (by decide) ?_
      exact hL17 _ _ _ _ _ hw hP hS (lv_sub hl [0, 1] rfl)
  have lab_69 : ∀ (L17 : St → Int32 → Prop) (hL17 : ∀ (σ : St) (x1 : Int32) (H : Heap) (locs : List Loc) (ls : Array Slot), L17 σ x1 → va_P D vwCl ((wdM ad cI) σ) H → va_S (AW ad 40 s.heap.size) s.heap H locs → lv_has ls 5 [(0, .ref (ad 0)), (1, .int x1)] → W p l e (headSpec wsX10_ticks rm_X10_ticks).room s m ([.ref (ad 0), .int a1] : List Value).toArray below meth c H locs 0 0 (MQ below (va_Qi K (inW D (wdM ad cI) [(cI, .int)]) (AW ad 40 s.heap.size)) ([.ref (ad 0), .int a1] : List Value).toArray s 0 0 (AW ad 40 s.heap.size)) (F0 m 17 ls [])) (n : Nat), ∀ (σ : St) (x1 : Int32) (x2 : Int32) (x3 : Int32) (x4 : Int32) (H : Heap) (locs : List Loc) (ls : Array Slot), w_X10_ticks_69 L17 K n σ x1 x2 x3 x4 → va_P D vwCl ((wdM ad cI) σ) H → va_S (AW ad 40 s.heap.size) s.heap H locs → lv_has ls 5 [(0, .ref (ad 0)), (1, .int x1), (2, .int x2), (3, .int x3), (4, .int x4)] → W p l e (headSpec wsX10_ticks rm_X10_ticks).room s m ([.ref (ad 0), .int a1] : List Value).toArray below meth c H locs 0 0 (MQ below (va_Qi K (inW D (wdM ad cI) [(cI, .int)]) (AW ad 40 s.heap.size)) ([.ref (ad 0), .int a1] : List Value).toArray s 0 0 (AW ad 40 s.heap.size)) (F0 m 69 ls []) := by
    intro L17 hL17
    intro n
    induction n with
    | zero =>
      intro σ x1 x2 x3 x4 H locs ls hw
      exact hw.elim
    | succ n hL69 =>
      intro σ x1 x2 x3 x4 H locs ls hw hP hS hl
      have hw : b_X10_ticks_69 L17 (w_X10_ticks_69 L17 K n) K σ x1 x2 x3 x4 := hw
      unfold b_X10_ticks_69 at hw
      generalize w_X10_ticks_69 L17 K n = L69 at hw hL69
      refine lv_iload hx hb dX10_ticks_69 (lv_at hl 4 rfl) ?_
      refine lv_iload_n hx hb dX10_ticks_71 rfl (lv_at hl 2 rfl) ?_
      refine lv_icmp_ge (tgt := 114) hx hb dX10_ticks_72 (by decide) (fun c_8 => ?_) (fun c_8 => ?_)
      · have hw := hw.1 c_8
        exact lab_114 L17 hL17 _ _ _ _ _ _ hw hP hS (lv_sub hl [0, 1, 3] rfl)
      · have hw := hw.2 c_8
        refine lv_aload_n hx hb dX10_ticks_75 rfl (lv_at hl 0 rfl) ?_
        refine gM_X10_isStopped F hK iw_X10 hP f_f159 dX10_ticks_76 ?_
        refine W.eq (g2 := F0 m 79 ls [.int (gS σ 4)]) rfl ?_
        refine lv_if_ne (tgt := 114) hx hb dX10_ticks_79 (by decide) (fun c_7 => ?_) (fun c_7 => ?_)
        · have hw := hw.1 c_7
          exact lab_114 L17 hL17 _ _ _ _ _ _ hw hP hS (lv_sub hl [0, 1, 3] rfl)
        · have hw := hw.2 c_7
          refine lv_aload_n hx hb dX10_ticks_82 rfl (lv_at hl 0 rfl) ?_
          refine gM_X10_steps F hK iw_X10 hP f_f245 dX10_ticks_83 ?_
          refine W.eq (g2 := F0 m 86 ls [.int (gS σ 6)]) rfl ?_
          refine lv_iload_n hx hb dX10_ticks_86 rfl (lv_at hl 1 rfl) ?_
          refine lv_icmp_ne (tgt := 100) hx hb dX10_ticks_87 (by decide) (fun c_6 => ?_) (fun c_6 => ?_)
          · have hw := hw.1 c_6
            refine lv_aload_n hx hb dX10_ticks_100 rfl (lv_at hl 0 rfl) ?_
            refine lv_iconst (v := 0) hx hb dX10_ticks_101 (by decide) ?_
            refine cvV (As := [.int 0]) (rest := []) F hK hP hS (c_X10_stepped l D ad cI hap H.size _ _ _ hw) (cwV 1 hts gX10_ticks_X10_stepped rfl rfl rfl (by decide +kernel) ⟨Nat.le_of_ble_eq_true rfl, Nat.le_of_ble_eq_true rfl⟩) (va_recv hK hP (ci := 7) (q0 := 0) rfl rfl) rfl hl.1 rfl (Nat.le_of_ble_eq_true rfl) dX10_ticks_102 ⟨Nat.zero_le _, Nat.zero_le _⟩ (fun u_2 H locs hw hP hS => ?_)
            refine lv_iinc (v := (x3 + 1)) (lv' := [(3, .int (x3 + 1)), (0, .ref (ad 0)), (1, .int x1), (2, .int x2), (4, .int x4)]) hx hb dX10_ticks_105 hl (k := 3) rfl rfl (by decide) rfl (fun ls hl => ?_)
            refine lv_iinc (v := (x4 + 1)) (lv' := [(4, .int (x4 + 1)), (3, .int (x3 + 1)), (0, .ref (ad 0)), (1, .int x1), (2, .int x2)]) hx hb dX10_ticks_108 hl (k := 4) rfl rfl (by decide) rfl (fun ls hl => ?_)
            refine lv_goto (tgt := 69) hx hb dX10_ticks_111 (by decide) ?_
            exact hL69 _ _ _ _ _ _ _ _ hw hP hS (lv_sub hl [2, 3, 4, 1, 0] rfl)
          · have hw := hw.2 c_6
            refine lv_aload_n hx hb dX10_ticks_90 rfl (lv_at hl 0 rfl) ?_
            refine lv_iconst (v := 3) hx hb dX10_ticks_91 (by decide) ?_
            refine lv_iconst (v := (-1)) hx hb dX10_ticks_92 (by decide) ?_
            refine cvI (As := [.int 3, .int (-1)]) (rest := []) F hK hP hS (c_X10_stops l D ad cI hap H.size _ _ _ _ hw) (cwV 2 hts gX10_ticks_X10_stops rfl rfl rfl (by decide +kernel) ⟨Nat.le_of_ble_eq_true rfl, Nat.le_of_ble_eq_true rfl⟩) (va_recv hK hP (ci := 7) (q0 := 0) rfl rfl) rfl hl.1 rfl (Nat.le_of_ble_eq_true rfl) dX10_ticks_93 ⟨Nat.zero_le _, Nat.zero_le _⟩ (fun r_5 u_4 H locs hw hP hS => ?_)
            obtain ⟨zr_5, hw⟩ := hw
            refine lv_pop hx hb dX10_ticks_96 rfl ?_
            refine lv_goto (tgt := 108) hx hb dX10_ticks_97 (by decide) ?_
            refine lv_iinc (v := (x4 + 1)) (lv' := [(4, .int (x4 + 1)), (0, .ref (ad 0)), (1, .int x1), (2, .int x2), (3, .int x3)]) hx hb dX10_ticks_108 hl (k := 4) rfl rfl (by decide) rfl (fun ls hl => ?_)
            refine lv_goto (tgt := 69) hx hb dX10_ticks_111 (by decide) ?_
            exact hL69 _ _ _ _ _ _ _ _ hw hP hS (lv_sub hl [1, 2, 3, 4, 0] rfl)
  have lab_17 : ∀ (n : Nat), ∀ (σ : St) (x1 : Int32) (H : Heap) (locs : List Loc) (ls : Array Slot), w_X10_ticks_17 K n σ x1 → va_P D vwCl ((wdM ad cI) σ) H → va_S (AW ad 40 s.heap.size) s.heap H locs → lv_has ls 5 [(0, .ref (ad 0)), (1, .int x1)] → W p l e (headSpec wsX10_ticks rm_X10_ticks).room s m ([.ref (ad 0), .int a1] : List Value).toArray below meth c H locs 0 0 (MQ below (va_Qi K (inW D (wdM ad cI) [(cI, .int)]) (AW ad 40 s.heap.size)) ([.ref (ad 0), .int a1] : List Value).toArray s 0 0 (AW ad 40 s.heap.size)) (F0 m 17 ls []) := by
    intro n
    induction n with
    | zero =>
      intro σ x1 H locs ls hw
      exact hw.elim
    | succ n hL17 =>
      intro σ x1 H locs ls hw hP hS hl
      have hw : b_X10_ticks_17 (w_X10_ticks_17 K n) K σ x1 := hw
      unfold b_X10_ticks_17 at hw
      generalize w_X10_ticks_17 K n = L17 at hw hL17
      refine lv_aload_n hx hb dX10_ticks_17 rfl (lv_at hl 0 rfl) ?_
      refine gM_X10_isStopped F hK iw_X10 hP f_f159 dX10_ticks_18 ?_
      refine W.eq (g2 := F0 m 21 ls [.int (gS σ 4)]) rfl ?_
      refine lv_if_ne (tgt := 137) hx hb dX10_ticks_21 (by decide) (fun c_14 => ?_) (fun c_14 => ?_)
      · have hw := hw.1 c_14
        refine lv_aload_n hx hb dX10_ticks_137 rfl (lv_at hl 0 rfl) ?_
        refine gM_X10_how F hK iw_X10 hP f_f153 dX10_ticks_138 ?_
        refine W.eq (g2 := F0 m 141 ls [.int (gS σ 5)]) rfl ?_
        exact rtI F hr hlocks hK hw hP hS dX10_ticks_141
      · have hw := hw.2 c_14
        refine lv_aload_n hx hb dX10_ticks_24 rfl (lv_at hl 0 rfl) ?_
        refine gM_X10_readyMany F hK iw_X10 hP f_f175 dX10_ticks_25 ?_
        refine W.eq (g2 := F0 m 28 ls [.int (gS σ 14)]) rfl ?_
        refine lv_if_le (tgt := 137) hx hb dX10_ticks_28 (by decide) (fun c_13 => ?_) (fun c_13 => ?_)
        · have hw := hw.1 c_13
          refine lv_aload_n hx hb dX10_ticks_137 rfl (lv_at hl 0 rfl) ?_
          refine gM_X10_how F hK iw_X10 hP f_f153 dX10_ticks_138 ?_
          refine W.eq (g2 := F0 m 141 ls [.int (gS σ 5)]) rfl ?_
          exact rtI F hr hlocks hK hw hP hS dX10_ticks_141
        · have hw := hw.2 c_13
          refine lv_aload_n hx hb dX10_ticks_31 rfl (lv_at hl 0 rfl) ?_
          refine gM_X10_steps F hK iw_X10 hP f_f245 dX10_ticks_32 ?_
          refine W.eq (g2 := F0 m 35 ls [.int (gS σ 6)]) rfl ?_
          refine lv_iload_n hx hb dX10_ticks_35 rfl (lv_at hl 1 rfl) ?_
          refine lv_icmp_ne (tgt := 49) hx hb dX10_ticks_36 (by decide) (fun c_12 => ?_) (fun c_12 => ?_)
          · have hw := hw.1 c_12
            refine lv_aload_n hx hb dX10_ticks_49 rfl (lv_at hl 0 rfl) ?_
            refine lv_dup hx hb dX10_ticks_50 rfl ?_
            refine gM_X10_ticked F hK iw_X10 hP f_f248 dX10_ticks_51 ?_
            refine W.eq (g2 := F0 m 54 ls [.int (gS σ 7), .ref (ad 0)]) rfl ?_
            refine lv_iconst (v := 1) hx hb dX10_ticks_54 (by decide) ?_
            refine lv_iadd hx hb dX10_ticks_55 ?_
            refine pM_X10_ticked F hK iw_X10 hP hDs hS f_f248 dX10_ticks_56 (fun H locs hP hS => ?_)
            refine lv_aload_n hx hb dX10_ticks_59 rfl (lv_at hl 0 rfl) ?_
            refine gM_X10_readyMany F hK iw_X10 hP f_f175 dX10_ticks_60 ?_
            refine W.eq (g2 := F0 m 63 ls [.int (gS σ 14)]) rfl ?_
            refine lv_istore_n (lv' := [(2, .int (gS σ 14)), (0, .ref (ad 0)), (1, .int x1)]) hx hb dX10_ticks_63 rfl hl (by decide) rfl (fun ls hl => ?_)
            refine lv_iconst (v := 0) hx hb dX10_ticks_64 (by decide) ?_
            refine lv_istore_n (lv' := [(3, .int 0), (2, .int (gS σ 14)), (0, .ref (ad 0)), (1, .int x1)]) hx hb dX10_ticks_65 rfl hl (by decide) rfl (fun ls hl => ?_)
            refine lv_iconst (v := 0) hx hb dX10_ticks_66 (by decide) ?_
            refine lv_istore (lv' := [(4, .int 0), (3, .int 0), (2, .int (gS σ 14)), (0, .ref (ad 0)), (1, .int x1)]) hx hb dX10_ticks_67 hl (by decide) rfl (fun ls hl => ?_)
            obtain ⟨n_9, hw⟩ := hw
            exact lab_69 L17 hL17 n_9 _ _ _ _ _ _ _ _ hw hP hS (lv_sub hl [3, 4, 2, 1, 0] rfl)
          · have hw := hw.2 c_12
            refine lv_aload_n hx hb dX10_ticks_39 rfl (lv_at hl 0 rfl) ?_
            refine lv_iconst (v := 3) hx hb dX10_ticks_40 (by decide) ?_
            refine lv_iconst (v := (-1)) hx hb dX10_ticks_41 (by decide) ?_
            refine cvI (As := [.int 3, .int (-1)]) (rest := []) F hK hP hS (c_X10_stops l D ad cI hap H.size _ _ _ _ hw) (cwV 2 hts gX10_ticks_X10_stops rfl rfl rfl (by decide +kernel) ⟨Nat.le_of_ble_eq_true rfl, Nat.le_of_ble_eq_true rfl⟩) (va_recv hK hP (ci := 7) (q0 := 0) rfl rfl) rfl hl.1 rfl (Nat.le_of_ble_eq_true rfl) dX10_ticks_42 ⟨Nat.zero_le _, Nat.zero_le _⟩ (fun r_11 u_10 H locs hw hP hS => ?_)
            obtain ⟨zr_11, hw⟩ := hw
            refine lv_pop hx hb dX10_ticks_45 rfl ?_
            refine lv_goto (tgt := 17) hx hb dX10_ticks_46 (by decide) ?_
            exact hL17 _ _ _ _ _ hw hP hS (lv_sub hl [0, 1] rfl)
  have hl := lv_entry ([.ref (ad 0), .int a1]) (n := 5) (Nat.le_of_ble_eq_true rfl)
  rw [lg_entry_eq]
  generalize (lg_sl ([.ref (ad 0), .int a1]) ++ List.replicate (5 - (lg_sl ([.ref (ad 0), .int a1])).length) Slot.unset).toArray = ls at hl ⊢
  have hl : lv_has ls 5 [(0, .ref (ad 0)), (1, .int a1)] := hl
  have key : ∀ (H : Heap), va_P D vwCl ((wdM ad cI) σ) H → va_S (AW ad 40 s.heap.size) s.heap H [] → W p l e (headSpec wsX10_ticks rm_X10_ticks).room s m ([.ref (ad 0), .int a1] : List Value).toArray below meth c H [] 0 0 (MQ below (va_Qi K (inW D (wdM ad cI) [(cI, .int)]) (AW ad 40 s.heap.size)) ([.ref (ad 0), .int a1] : List Value).toArray s 0 0 (AW ad 40 s.heap.size)) (F0 m 0 ls []) := by
    intro H hP hS
    unfold w_X10_ticks at hw
    refine lv_iload_n hx hb dX10_ticks_0 rfl (lv_at hl 1 rfl) ?_
    refine lv_iconst (v := 0) hx hb dX10_ticks_1 (by decide) ?_
    refine lv_sipush (v := 4000) hx hb dX10_ticks_2 (by decide) ?_
    refine csI (As := [.int a1, .int 0, .int 4000]) (rest := []) F hK hP hS (c_X10_in l D ad cI hap H.size _ _ _ _ _ hw) (va_cwS 3 hts gX10_ticks_X10_in rfl rfl rfl (by decide +kernel) ⟨Nat.le_of_ble_eq_true rfl, Nat.le_of_ble_eq_true rfl⟩) rfl hl.1 rfl (Nat.le_of_ble_eq_true rfl) dX10_ticks_5 ⟨Nat.zero_le _, Nat.zero_le _⟩ (fun r_16 u_15 H locs hw hP hS => ?_)
    obtain ⟨zr_16, hw⟩ := hw
    refine lv_if_ne (tgt := 13) hx hb dX10_ticks_8 (by decide) (fun c_20 => ?_) (fun c_20 => ?_)
    · have hw := hw.1 c_20
      refine lv_aload_n hx hb dX10_ticks_13 rfl (lv_at hl 0 rfl) ?_
      refine cvV (As := []) (rest := []) F hK hP hS (c_X10_begins l D ad cI hap H.size _ _ hw) (cwV 0 hts gX10_ticks_X10_begins rfl rfl rfl (by decide +kernel) ⟨Nat.le_of_ble_eq_true rfl, Nat.le_of_ble_eq_true rfl⟩) (va_recv hK hP (ci := 7) (q0 := 0) rfl rfl) rfl hl.1 rfl (Nat.le_of_ble_eq_true rfl) dX10_ticks_14 ⟨Nat.zero_le _, Nat.zero_le _⟩ (fun u_17 H locs hw hP hS => ?_)
      obtain ⟨n_19, hw⟩ := hw
      exact lab_17 n_19 _ _ _ _ _ hw hP hS (lv_sub hl [0, 1] rfl)
    · have hw := hw.2 c_20
      refine lv_iconst (v := (-1)) hx hb dX10_ticks_11 (by decide) ?_
      exact rtI F hr hlocks hK hw hP hS dX10_ticks_12
  exact key s.heap hP hS

abbrev rm_X10_left : Room := { frames := 0, cells := 0, slots := 0, locals := 0 }
set_option maxHeartbeats 4000000 in
set_option maxRecDepth 100000 in
theorem c_X10_left (l : Launch) (D : va_G) (ad : Nat → Nat) (cI : ClassId) (hap : apart ad 40) (sz : Nat) (σ : St) (K : Int32 → St → Prop) (hw : w_X10_left σ K) : Met l yX10_left wsX10_left rm_X10_left (va_Pc [.ref (ad 0)] (fun U => U.heap.size = sz ∧ inW D (wdM ad cI) [(cI, .int)] σ U)) (va_Qi K (inW D (wdM ad cI) [(cI, .int)]) (AW ad 40 sz)) 0 0 (AW ad 40 sz) := by
  refine Met.ofW (cc := cX10_left) (maxL := 4) (ret := (some .int)) (by decide) rfl ?_
  intro p e s m args below meth c s₁ B hml hv
  obtain ⟨rfl, hsz, ⟨hP, hK⟩⟩ := hv
  have F : CallFix p m c cX10_left 4 s ([.ref (ad 0)] : List Value).toArray wsX10_left RX10 := ⟨B.exec, B.bytes, hml, findClass_of_methodNamed B.named, atoms_spec (ws := wsX10_left) B.pre⟩
  have hx := F.1
  have hb := F.2.1
  have hown := F.2.2.2.1
  have hts := F.2.2.2.2
  have hr := B.returns
  have hlocks := B.notSynchronized
  subst hsz
  have hDs : ∀ σ, va_D (AW ad 40 s.heap.size) ((wdM ad cI) σ) := fun σ => wdM_D hap σ
  have hS : va_S (AW ad 40 s.heap.size) s.heap s.heap [] := va_S.rf
  have iw_X10 : ∀ w ∈ u_ws RX10 TX10 57, w ∈ wsX10_left := by decide +kernel
  have f_f169 := hts (.fieldLink RX10 169 "TokenFloorModel" "pairs" "I") (by decide +kernel)
  have f_f58 := hts (.fieldLink RX10 58 "TokenFloorModel" "pHas" "[I") (by decide +kernel)
  have f_f61 := hts (.fieldLink RX10 61 "TokenFloorModel" "pHow" "[I") (by decide +kernel)
  have lab_14 : ∀ (L4 : St → Int32 → Int32 → Prop) (hL4 : ∀ (σ : St) (x1 : Int32) (x2 : Int32) (H : Heap) (locs : List Loc) (ls : Array Slot), L4 σ x1 x2 → va_P D vwCl ((wdM ad cI) σ) H → va_S (AW ad 40 s.heap.size) s.heap H locs → lv_has ls 4 [(0, .ref (ad 0)), (1, .int x1), (2, .int x2)] → W p l e (headSpec wsX10_left rm_X10_left).room s m ([.ref (ad 0)] : List Value).toArray below meth c H locs 0 0 (MQ below (va_Qi K (inW D (wdM ad cI) [(cI, .int)]) (AW ad 40 s.heap.size)) ([.ref (ad 0)] : List Value).toArray s 0 0 (AW ad 40 s.heap.size)) (F0 m 4 ls [])) (n : Nat), ∀ (σ : St) (x1 : Int32) (x2 : Int32) (x3 : Int32) (H : Heap) (locs : List Loc) (ls : Array Slot), w_X10_left_14 L4 K n σ x1 x2 x3 → va_P D vwCl ((wdM ad cI) σ) H → va_S (AW ad 40 s.heap.size) s.heap H locs → lv_has ls 4 [(0, .ref (ad 0)), (1, .int x1), (2, .int x2), (3, .int x3)] → W p l e (headSpec wsX10_left rm_X10_left).room s m ([.ref (ad 0)] : List Value).toArray below meth c H locs 0 0 (MQ below (va_Qi K (inW D (wdM ad cI) [(cI, .int)]) (AW ad 40 s.heap.size)) ([.ref (ad 0)] : List Value).toArray s 0 0 (AW ad 40 s.heap.size)) (F0 m 14 ls []) := by
    intro L4 hL4
    intro n
    induction n with
    | zero =>
      intro σ x1 x2 x3 H locs ls hw
      exact hw.elim
    | succ n hL14 =>
      intro σ x1 x2 x3 H locs ls hw hP hS hl
      have hw : b_X10_left_14 L4 (w_X10_left_14 L4 K n) K σ x1 x2 x3 := hw
      unfold b_X10_left_14 at hw
      generalize w_X10_left_14 L4 K n = L14 at hw hL14
      refine lv_iload_n hx hb dX10_left_14 rfl (lv_at hl 3 rfl) ?_
      refine lv_iconst (v := 3) hx hb dX10_left_15 (by decide) ?_
      refine lv_icmp_ge (tgt := 47) hx hb dX10_left_16 (by decide) (fun c_5 => ?_) (fun c_5 => ?_)
      · have hw := hw.1 c_5
        refine lv_iinc (v := (x2 + 1)) (lv' := [(2, .int (x2 + 1)), (0, .ref (ad 0)), (1, .int x1), (3, .int x3)]) hx hb dX10_left_47 hl (k := 2) rfl rfl (by decide) rfl (fun ls hl => ?_)
        refine lv_goto (tgt := 4) hx hb dX10_left_50 (by decide) ?_
        exact hL4 _ _ _ _ _ _ hw hP hS (lv_sub hl [1, 2, 0] rfl)
      · have hw := hw.2 c_5
        refine lv_aload_n hx hb dX10_left_19 rfl (lv_at hl 0 rfl) ?_
        refine gM_X10_pHow F hK iw_X10 hP f_f61 dX10_left_20 ?_
        refine lv_iload_n hx hb dX10_left_23 rfl (lv_at hl 2 rfl) ?_
        obtain ⟨i_4, hw⟩ := hw
        refine lM_X10_pHow F hK hP i_4 dX10_left_24 ?_
        refine lv_if_ne (tgt := 47) hx hb dX10_left_25 (by decide) (fun c_3 => ?_) (fun c_3 => ?_)
        · have hw := hw.1 c_3
          refine lv_iinc (v := (x2 + 1)) (lv' := [(2, .int (x2 + 1)), (0, .ref (ad 0)), (1, .int x1), (3, .int x3)]) hx hb dX10_left_47 hl (k := 2) rfl rfl (by decide) rfl (fun ls hl => ?_)
          refine lv_goto (tgt := 4) hx hb dX10_left_50 (by decide) ?_
          exact hL4 _ _ _ _ _ _ hw hP hS (lv_sub hl [1, 2, 0] rfl)
        · have hw := hw.2 c_3
          refine lv_iload_n hx hb dX10_left_28 rfl (lv_at hl 1 rfl) ?_
          refine lv_aload_n hx hb dX10_left_29 rfl (lv_at hl 0 rfl) ?_
          refine gM_X10_pHas F hK iw_X10 hP f_f58 dX10_left_30 ?_
          refine lv_iload_n hx hb dX10_left_33 rfl (lv_at hl 2 rfl) ?_
          obtain ⟨i_2, hw⟩ := hw
          refine lM_X10_pHas F hK hP i_2 dX10_left_34 ?_
          refine lv_iload_n hx hb dX10_left_35 rfl (lv_at hl 3 rfl) ?_
          refine lv_ishr hx hb dX10_left_36 ?_
          refine lv_iconst (v := 1) hx hb dX10_left_37 (by decide) ?_
          refine lv_iand hx hb dX10_left_38 ?_
          refine lv_iadd hx hb dX10_left_39 ?_
          refine lv_topi (fun x_1 ex_1 => ?_)
          have hw := hw x_1 ex_1
          refine lv_istore_n (lv' := [(1, .int x_1), (0, .ref (ad 0)), (2, .int x2), (3, .int x3)]) hx hb dX10_left_40 rfl hl (by decide) rfl (fun ls hl => ?_)
          refine lv_iinc (v := (x3 + 1)) (lv' := [(3, .int (x3 + 1)), (1, .int x_1), (0, .ref (ad 0)), (2, .int x2)]) hx hb dX10_left_41 hl (k := 3) rfl rfl (by decide) rfl (fun ls hl => ?_)
          refine lv_goto (tgt := 14) hx hb dX10_left_44 (by decide) ?_
          exact hL14 _ _ _ _ _ _ _ hw hP hS (lv_sub hl [2, 1, 3, 0] rfl)
  have lab_4 : ∀ (n : Nat), ∀ (σ : St) (x1 : Int32) (x2 : Int32) (H : Heap) (locs : List Loc) (ls : Array Slot), w_X10_left_4 K n σ x1 x2 → va_P D vwCl ((wdM ad cI) σ) H → va_S (AW ad 40 s.heap.size) s.heap H locs → lv_has ls 4 [(0, .ref (ad 0)), (1, .int x1), (2, .int x2)] → W p l e (headSpec wsX10_left rm_X10_left).room s m ([.ref (ad 0)] : List Value).toArray below meth c H locs 0 0 (MQ below (va_Qi K (inW D (wdM ad cI) [(cI, .int)]) (AW ad 40 s.heap.size)) ([.ref (ad 0)] : List Value).toArray s 0 0 (AW ad 40 s.heap.size)) (F0 m 4 ls []) := by
    intro n
    induction n with
    | zero =>
      intro σ x1 x2 H locs ls hw
      exact hw.elim
    | succ n hL4 =>
      intro σ x1 x2 H locs ls hw hP hS hl
      have hw : b_X10_left_4 (w_X10_left_4 K n) K σ x1 x2 := hw
      unfold b_X10_left_4 at hw
      generalize w_X10_left_4 K n = L4 at hw hL4
      refine lv_iload_n hx hb dX10_left_4 rfl (lv_at hl 2 rfl) ?_
      refine lv_aload_n hx hb dX10_left_5 rfl (lv_at hl 0 rfl) ?_
      refine gM_X10_pairs F hK iw_X10 hP f_f169 dX10_left_6 ?_
      refine W.eq (g2 := F0 m 9 ls [.int (gS σ 13), .int x2]) rfl ?_
      refine lv_icmp_ge (tgt := 53) hx hb dX10_left_9 (by decide) (fun c_7 => ?_) (fun c_7 => ?_)
      · have hw := hw.1 c_7
        refine lv_iload_n hx hb dX10_left_53 rfl (lv_at hl 1 rfl) ?_
        exact rtI F hr hlocks hK hw hP hS dX10_left_54
      · have hw := hw.2 c_7
        refine lv_iconst (v := 0) hx hb dX10_left_12 (by decide) ?_
        refine lv_istore_n (lv' := [(3, .int 0), (0, .ref (ad 0)), (1, .int x1), (2, .int x2)]) hx hb dX10_left_13 rfl hl (by decide) rfl (fun ls hl => ?_)
        obtain ⟨n_6, hw⟩ := hw
        exact lab_14 L4 hL4 n_6 _ _ _ _ _ _ _ hw hP hS (lv_sub hl [1, 2, 3, 0] rfl)
  have hl := lv_entry ([.ref (ad 0)]) (n := 4) (Nat.le_of_ble_eq_true rfl)
  rw [lg_entry_eq]
  generalize (lg_sl ([.ref (ad 0)]) ++ List.replicate (4 - (lg_sl ([.ref (ad 0)])).length) Slot.unset).toArray = ls at hl ⊢
  have hl : lv_has ls 4 [(0, .ref (ad 0))] := hl
  have key : ∀ (H : Heap), va_P D vwCl ((wdM ad cI) σ) H → va_S (AW ad 40 s.heap.size) s.heap H [] → W p l e (headSpec wsX10_left rm_X10_left).room s m ([.ref (ad 0)] : List Value).toArray below meth c H [] 0 0 (MQ below (va_Qi K (inW D (wdM ad cI) [(cI, .int)]) (AW ad 40 s.heap.size)) ([.ref (ad 0)] : List Value).toArray s 0 0 (AW ad 40 s.heap.size)) (F0 m 0 ls []) := by
    intro H hP hS
    unfold w_X10_left at hw
    refine lv_iconst (v := 0) hx hb dX10_left_0 (by decide) ?_
    refine lv_istore_n (lv' := [(1, .int 0), (0, .ref (ad 0))]) hx hb dX10_left_1 rfl hl (by decide) rfl (fun ls hl => ?_)
    refine lv_iconst (v := 0) hx hb dX10_left_2 (by decide) ?_
    refine lv_istore_n (lv' := [(2, .int 0), (1, .int 0), (0, .ref (ad 0))]) hx hb dX10_left_3 rfl hl (by decide) rfl (fun ls hl => ?_)
    obtain ⟨n_8, hw⟩ := hw
    exact lab_4 n_8 _ _ _ _ _ _ hw hP hS (lv_sub hl [2, 1, 0] rfl)
  exact key s.heap hP hS

abbrev rm_X10_waiting : Room := { frames := 0, cells := 0, slots := 0, locals := 0 }
set_option maxHeartbeats 4000000 in
set_option maxRecDepth 100000 in
theorem c_X10_waiting (l : Launch) (D : va_G) (ad : Nat → Nat) (cI : ClassId) (hap : apart ad 40) (sz : Nat) (σ : St) (K : Int32 → St → Prop) (hw : w_X10_waiting σ K) : Met l yX10_waiting wsX10_waiting rm_X10_waiting (va_Pc [.ref (ad 0)] (fun U => U.heap.size = sz ∧ inW D (wdM ad cI) [(cI, .int)] σ U)) (va_Qi K (inW D (wdM ad cI) [(cI, .int)]) (AW ad 40 sz)) 0 0 (AW ad 40 sz) := by
  refine Met.ofW (cc := cX10_waiting) (maxL := 3) (ret := (some .int)) (by decide) rfl ?_
  intro p e s m args below meth c s₁ B hml hv
  obtain ⟨rfl, hsz, ⟨hP, hK⟩⟩ := hv
  have F : CallFix p m c cX10_waiting 3 s ([.ref (ad 0)] : List Value).toArray wsX10_waiting RX10 := ⟨B.exec, B.bytes, hml, findClass_of_methodNamed B.named, atoms_spec (ws := wsX10_waiting) B.pre⟩
  have hx := F.1
  have hb := F.2.1
  have hown := F.2.2.2.1
  have hts := F.2.2.2.2
  have hr := B.returns
  have hlocks := B.notSynchronized
  subst hsz
  have hDs : ∀ σ, va_D (AW ad 40 s.heap.size) ((wdM ad cI) σ) := fun σ => wdM_D hap σ
  have hS : va_S (AW ad 40 s.heap.size) s.heap s.heap [] := va_S.rf
  have iw_X10 : ∀ w ∈ u_ws RX10 TX10 57, w ∈ wsX10_waiting := by decide +kernel
  have f_f106 := hts (.fieldLink RX10 106 "TokenFloorModel" "readCell" "[I") (by decide +kernel)
  have f_f242 := hts (.fieldLink RX10 242 "TokenFloorModel" "readers" "I") (by decide +kernel)
  have lab_4 : ∀ (n : Nat), ∀ (σ : St) (x1 : Int32) (x2 : Int32) (H : Heap) (locs : List Loc) (ls : Array Slot), w_X10_waiting_4 K n σ x1 x2 → va_P D vwCl ((wdM ad cI) σ) H → va_S (AW ad 40 s.heap.size) s.heap H locs → lv_has ls 3 [(0, .ref (ad 0)), (1, .int x1), (2, .int x2)] → W p l e (headSpec wsX10_waiting rm_X10_waiting).room s m ([.ref (ad 0)] : List Value).toArray below meth c H locs 0 0 (MQ below (va_Qi K (inW D (wdM ad cI) [(cI, .int)]) (AW ad 40 s.heap.size)) ([.ref (ad 0)] : List Value).toArray s 0 0 (AW ad 40 s.heap.size)) (F0 m 4 ls []) := by
    intro n
    induction n with
    | zero =>
      intro σ x1 x2 H locs ls hw
      exact hw.elim
    | succ n hL4 =>
      intro σ x1 x2 H locs ls hw hP hS hl
      have hw : b_X10_waiting_4 (w_X10_waiting_4 K n) K σ x1 x2 := hw
      unfold b_X10_waiting_4 at hw
      generalize w_X10_waiting_4 K n = L4 at hw hL4
      refine lv_iload_n hx hb dX10_waiting_4 rfl (lv_at hl 2 rfl) ?_
      refine lv_aload_n hx hb dX10_waiting_5 rfl (lv_at hl 0 rfl) ?_
      refine gM_X10_readers F hK iw_X10 hP f_f242 dX10_waiting_6 ?_
      refine W.eq (g2 := F0 m 9 ls [.int (gS σ 17), .int x2]) rfl ?_
      refine lv_icmp_ge (tgt := 35) hx hb dX10_waiting_9 (by decide) (fun c_3 => ?_) (fun c_3 => ?_)
      · have hw := hw.1 c_3
        refine lv_iload_n hx hb dX10_waiting_35 rfl (lv_at hl 1 rfl) ?_
        exact rtI F hr hlocks hK hw hP hS dX10_waiting_36
      · have hw := hw.2 c_3
        refine lv_iload_n hx hb dX10_waiting_12 rfl (lv_at hl 1 rfl) ?_
        refine lv_aload_n hx hb dX10_waiting_13 rfl (lv_at hl 0 rfl) ?_
        refine gM_X10_readCell F hK iw_X10 hP f_f106 dX10_waiting_14 ?_
        refine lv_iload_n hx hb dX10_waiting_17 rfl (lv_at hl 2 rfl) ?_
        obtain ⟨i_2, hw⟩ := hw
        refine lM_X10_readCell F hK hP i_2 dX10_waiting_18 ?_
        refine lv_if_lt (tgt := 26) hx hb dX10_waiting_19 (by decide) (fun c_1 => ?_) (fun c_1 => ?_)
        · have hw := hw.1 c_1
          refine lv_iconst (v := 0) hx hb dX10_waiting_26 (by decide) ?_
          refine lv_iadd hx hb dX10_waiting_27 ?_
          refine lv_istore_n (lv' := [(1, .int (x1 + 0)), (0, .ref (ad 0)), (2, .int x2)]) hx hb dX10_waiting_28 rfl hl (by decide) rfl (fun ls hl => ?_)
          refine lv_iinc (v := (x2 + 1)) (lv' := [(2, .int (x2 + 1)), (1, .int (x1 + 0)), (0, .ref (ad 0))]) hx hb dX10_waiting_29 hl (k := 2) rfl rfl (by decide) rfl (fun ls hl => ?_)
          refine lv_goto (tgt := 4) hx hb dX10_waiting_32 (by decide) ?_
          exact hL4 _ _ _ _ _ _ hw hP hS (lv_sub hl [2, 1, 0] rfl)
        · have hw := hw.2 c_1
          refine lv_iconst (v := 1) hx hb dX10_waiting_22 (by decide) ?_
          refine lv_goto (tgt := 27) hx hb dX10_waiting_23 (by decide) ?_
          refine lv_iadd hx hb dX10_waiting_27 ?_
          refine lv_istore_n (lv' := [(1, .int (x1 + 1)), (0, .ref (ad 0)), (2, .int x2)]) hx hb dX10_waiting_28 rfl hl (by decide) rfl (fun ls hl => ?_)
          refine lv_iinc (v := (x2 + 1)) (lv' := [(2, .int (x2 + 1)), (1, .int (x1 + 1)), (0, .ref (ad 0))]) hx hb dX10_waiting_29 hl (k := 2) rfl rfl (by decide) rfl (fun ls hl => ?_)
          refine lv_goto (tgt := 4) hx hb dX10_waiting_32 (by decide) ?_
          exact hL4 _ _ _ _ _ _ hw hP hS (lv_sub hl [2, 1, 0] rfl)
  have hl := lv_entry ([.ref (ad 0)]) (n := 3) (Nat.le_of_ble_eq_true rfl)
  rw [lg_entry_eq]
  generalize (lg_sl ([.ref (ad 0)]) ++ List.replicate (3 - (lg_sl ([.ref (ad 0)])).length) Slot.unset).toArray = ls at hl ⊢
  have hl : lv_has ls 3 [(0, .ref (ad 0))] := hl
  have key : ∀ (H : Heap), va_P D vwCl ((wdM ad cI) σ) H → va_S (AW ad 40 s.heap.size) s.heap H [] → W p l e (headSpec wsX10_waiting rm_X10_waiting).room s m ([.ref (ad 0)] : List Value).toArray below meth c H [] 0 0 (MQ below (va_Qi K (inW D (wdM ad cI) [(cI, .int)]) (AW ad 40 s.heap.size)) ([.ref (ad 0)] : List Value).toArray s 0 0 (AW ad 40 s.heap.size)) (F0 m 0 ls []) := by
    intro H hP hS
    unfold w_X10_waiting at hw
    refine lv_iconst (v := 0) hx hb dX10_waiting_0 (by decide) ?_
    refine lv_istore_n (lv' := [(1, .int 0), (0, .ref (ad 0))]) hx hb dX10_waiting_1 rfl hl (by decide) rfl (fun ls hl => ?_)
    refine lv_iconst (v := 0) hx hb dX10_waiting_2 (by decide) ?_
    refine lv_istore_n (lv' := [(2, .int 0), (1, .int 0), (0, .ref (ad 0))]) hx hb dX10_waiting_3 rfl hl (by decide) rfl (fun ls hl => ?_)
    obtain ⟨n_4, hw⟩ := hw
    exact lab_4 n_4 _ _ _ _ _ _ hw hP hS (lv_sub hl [2, 1, 0] rfl)
  exact key s.heap hP hS
