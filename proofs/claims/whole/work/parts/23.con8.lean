abbrev rm_X4_comparable : Room := { frames := 1, cells := 0, slots := 0, locals := 21 }
set_option maxHeartbeats 4000000 in
set_option maxRecDepth 100000 in
theorem c_X4_comparable (l : Launch) (D : va_G) (ad : Nat → Nat) (cI cJ : ClassId) (hap : apart ad 42) (sz : Nat) (σ : St) (a1 : Int64) (K : Int64 → St → Prop) (hw : w_X4_comparable σ a1 K) : Met l yX4_comparable wsX4_comparable rm_X4_comparable (va_Pc [.ref (ad 2), .long a1] (fun U => U.heap.size = sz ∧ inW D (wdC ad cI cJ) [(cI, .int), (cJ, .long)] σ U)) (va_Ql K (inW D (wdC ad cI cJ) [(cI, .int), (cJ, .long)]) (AW ad 42 sz)) 0 0 (AW ad 42 sz) := by
  refine Met.ofW (cc := cX4_comparable) (maxL := 3) (ret := (some .long)) (by decide) rfl ?_
  intro p e s m args below meth c s₁ B hml hv
  obtain ⟨rfl, hsz, ⟨hP, hK⟩⟩ := hv
  have F : CallFix p m c cX4_comparable 3 s ([.ref (ad 2), .long a1] : List Value).toArray wsX4_comparable RX4 := ⟨B.exec, B.bytes, hml, findClass_of_methodNamed B.named, atoms_spec (ws := wsX4_comparable) B.pre⟩
  have hx := F.1
  have hb := F.2.1
  have hown := F.2.2.2.1
  have hts := F.2.2.2.2
  have hr := B.returns
  have hlocks := B.notSynchronized
  subst hsz
  have hDs : ∀ σ, va_D (AW ad 42 s.heap.size) ((wdC ad cI cJ) σ) := fun σ => wdC_D hap σ
  have hS : va_S (AW ad 42 s.heap.size) s.heap s.heap [] := va_S.rf
  have iw_X4 : ∀ w ∈ u_ws RX4 TX4 14, w ∈ wsX4_comparable := by decide +kernel
  have f_f12 := hts (.fieldLink RX4 12 "TokenFloor$Machine" "store" "LTokenFloor$Store;") (by decide +kernel)
  have hl := lv_entry ([.ref (ad 2), .long a1]) (n := 3) (Nat.le_of_ble_eq_true rfl)
  rw [lg_entry_eq]
  generalize (lg_sl ([.ref (ad 2), .long a1]) ++ List.replicate (3 - (lg_sl ([.ref (ad 2), .long a1])).length) Slot.unset).toArray = ls at hl ⊢
  have hl : lv_has ls 3 [(0, .ref (ad 2)), (1, .long a1)] := hl
  have key : ∀ (H : Heap), va_P D vwCl ((wdC ad cI cJ) σ) H → va_S (AW ad 42 s.heap.size) s.heap H [] → W p l e (headSpec wsX4_comparable rm_X4_comparable).room s m ([.ref (ad 2), .long a1] : List Value).toArray below meth c H [] 0 0 (MQ below (va_Ql K (inW D (wdC ad cI cJ) [(cI, .int), (cJ, .long)]) (AW ad 42 s.heap.size)) ([.ref (ad 2), .long a1] : List Value).toArray s 0 0 (AW ad 42 s.heap.size)) (F0 m 0 ls []) := by
    intro H hP hS
    unfold w_X4_comparable at hw
    refine lv_lload_n hx hb dX4_comparable_0 rfl (lv_at hl 1 rfl) ?_
    refine csI (As := [.long a1]) (rest := []) F hK hP hS (c_X8_sortOf l D ad cI cJ hap H.size _ _ _ hw) (va_cwS 1 hts gX4_comparable_X8_sortOf rfl rfl rfl (by decide +kernel) ⟨Nat.le_of_ble_eq_true rfl, Nat.le_of_ble_eq_true rfl⟩) rfl hl.1 rfl (Nat.le_of_ble_eq_true rfl) dX4_comparable_1 ⟨Nat.zero_le _, Nat.zero_le _⟩ (fun r_2 u_1 H locs hw hP hS => ?_)
    refine lv_iconst (v := 2) hx hb dX4_comparable_4 (by decide) ?_
    refine lv_icmp_eq (tgt := 10) hx hb dX4_comparable_5 (by decide) (fun c_9 => ?_) (fun c_9 => ?_)
    · have hw := hw.1 c_9
      refine lv_aload_n hx hb dX4_comparable_10 rfl (lv_at hl 0 rfl) ?_
      refine gC_X4_store F hK iw_X4 hP f_f12 dX4_comparable_11 ?_
      refine lv_lload_n hx hb dX4_comparable_14 rfl (lv_at hl 1 rfl) ?_
      refine csI (As := [.long a1]) (rest := [.ref (ad 3)]) F hK hP hS (c_X8_contentOf l D ad cI cJ hap H.size _ _ _ hw) (va_cwS 1 hts gX4_comparable_X8_contentOf rfl rfl rfl (by decide +kernel) ⟨Nat.le_of_ble_eq_true rfl, Nat.le_of_ble_eq_true rfl⟩) rfl hl.1 rfl (Nat.le_of_ble_eq_true rfl) dX4_comparable_15 ⟨Nat.zero_le _, Nat.zero_le _⟩ (fun r_4 u_3 H locs hw hP hS => ?_)
      refine cvI (As := [.int r_4]) (rest := []) F hK hP hS (c_X6_sizeOf l D ad cI cJ hap H.size _ _ _ hw) (cwV 1 hts gX4_comparable_X6_sizeOf rfl rfl rfl (by decide +kernel) ⟨Nat.le_of_ble_eq_true rfl, Nat.le_of_ble_eq_true rfl⟩) (va_recv hK hP (ci := 5) (q0 := 3) rfl rfl) rfl hl.1 rfl (Nat.le_of_ble_eq_true rfl) dX4_comparable_18 ⟨Nat.zero_le _, Nat.zero_le _⟩ (fun r_6 u_5 H locs hw hP hS => ?_)
      refine csL (As := [.int r_6]) (rest := []) F hK hP hS (c_X8_ofRow l D ad cI cJ hap H.size _ _ _ hw) (va_cwS 1 hts gX4_comparable_X8_ofRow rfl rfl rfl (by decide +kernel) ⟨Nat.le_of_ble_eq_true rfl, Nat.le_of_ble_eq_true rfl⟩) rfl hl.1 rfl (Nat.le_of_ble_eq_true rfl) dX4_comparable_21 ⟨Nat.zero_le _, Nat.zero_le _⟩ (fun r_8 u_7 H locs hw hP hS => ?_)
      exact rtL F hr hlocks hK hw hP hS dX4_comparable_24
    · have hw := hw.2 c_9
      refine lv_lload_n hx hb dX4_comparable_8 rfl (lv_at hl 1 rfl) ?_
      exact rtL F hr hlocks hK hw hP hS dX4_comparable_9
  exact key s.heap hP hS

abbrev rm_X4_copyFigures_figuresA : Room := { frames := 2, cells := 0, slots := 0, locals := 43 }
set_option maxHeartbeats 4000000 in
set_option maxRecDepth 100000 in
theorem c_X4_copyFigures_figuresA (l : Launch) (D : va_G) (ad : Nat → Nat) (cI cJ : ClassId) (hap : apart ad 42) (sz : Nat) (σ : St) (K : St → Prop) (hw : w_X4_copyFigures_figuresA σ K) : Met l yX4_copyFigures wsX4_copyFigures rm_X4_copyFigures_figuresA (va_Pc [.ref (ad 2), .ref (ad 7)] (fun U => U.heap.size = sz ∧ inW D (wdC ad cI cJ) [(cI, .int), (cJ, .long)] σ U)) (va_Qv K (inW D (wdC ad cI cJ) [(cI, .int), (cJ, .long)]) (AW ad 42 sz)) 0 0 (AW ad 42 sz) := by
  refine Met.ofW (cc := cX4_copyFigures) (maxL := 3) (ret := none) (by decide) rfl ?_
  intro p e s m args below meth c s₁ B hml hv
  obtain ⟨rfl, hsz, ⟨hP, hK⟩⟩ := hv
  have F : CallFix p m c cX4_copyFigures 3 s ([.ref (ad 2), .ref (ad 7)] : List Value).toArray wsX4_copyFigures RX4 := ⟨B.exec, B.bytes, hml, findClass_of_methodNamed B.named, atoms_spec (ws := wsX4_copyFigures) B.pre⟩
  have hx := F.1
  have hb := F.2.1
  have hown := F.2.2.2.1
  have hts := F.2.2.2.2
  have hr := B.returns
  have hlocks := B.notSynchronized
  subst hsz
  have hDs : ∀ σ, va_D (AW ad 42 s.heap.size) ((wdC ad cI cJ) σ) := fun σ => wdC_D hap σ
  have hS : va_S (AW ad 42 s.heap.size) s.heap s.heap [] := va_S.rf
  have iw_X1 : ∀ w ∈ u_ws RX1 TX1 8, w ∈ wsX4_copyFigures := by decide +kernel
  have iw_X4 : ∀ w ∈ u_ws RX4 TX4 14, w ∈ wsX4_copyFigures := by decide +kernel
  have iw_X6 : ∀ w ∈ u_ws RX6 TX6 10, w ∈ wsX4_copyFigures := by decide +kernel
  have f_f12 := hts (.fieldLink RX4 12 "TokenFloor$Machine" "store" "LTokenFloor$Store;") (by decide +kernel)
  have f_f18 := hts (.fieldLink RX4 18 "TokenFloor$Machine" "firings" "[I") (by decide +kernel)
  have f_f22 := hts (.fieldLink RX4 22 "TokenFloor$Machine" "ends" "[J") (by decide +kernel)
  have f_f36 := hts (.fieldLink RX4 36 "TokenFloor$Machine" "floor" "LTokenFloor$Floor;") (by decide +kernel)
  have f_f71 := hts (.fieldLink RX4 71 "TokenFloor$Machine" "steps" "I") (by decide +kernel)
  have f_f78 := hts (.fieldLink RX4 78 "TokenFloor$Machine" "how" "I") (by decide +kernel)
  have f_f87 := hts (.fieldLink RX4 87 "TokenFloor$Floor" "left" "I") (by decide +kernel)
  have f_f90 := hts (.fieldLink RX4 90 "TokenFloor$Store" "waiting" "I") (by decide +kernel)
  have f_f93 := hts (.fieldLink RX4 93 "TokenFloor$Machine" "lost" "I") (by decide +kernel)
  have f_f96 := hts (.fieldLink RX4 96 "TokenFloor$Machine" "strays" "I") (by decide +kernel)
  have lab_86 : ∀ (n : Nat), ∀ (σ : St) (x2 : Int32) (H : Heap) (locs : List Loc) (ls : Array Slot), w_X4_copyFigures_figuresA_86 K n σ x2 → va_P D vwCl ((wdC ad cI cJ) σ) H → va_S (AW ad 42 s.heap.size) s.heap H locs → lv_has ls 3 [(0, .ref (ad 2)), (1, .ref (ad 7)), (2, .int x2)] → W p l e (headSpec wsX4_copyFigures rm_X4_copyFigures_figuresA).room s m ([.ref (ad 2), .ref (ad 7)] : List Value).toArray below meth c H locs 0 0 (MQ below (va_Qv K (inW D (wdC ad cI cJ) [(cI, .int), (cJ, .long)]) (AW ad 42 s.heap.size)) ([.ref (ad 2), .ref (ad 7)] : List Value).toArray s 0 0 (AW ad 42 s.heap.size)) (F0 m 86 ls []) := by
    intro n
    induction n with
    | zero =>
      intro σ x2 H locs ls hw
      exact hw.elim
    | succ n hL86 =>
      intro σ x2 H locs ls hw hP hS hl
      have hw : b_X4_copyFigures_figuresA_86 (w_X4_copyFigures_figuresA_86 K n) K σ x2 := hw
      unfold b_X4_copyFigures_figuresA_86 at hw
      generalize w_X4_copyFigures_figuresA_86 K n = L86 at hw hL86
      refine lv_iload_n hx hb dX4_copyFigures_86 rfl (lv_at hl 2 rfl) ?_
      refine lv_bipush (v := 80) hx hb dX4_copyFigures_87 (by decide) ?_
      refine lv_icmp_ge (tgt := 111) hx hb dX4_copyFigures_89 (by decide) (fun c_3 => ?_) (fun c_3 => ?_)
      · have hw := hw.1 c_3
        exact rtV F hr hlocks hK hw hP hS dX4_copyFigures_111
      · have hw := hw.2 c_3
        refine lv_aload_n hx hb dX4_copyFigures_92 rfl (lv_at hl 1 rfl) ?_
        refine lv_bipush (v := 20) hx hb dX4_copyFigures_93 (by decide) ?_
        refine lv_iload_n hx hb dX4_copyFigures_95 rfl (lv_at hl 2 rfl) ?_
        refine lv_iadd hx hb dX4_copyFigures_96 ?_
        refine lv_aload_n hx hb dX4_copyFigures_97 rfl (lv_at hl 0 rfl) ?_
        refine gC_X4_firings F hK iw_X4 hP f_f18 dX4_copyFigures_98 ?_
        refine lv_iload_n hx hb dX4_copyFigures_101 rfl (lv_at hl 2 rfl) ?_
        obtain ⟨i_2, hw⟩ := hw
        refine lC_X4_firings F hK hP i_2 dX4_copyFigures_102 ?_
        refine lv_i2l hx hb dX4_copyFigures_103 rfl ?_
        obtain ⟨i_1, hw⟩ := hw
        refine sC_X9_figuresA F hK hP hDs hS i_1 dX4_copyFigures_104 (fun H locs hP hS => ?_)
        refine lv_iinc (v := (x2 + 1)) (lv' := [(2, .int (x2 + 1)), (0, .ref (ad 2)), (1, .ref (ad 7))]) hx hb dX4_copyFigures_105 hl (k := 2) rfl rfl (by decide) rfl (fun ls hl => ?_)
        refine lv_goto (tgt := 86) hx hb dX4_copyFigures_108 (by decide) ?_
        exact hL86 _ _ _ _ _ hw hP hS (lv_sub hl [1, 2, 0] rfl)
  have lab_56 : ∀ (n : Nat), ∀ (σ : St) (x2 : Int32) (H : Heap) (locs : List Loc) (ls : Array Slot), w_X4_copyFigures_figuresA_56 K n σ x2 → va_P D vwCl ((wdC ad cI cJ) σ) H → va_S (AW ad 42 s.heap.size) s.heap H locs → lv_has ls 3 [(0, .ref (ad 2)), (1, .ref (ad 7)), (2, .int x2)] → W p l e (headSpec wsX4_copyFigures rm_X4_copyFigures_figuresA).room s m ([.ref (ad 2), .ref (ad 7)] : List Value).toArray below meth c H locs 0 0 (MQ below (va_Qv K (inW D (wdC ad cI cJ) [(cI, .int), (cJ, .long)]) (AW ad 42 s.heap.size)) ([.ref (ad 2), .ref (ad 7)] : List Value).toArray s 0 0 (AW ad 42 s.heap.size)) (F0 m 56 ls []) := by
    intro n
    induction n with
    | zero =>
      intro σ x2 H locs ls hw
      exact hw.elim
    | succ n hL56 =>
      intro σ x2 H locs ls hw hP hS hl
      have hw : b_X4_copyFigures_figuresA_56 (w_X4_copyFigures_figuresA_56 K n) K σ x2 := hw
      unfold b_X4_copyFigures_figuresA_56 at hw
      generalize w_X4_copyFigures_figuresA_56 K n = L56 at hw hL56
      refine lv_iload_n hx hb dX4_copyFigures_56 rfl (lv_at hl 2 rfl) ?_
      refine lv_bipush (v := 10) hx hb dX4_copyFigures_57 (by decide) ?_
      refine lv_icmp_ge (tgt := 84) hx hb dX4_copyFigures_59 (by decide) (fun c_9 => ?_) (fun c_9 => ?_)
      · have hw := hw.1 c_9
        refine lv_iconst (v := 0) hx hb dX4_copyFigures_84 (by decide) ?_
        refine lv_istore_n (lv' := [(2, .int 0), (0, .ref (ad 2)), (1, .ref (ad 7))]) hx hb dX4_copyFigures_85 rfl hl (by decide) rfl (fun ls hl => ?_)
        obtain ⟨n_4, hw⟩ := hw
        exact lab_86 n_4 _ _ _ _ _ hw hP hS (lv_sub hl [1, 2, 0] rfl)
      · have hw := hw.2 c_9
        refine lv_aload_n hx hb dX4_copyFigures_62 rfl (lv_at hl 1 rfl) ?_
        refine lv_bipush (v := 10) hx hb dX4_copyFigures_63 (by decide) ?_
        refine lv_iload_n hx hb dX4_copyFigures_65 rfl (lv_at hl 2 rfl) ?_
        refine lv_iadd hx hb dX4_copyFigures_66 ?_
        refine lv_aload_n hx hb dX4_copyFigures_67 rfl (lv_at hl 0 rfl) ?_
        refine lv_aload_n hx hb dX4_copyFigures_68 rfl (lv_at hl 0 rfl) ?_
        refine gC_X4_ends F hK iw_X4 hP f_f22 dX4_copyFigures_69 ?_
        refine lv_iload_n hx hb dX4_copyFigures_72 rfl (lv_at hl 2 rfl) ?_
        obtain ⟨i_8, hw⟩ := hw
        refine lC_X4_ends F hK hP i_8 dX4_copyFigures_73 ?_
        refine cvL (As := [.long (gL σ 2 (x2).toNatClampNeg)]) (rest := [.int (10 + x2), .ref (ad 7)]) F hK hP hS (c_X4_comparable l D ad cI cJ hap H.size _ _ _ hw) (cwV 1 hts gX4_copyFigures_X4_comparable rfl rfl rfl (by decide +kernel) ⟨Nat.le_of_ble_eq_true rfl, Nat.le_of_ble_eq_true rfl⟩) (va_recv hK hP (ci := 3) (q0 := 2) rfl rfl) rfl hl.1 rfl (Nat.le_of_ble_eq_true rfl) dX4_copyFigures_74 ⟨Nat.zero_le _, Nat.zero_le _⟩ (fun r_6 u_5 H locs hw hP hS => ?_)
        obtain ⟨i_7, hw⟩ := hw
        refine sC_X9_figuresA F hK hP hDs hS i_7 dX4_copyFigures_77 (fun H locs hP hS => ?_)
        refine lv_iinc (v := (x2 + 1)) (lv' := [(2, .int (x2 + 1)), (0, .ref (ad 2)), (1, .ref (ad 7))]) hx hb dX4_copyFigures_78 hl (k := 2) rfl rfl (by decide) rfl (fun ls hl => ?_)
        refine lv_goto (tgt := 56) hx hb dX4_copyFigures_81 (by decide) ?_
        exact hL56 _ _ _ _ _ hw hP hS (lv_sub hl [1, 2, 0] rfl)
  have hl := lv_entry ([.ref (ad 2), .ref (ad 7)]) (n := 3) (Nat.le_of_ble_eq_true rfl)
  rw [lg_entry_eq]
  generalize (lg_sl ([.ref (ad 2), .ref (ad 7)]) ++ List.replicate (3 - (lg_sl ([.ref (ad 2), .ref (ad 7)])).length) Slot.unset).toArray = ls at hl ⊢
  have hl : lv_has ls 3 [(0, .ref (ad 2)), (1, .ref (ad 7))] := hl
  have key : ∀ (H : Heap), va_P D vwCl ((wdC ad cI cJ) σ) H → va_S (AW ad 42 s.heap.size) s.heap H [] → W p l e (headSpec wsX4_copyFigures rm_X4_copyFigures_figuresA).room s m ([.ref (ad 2), .ref (ad 7)] : List Value).toArray below meth c H [] 0 0 (MQ below (va_Qv K (inW D (wdC ad cI cJ) [(cI, .int), (cJ, .long)]) (AW ad 42 s.heap.size)) ([.ref (ad 2), .ref (ad 7)] : List Value).toArray s 0 0 (AW ad 42 s.heap.size)) (F0 m 0 ls []) := by
    intro H hP hS
    unfold w_X4_copyFigures_figuresA at hw
    refine lv_aload_n hx hb dX4_copyFigures_0 rfl (lv_at hl 1 rfl) ?_
    refine lv_iconst (v := 0) hx hb dX4_copyFigures_1 (by decide) ?_
    refine lv_aload_n hx hb dX4_copyFigures_2 rfl (lv_at hl 0 rfl) ?_
    refine gC_X4_how F hK iw_X4 hP f_f78 dX4_copyFigures_3 ?_
    refine W.eq (g2 := F0 m 6 ls [.int (gS σ 4), .int 0, .ref (ad 7)]) rfl ?_
    refine lv_i2l hx hb dX4_copyFigures_6 rfl ?_
    refine sC_X9_figuresA F hK hP hDs hS (by unfold vp_in; decide) dX4_copyFigures_7 (fun H locs hP hS => ?_)
    refine lv_aload_n hx hb dX4_copyFigures_8 rfl (lv_at hl 1 rfl) ?_
    refine lv_iconst (v := 1) hx hb dX4_copyFigures_9 (by decide) ?_
    refine lv_aload_n hx hb dX4_copyFigures_10 rfl (lv_at hl 0 rfl) ?_
    refine gC_X4_steps F hK iw_X4 hP f_f71 dX4_copyFigures_11 ?_
    refine W.eq (g2 := F0 m 14 ls [.int (gS σ 5), .int 1, .ref (ad 7)]) rfl ?_
    refine lv_i2l hx hb dX4_copyFigures_14 rfl ?_
    refine sC_X9_figuresA F hK hP hDs hS (by unfold vp_in; decide) dX4_copyFigures_15 (fun H locs hP hS => ?_)
    refine lv_aload_n hx hb dX4_copyFigures_16 rfl (lv_at hl 1 rfl) ?_
    refine lv_iconst (v := 2) hx hb dX4_copyFigures_17 (by decide) ?_
    refine lv_aload_n hx hb dX4_copyFigures_18 rfl (lv_at hl 0 rfl) ?_
    refine gC_X4_floor F hK iw_X4 hP f_f36 dX4_copyFigures_19 ?_
    refine gC_X1_left F hK iw_X1 hP f_f87 dX4_copyFigures_22 ?_
    refine W.eq (g2 := F0 m 25 ls [.int (gS σ 15), .int 2, .ref (ad 7)]) rfl ?_
    refine lv_i2l hx hb dX4_copyFigures_25 rfl ?_
    refine sC_X9_figuresA F hK hP hDs hS (by unfold vp_in; decide) dX4_copyFigures_26 (fun H locs hP hS => ?_)
    refine lv_aload_n hx hb dX4_copyFigures_27 rfl (lv_at hl 1 rfl) ?_
    refine lv_iconst (v := 3) hx hb dX4_copyFigures_28 (by decide) ?_
    refine lv_aload_n hx hb dX4_copyFigures_29 rfl (lv_at hl 0 rfl) ?_
    refine gC_X4_store F hK iw_X4 hP f_f12 dX4_copyFigures_30 ?_
    refine gC_X6_waiting F hK iw_X6 hP f_f90 dX4_copyFigures_33 ?_
    refine W.eq (g2 := F0 m 36 ls [.int (gS σ 11), .int 3, .ref (ad 7)]) rfl ?_
    refine lv_i2l hx hb dX4_copyFigures_36 rfl ?_
    refine sC_X9_figuresA F hK hP hDs hS (by unfold vp_in; decide) dX4_copyFigures_37 (fun H locs hP hS => ?_)
    refine lv_aload_n hx hb dX4_copyFigures_38 rfl (lv_at hl 1 rfl) ?_
    refine lv_iconst (v := 4) hx hb dX4_copyFigures_39 (by decide) ?_
    refine lv_aload_n hx hb dX4_copyFigures_40 rfl (lv_at hl 0 rfl) ?_
    refine gC_X4_lost F hK iw_X4 hP f_f93 dX4_copyFigures_41 ?_
    refine W.eq (g2 := F0 m 44 ls [.int (gS σ 8), .int 4, .ref (ad 7)]) rfl ?_
    refine lv_i2l hx hb dX4_copyFigures_44 rfl ?_
    refine sC_X9_figuresA F hK hP hDs hS (by unfold vp_in; decide) dX4_copyFigures_45 (fun H locs hP hS => ?_)
    refine lv_aload_n hx hb dX4_copyFigures_46 rfl (lv_at hl 1 rfl) ?_
    refine lv_iconst (v := 5) hx hb dX4_copyFigures_47 (by decide) ?_
    refine lv_aload_n hx hb dX4_copyFigures_48 rfl (lv_at hl 0 rfl) ?_
    refine gC_X4_strays F hK iw_X4 hP f_f96 dX4_copyFigures_49 ?_
    refine W.eq (g2 := F0 m 52 ls [.int (gS σ 9), .int 5, .ref (ad 7)]) rfl ?_
    refine lv_i2l hx hb dX4_copyFigures_52 rfl ?_
    refine sC_X9_figuresA F hK hP hDs hS (by unfold vp_in; decide) dX4_copyFigures_53 (fun H locs hP hS => ?_)
    refine lv_iconst (v := 0) hx hb dX4_copyFigures_54 (by decide) ?_
    refine lv_istore_n (lv' := [(2, .int 0), (0, .ref (ad 2)), (1, .ref (ad 7))]) hx hb dX4_copyFigures_55 rfl hl (by decide) rfl (fun ls hl => ?_)
    obtain ⟨n_10, hw⟩ := hw
    exact lab_56 n_10 _ _ _ _ _ hw hP hS (lv_sub hl [1, 2, 0] rfl)
  exact key s.heap hP hS

abbrev rm_X4_copyFigures_figuresB : Room := { frames := 2, cells := 0, slots := 0, locals := 43 }
set_option maxHeartbeats 4000000 in
set_option maxRecDepth 100000 in
theorem c_X4_copyFigures_figuresB (l : Launch) (D : va_G) (ad : Nat → Nat) (cI cJ : ClassId) (hap : apart ad 42) (sz : Nat) (σ : St) (K : St → Prop) (hw : w_X4_copyFigures_figuresB σ K) : Met l yX4_copyFigures wsX4_copyFigures rm_X4_copyFigures_figuresB (va_Pc [.ref (ad 2), .ref (ad 8)] (fun U => U.heap.size = sz ∧ inW D (wdC ad cI cJ) [(cI, .int), (cJ, .long)] σ U)) (va_Qv K (inW D (wdC ad cI cJ) [(cI, .int), (cJ, .long)]) (AW ad 42 sz)) 0 0 (AW ad 42 sz) := by
  refine Met.ofW (cc := cX4_copyFigures) (maxL := 3) (ret := none) (by decide) rfl ?_
  intro p e s m args below meth c s₁ B hml hv
  obtain ⟨rfl, hsz, ⟨hP, hK⟩⟩ := hv
  have F : CallFix p m c cX4_copyFigures 3 s ([.ref (ad 2), .ref (ad 8)] : List Value).toArray wsX4_copyFigures RX4 := ⟨B.exec, B.bytes, hml, findClass_of_methodNamed B.named, atoms_spec (ws := wsX4_copyFigures) B.pre⟩
  have hx := F.1
  have hb := F.2.1
  have hown := F.2.2.2.1
  have hts := F.2.2.2.2
  have hr := B.returns
  have hlocks := B.notSynchronized
  subst hsz
  have hDs : ∀ σ, va_D (AW ad 42 s.heap.size) ((wdC ad cI cJ) σ) := fun σ => wdC_D hap σ
  have hS : va_S (AW ad 42 s.heap.size) s.heap s.heap [] := va_S.rf
  have iw_X1 : ∀ w ∈ u_ws RX1 TX1 8, w ∈ wsX4_copyFigures := by decide +kernel
  have iw_X4 : ∀ w ∈ u_ws RX4 TX4 14, w ∈ wsX4_copyFigures := by decide +kernel
  have iw_X6 : ∀ w ∈ u_ws RX6 TX6 10, w ∈ wsX4_copyFigures := by decide +kernel
  have f_f12 := hts (.fieldLink RX4 12 "TokenFloor$Machine" "store" "LTokenFloor$Store;") (by decide +kernel)
  have f_f18 := hts (.fieldLink RX4 18 "TokenFloor$Machine" "firings" "[I") (by decide +kernel)
  have f_f22 := hts (.fieldLink RX4 22 "TokenFloor$Machine" "ends" "[J") (by decide +kernel)
  have f_f36 := hts (.fieldLink RX4 36 "TokenFloor$Machine" "floor" "LTokenFloor$Floor;") (by decide +kernel)
  have f_f71 := hts (.fieldLink RX4 71 "TokenFloor$Machine" "steps" "I") (by decide +kernel)
  have f_f78 := hts (.fieldLink RX4 78 "TokenFloor$Machine" "how" "I") (by decide +kernel)
  have f_f87 := hts (.fieldLink RX4 87 "TokenFloor$Floor" "left" "I") (by decide +kernel)
  have f_f90 := hts (.fieldLink RX4 90 "TokenFloor$Store" "waiting" "I") (by decide +kernel)
  have f_f93 := hts (.fieldLink RX4 93 "TokenFloor$Machine" "lost" "I") (by decide +kernel)
  have f_f96 := hts (.fieldLink RX4 96 "TokenFloor$Machine" "strays" "I") (by decide +kernel)
  have lab_86 : ∀ (n : Nat), ∀ (σ : St) (x2 : Int32) (H : Heap) (locs : List Loc) (ls : Array Slot), w_X4_copyFigures_figuresB_86 K n σ x2 → va_P D vwCl ((wdC ad cI cJ) σ) H → va_S (AW ad 42 s.heap.size) s.heap H locs → lv_has ls 3 [(0, .ref (ad 2)), (1, .ref (ad 8)), (2, .int x2)] → W p l e (headSpec wsX4_copyFigures rm_X4_copyFigures_figuresB).room s m ([.ref (ad 2), .ref (ad 8)] : List Value).toArray below meth c H locs 0 0 (MQ below (va_Qv K (inW D (wdC ad cI cJ) [(cI, .int), (cJ, .long)]) (AW ad 42 s.heap.size)) ([.ref (ad 2), .ref (ad 8)] : List Value).toArray s 0 0 (AW ad 42 s.heap.size)) (F0 m 86 ls []) := by
    intro n
    induction n with
    | zero =>
      intro σ x2 H locs ls hw
      exact hw.elim
    | succ n hL86 =>
      intro σ x2 H locs ls hw hP hS hl
      have hw : b_X4_copyFigures_figuresB_86 (w_X4_copyFigures_figuresB_86 K n) K σ x2 := hw
      unfold b_X4_copyFigures_figuresB_86 at hw
      generalize w_X4_copyFigures_figuresB_86 K n = L86 at hw hL86
      refine lv_iload_n hx hb dX4_copyFigures_86 rfl (lv_at hl 2 rfl) ?_
      refine lv_bipush (v := 80) hx hb dX4_copyFigures_87 (by decide) ?_
      refine lv_icmp_ge (tgt := 111) hx hb dX4_copyFigures_89 (by decide) (fun c_3 => ?_) (fun c_3 => ?_)
      · have hw := hw.1 c_3
        exact rtV F hr hlocks hK hw hP hS dX4_copyFigures_111
      · have hw := hw.2 c_3
        refine lv_aload_n hx hb dX4_copyFigures_92 rfl (lv_at hl 1 rfl) ?_
        refine lv_bipush (v := 20) hx hb dX4_copyFigures_93 (by decide) ?_
        refine lv_iload_n hx hb dX4_copyFigures_95 rfl (lv_at hl 2 rfl) ?_
        refine lv_iadd hx hb dX4_copyFigures_96 ?_
        refine lv_aload_n hx hb dX4_copyFigures_97 rfl (lv_at hl 0 rfl) ?_
        refine gC_X4_firings F hK iw_X4 hP f_f18 dX4_copyFigures_98 ?_
        refine lv_iload_n hx hb dX4_copyFigures_101 rfl (lv_at hl 2 rfl) ?_
        obtain ⟨i_2, hw⟩ := hw
        refine lC_X4_firings F hK hP i_2 dX4_copyFigures_102 ?_
        refine lv_i2l hx hb dX4_copyFigures_103 rfl ?_
        obtain ⟨i_1, hw⟩ := hw
        refine sC_X9_figuresB F hK hP hDs hS i_1 dX4_copyFigures_104 (fun H locs hP hS => ?_)
        refine lv_iinc (v := (x2 + 1)) (lv' := [(2, .int (x2 + 1)), (0, .ref (ad 2)), (1, .ref (ad 8))]) hx hb dX4_copyFigures_105 hl (k := 2) rfl rfl (by decide) rfl (fun ls hl => ?_)
        refine lv_goto (tgt := 86) hx hb dX4_copyFigures_108 (by decide) ?_
        exact hL86 _ _ _ _ _ hw hP hS (lv_sub hl [1, 2, 0] rfl)
  have lab_56 : ∀ (n : Nat), ∀ (σ : St) (x2 : Int32) (H : Heap) (locs : List Loc) (ls : Array Slot), w_X4_copyFigures_figuresB_56 K n σ x2 → va_P D vwCl ((wdC ad cI cJ) σ) H → va_S (AW ad 42 s.heap.size) s.heap H locs → lv_has ls 3 [(0, .ref (ad 2)), (1, .ref (ad 8)), (2, .int x2)] → W p l e (headSpec wsX4_copyFigures rm_X4_copyFigures_figuresB).room s m ([.ref (ad 2), .ref (ad 8)] : List Value).toArray below meth c H locs 0 0 (MQ below (va_Qv K (inW D (wdC ad cI cJ) [(cI, .int), (cJ, .long)]) (AW ad 42 s.heap.size)) ([.ref (ad 2), .ref (ad 8)] : List Value).toArray s 0 0 (AW ad 42 s.heap.size)) (F0 m 56 ls []) := by
    intro n
    induction n with
    | zero =>
      intro σ x2 H locs ls hw
      exact hw.elim
    | succ n hL56 =>
      intro σ x2 H locs ls hw hP hS hl
      have hw : b_X4_copyFigures_figuresB_56 (w_X4_copyFigures_figuresB_56 K n) K σ x2 := hw
      unfold b_X4_copyFigures_figuresB_56 at hw
      generalize w_X4_copyFigures_figuresB_56 K n = L56 at hw hL56
      refine lv_iload_n hx hb dX4_copyFigures_56 rfl (lv_at hl 2 rfl) ?_
      refine lv_bipush (v := 10) hx hb dX4_copyFigures_57 (by decide) ?_
      refine lv_icmp_ge (tgt := 84) hx hb dX4_copyFigures_59 (by decide) (fun c_9 => ?_) (fun c_9 => ?_)
      · have hw := hw.1 c_9
        refine lv_iconst (v := 0) hx hb dX4_copyFigures_84 (by decide) ?_
        refine lv_istore_n (lv' := [(2, .int 0), (0, .ref (ad 2)), (1, .ref (ad 8))]) hx hb dX4_copyFigures_85 rfl hl (by decide) rfl (fun ls hl => ?_)
        obtain ⟨n_4, hw⟩ := hw
        exact lab_86 n_4 _ _ _ _ _ hw hP hS (lv_sub hl [1, 2, 0] rfl)
      · have hw := hw.2 c_9
        refine lv_aload_n hx hb dX4_copyFigures_62 rfl (lv_at hl 1 rfl) ?_
        refine lv_bipush (v := 10) hx hb dX4_copyFigures_63 (by decide) ?_
        refine lv_iload_n hx hb dX4_copyFigures_65 rfl (lv_at hl 2 rfl) ?_
        refine lv_iadd hx hb dX4_copyFigures_66 ?_
        refine lv_aload_n hx hb dX4_copyFigures_67 rfl (lv_at hl 0 rfl) ?_
        refine lv_aload_n hx hb dX4_copyFigures_68 rfl (lv_at hl 0 rfl) ?_
        refine gC_X4_ends F hK iw_X4 hP f_f22 dX4_copyFigures_69 ?_
        refine lv_iload_n hx hb dX4_copyFigures_72 rfl (lv_at hl 2 rfl) ?_
        obtain ⟨i_8, hw⟩ := hw
        refine lC_X4_ends F hK hP i_8 dX4_copyFigures_73 ?_
        refine cvL (As := [.long (gL σ 2 (x2).toNatClampNeg)]) (rest := [.int (10 + x2), .ref (ad 8)]) F hK hP hS (c_X4_comparable l D ad cI cJ hap H.size _ _ _ hw) (cwV 1 hts gX4_copyFigures_X4_comparable rfl rfl rfl (by decide +kernel) ⟨Nat.le_of_ble_eq_true rfl, Nat.le_of_ble_eq_true rfl⟩) (va_recv hK hP (ci := 3) (q0 := 2) rfl rfl) rfl hl.1 rfl (Nat.le_of_ble_eq_true rfl) dX4_copyFigures_74 ⟨Nat.zero_le _, Nat.zero_le _⟩ (fun r_6 u_5 H locs hw hP hS => ?_)
        obtain ⟨i_7, hw⟩ := hw
        refine sC_X9_figuresB F hK hP hDs hS i_7 dX4_copyFigures_77 (fun H locs hP hS => ?_)
        refine lv_iinc (v := (x2 + 1)) (lv' := [(2, .int (x2 + 1)), (0, .ref (ad 2)), (1, .ref (ad 8))]) hx hb dX4_copyFigures_78 hl (k := 2) rfl rfl (by decide) rfl (fun ls hl => ?_)
        refine lv_goto (tgt := 56) hx hb dX4_copyFigures_81 (by decide) ?_
        exact hL56 _ _ _ _ _ hw hP hS (lv_sub hl [1, 2, 0] rfl)
  have hl := lv_entry ([.ref (ad 2), .ref (ad 8)]) (n := 3) (Nat.le_of_ble_eq_true rfl)
  rw [lg_entry_eq]
  generalize (lg_sl ([.ref (ad 2), .ref (ad 8)]) ++ List.replicate (3 - (lg_sl ([.ref (ad 2), .ref (ad 8)])).length) Slot.unset).toArray = ls at hl ⊢
  have hl : lv_has ls 3 [(0, .ref (ad 2)), (1, .ref (ad 8))] := hl
  have key : ∀ (H : Heap), va_P D vwCl ((wdC ad cI cJ) σ) H → va_S (AW ad 42 s.heap.size) s.heap H [] → W p l e (headSpec wsX4_copyFigures rm_X4_copyFigures_figuresB).room s m ([.ref (ad 2), .ref (ad 8)] : List Value).toArray below meth c H [] 0 0 (MQ below (va_Qv K (inW D (wdC ad cI cJ) [(cI, .int), (cJ, .long)]) (AW ad 42 s.heap.size)) ([.ref (ad 2), .ref (ad 8)] : List Value).toArray s 0 0 (AW ad 42 s.heap.size)) (F0 m 0 ls []) := by
    intro H hP hS
    unfold w_X4_copyFigures_figuresB at hw
    refine lv_aload_n hx hb dX4_copyFigures_0 rfl (lv_at hl 1 rfl) ?_
    refine lv_iconst (v := 0) hx hb dX4_copyFigures_1 (by decide) ?_
    refine lv_aload_n hx hb dX4_copyFigures_2 rfl (lv_at hl 0 rfl) ?_
    refine gC_X4_how F hK iw_X4 hP f_f78 dX4_copyFigures_3 ?_
    refine W.eq (g2 := F0 m 6 ls [.int (gS σ 4), .int 0, .ref (ad 8)]) rfl ?_
    refine lv_i2l hx hb dX4_copyFigures_6 rfl ?_
    refine sC_X9_figuresB F hK hP hDs hS (by unfold vp_in; decide) dX4_copyFigures_7 (fun H locs hP hS => ?_)
    refine lv_aload_n hx hb dX4_copyFigures_8 rfl (lv_at hl 1 rfl) ?_
    refine lv_iconst (v := 1) hx hb dX4_copyFigures_9 (by decide) ?_
    refine lv_aload_n hx hb dX4_copyFigures_10 rfl (lv_at hl 0 rfl) ?_
    refine gC_X4_steps F hK iw_X4 hP f_f71 dX4_copyFigures_11 ?_
    refine W.eq (g2 := F0 m 14 ls [.int (gS σ 5), .int 1, .ref (ad 8)]) rfl ?_
    refine lv_i2l hx hb dX4_copyFigures_14 rfl ?_
    refine sC_X9_figuresB F hK hP hDs hS (by unfold vp_in; decide) dX4_copyFigures_15 (fun H locs hP hS => ?_)
    refine lv_aload_n hx hb dX4_copyFigures_16 rfl (lv_at hl 1 rfl) ?_
    refine lv_iconst (v := 2) hx hb dX4_copyFigures_17 (by decide) ?_
    refine lv_aload_n hx hb dX4_copyFigures_18 rfl (lv_at hl 0 rfl) ?_
    refine gC_X4_floor F hK iw_X4 hP f_f36 dX4_copyFigures_19 ?_
    refine gC_X1_left F hK iw_X1 hP f_f87 dX4_copyFigures_22 ?_
    refine W.eq (g2 := F0 m 25 ls [.int (gS σ 15), .int 2, .ref (ad 8)]) rfl ?_
    refine lv_i2l hx hb dX4_copyFigures_25 rfl ?_
    refine sC_X9_figuresB F hK hP hDs hS (by unfold vp_in; decide) dX4_copyFigures_26 (fun H locs hP hS => ?_)
    refine lv_aload_n hx hb dX4_copyFigures_27 rfl (lv_at hl 1 rfl) ?_
    refine lv_iconst (v := 3) hx hb dX4_copyFigures_28 (by decide) ?_
    refine lv_aload_n hx hb dX4_copyFigures_29 rfl (lv_at hl 0 rfl) ?_
    refine gC_X4_store F hK iw_X4 hP f_f12 dX4_copyFigures_30 ?_
    refine gC_X6_waiting F hK iw_X6 hP f_f90 dX4_copyFigures_33 ?_
    refine W.eq (g2 := F0 m 36 ls [.int (gS σ 11), .int 3, .ref (ad 8)]) rfl ?_
    refine lv_i2l hx hb dX4_copyFigures_36 rfl ?_
    refine sC_X9_figuresB F hK hP hDs hS (by unfold vp_in; decide) dX4_copyFigures_37 (fun H locs hP hS => ?_)
    refine lv_aload_n hx hb dX4_copyFigures_38 rfl (lv_at hl 1 rfl) ?_
    refine lv_iconst (v := 4) hx hb dX4_copyFigures_39 (by decide) ?_
    refine lv_aload_n hx hb dX4_copyFigures_40 rfl (lv_at hl 0 rfl) ?_
    refine gC_X4_lost F hK iw_X4 hP f_f93 dX4_copyFigures_41 ?_
    refine W.eq (g2 := F0 m 44 ls [.int (gS σ 8), .int 4, .ref (ad 8)]) rfl ?_
    refine lv_i2l hx hb dX4_copyFigures_44 rfl ?_
    refine sC_X9_figuresB F hK hP hDs hS (by unfold vp_in; decide) dX4_copyFigures_45 (fun H locs hP hS => ?_)
    refine lv_aload_n hx hb dX4_copyFigures_46 rfl (lv_at hl 1 rfl) ?_
    refine lv_iconst (v := 5) hx hb dX4_copyFigures_47 (by decide) ?_
    refine lv_aload_n hx hb dX4_copyFigures_48 rfl (lv_at hl 0 rfl) ?_
    refine gC_X4_strays F hK iw_X4 hP f_f96 dX4_copyFigures_49 ?_
    refine W.eq (g2 := F0 m 52 ls [.int (gS σ 9), .int 5, .ref (ad 8)]) rfl ?_
    refine lv_i2l hx hb dX4_copyFigures_52 rfl ?_
    refine sC_X9_figuresB F hK hP hDs hS (by unfold vp_in; decide) dX4_copyFigures_53 (fun H locs hP hS => ?_)
    refine lv_iconst (v := 0) hx hb dX4_copyFigures_54 (by decide) ?_
    refine lv_istore_n (lv' := [(2, .int 0), (0, .ref (ad 2)), (1, .ref (ad 8))]) hx hb dX4_copyFigures_55 rfl hl (by decide) rfl (fun ls hl => ?_)
    obtain ⟨n_10, hw⟩ := hw
    exact lab_56 n_10 _ _ _ _ _ hw hP hS (lv_sub hl [1, 2, 0] rfl)
  exact key s.heap hP hS

abbrev rm_X9_act : Room := { frames := 3, cells := 0, slots := 0, locals := 66 }
set_option maxHeartbeats 4000000 in
set_option maxRecDepth 100000 in
theorem c_X9_act (l : Launch) (D : va_G) (ad : Nat → Nat) (cI cJ : ClassId) (hap : apart ad 42) (sz : Nat) (σ : St) (a1 : Int32) (a2 : Int32) (a3 : Int32) (K : Int32 → St → Prop) (hw : w_X9_act σ a1 a2 a3 K) (aP : Nat) : Met l yX9_act wsX9_act rm_X9_act (va_Pc [.ref (ad 0), .int a1, .int a2, .int a3] (fun U => U.heap.size = sz ∧ inW D (wdC ad cI cJ) [(cI, .int), (cJ, .long)] σ U ∧ jPZ ad 42 sz aP U)) (va_Qi K (inW D (wdC ad cI cJ) [(cI, .int), (cJ, .long)]) (AW ad 42 sz)) 0 0 (AW ad 42 sz) := by
  refine Met.ofW (cc := cX9_act) (maxL := 4) (ret := (some .int)) (by decide) rfl ?_
  intro p e s m args below meth c s₁ B hml hv
  obtain ⟨rfl, hsz, ⟨hP, hK⟩, hX⟩ := hv
  have F : CallFix p m c cX9_act 4 s ([.ref (ad 0), .int a1, .int a2, .int a3] : List Value).toArray wsX9_act RX9 := ⟨B.exec, B.bytes, hml, findClass_of_methodNamed B.named, atoms_spec (ws := wsX9_act) B.pre⟩
  have hx := F.1
  have hb := F.2.1
  have hown := F.2.2.2.1
  have hts := F.2.2.2.2
  have hr := B.returns
  have hlocks := B.notSynchronized
  subst hsz
  have hDs : ∀ σ, va_D (AW ad 42 s.heap.size) ((wdC ad cI cJ) σ) := fun σ => wdC_D hap σ
  have hS : va_S (AW ad 42 s.heap.size) s.heap s.heap [] := va_S.rf
  have iw_X9 : ∀ w ∈ u_ws RX9 TX9 5, w ∈ wsX9_act := by decide +kernel
  have f_f10 := hts (.fieldLink RX9 10 "TokenFloor" "graph" "LTokenFloor$Graph;") (by decide +kernel)
  have hl := lv_entry ([.ref (ad 0), .int a1, .int a2, .int a3]) (n := 4) (Nat.le_of_ble_eq_true rfl)
  rw [lg_entry_eq]
  generalize (lg_sl ([.ref (ad 0), .int a1, .int a2, .int a3]) ++ List.replicate (4 - (lg_sl ([.ref (ad 0), .int a1, .int a2, .int a3])).length) Slot.unset).toArray = ls at hl ⊢
  have hl : lv_has ls 4 [(0, .ref (ad 0)), (1, .int a1), (2, .int a2), (3, .int a3)] := hl
  have key : ∀ (H : Heap), va_P D vwCl ((wdC ad cI cJ) σ) H → va_S (AW ad 42 s.heap.size) s.heap H [] → W p l e (headSpec wsX9_act rm_X9_act).room s m ([.ref (ad 0), .int a1, .int a2, .int a3] : List Value).toArray below meth c H [] 0 0 (MQ below (va_Qi K (inW D (wdC ad cI cJ) [(cI, .int), (cJ, .long)]) (AW ad 42 s.heap.size)) ([.ref (ad 0), .int a1, .int a2, .int a3] : List Value).toArray s 0 0 (AW ad 42 s.heap.size)) (F0 m 0 ls []) := by
    intro H hP hS
    unfold w_X9_act at hw
    refine lv_aload_n hx hb dX9_act_0 rfl (lv_at hl 0 rfl) ?_
    refine gC_X9_graph F hK iw_X9 hP f_f10 dX9_act_1 ?_
    refine lv_iload_n hx hb dX9_act_4 rfl (lv_at hl 1 rfl) ?_
    refine lv_iload_n hx hb dX9_act_5 rfl (lv_at hl 2 rfl) ?_
    refine lv_iload_n hx hb dX9_act_6 rfl (lv_at hl 3 rfl) ?_
    refine cvIX (X := jPZ ad 42 H.size aP) jPZ_blind (jPZ_at hX hS) (As := [.int a1, .int a2, .int a3]) (rest := []) F hK hP hS (c_X2_addAct l D ad cI cJ hap H.size _ _ _ _ _ hw aP) (cwV 3 hts gX9_act_X2_addAct rfl rfl rfl (by decide +kernel) ⟨Nat.le_of_ble_eq_true rfl, Nat.le_of_ble_eq_true rfl⟩) (va_recv hK hP (ci := 2) (q0 := 1) rfl rfl) rfl hl.1 rfl (Nat.le_of_ble_eq_true rfl) dX9_act_7 ⟨Nat.zero_le _, Nat.zero_le _⟩ (fun r_2 u_1 H locs hw hP hS => ?_)
    exact rtI F hr hlocks hK hw hP hS dX9_act_10
  exact key s.heap hP hS

abbrev rm_X9_way : Room := { frames := 3, cells := 0, slots := 0, locals := 70 }
set_option maxHeartbeats 4000000 in
set_option maxRecDepth 100000 in
theorem c_X9_way (l : Launch) (D : va_G) (ad : Nat → Nat) (cI cJ : ClassId) (hap : apart ad 42) (sz : Nat) (σ : St) (a1 : Int32) (a2 : Int32) (a3 : Int32) (a4 : Int32) (K : Int32 → St → Prop) (hw : w_X9_way σ a1 a2 a3 a4 K) : Met l yX9_way wsX9_way rm_X9_way (va_Pc [.ref (ad 0), .int a1, .int a2, .int a3, .int a4] (fun U => U.heap.size = sz ∧ inW D (wdC ad cI cJ) [(cI, .int), (cJ, .long)] σ U)) (va_Qi K (inW D (wdC ad cI cJ) [(cI, .int), (cJ, .long)]) (AW ad 42 sz)) 0 0 (AW ad 42 sz) := by
  refine Met.ofW (cc := cX9_way) (maxL := 5) (ret := (some .int)) (by decide) rfl ?_
  intro p e s m args below meth c s₁ B hml hv
  obtain ⟨rfl, hsz, ⟨hP, hK⟩⟩ := hv
  have F : CallFix p m c cX9_way 5 s ([.ref (ad 0), .int a1, .int a2, .int a3, .int a4] : List Value).toArray wsX9_way RX9 := ⟨B.exec, B.bytes, hml, findClass_of_methodNamed B.named, atoms_spec (ws := wsX9_way) B.pre⟩
  have hx := F.1
  have hb := F.2.1
  have hown := F.2.2.2.1
  have hts := F.2.2.2.2
  have hr := B.returns
  have hlocks := B.notSynchronized
  subst hsz
  have hDs : ∀ σ, va_D (AW ad 42 s.heap.size) ((wdC ad cI cJ) σ) := fun σ => wdC_D hap σ
  have hS : va_S (AW ad 42 s.heap.size) s.heap s.heap [] := va_S.rf
  have iw_X9 : ∀ w ∈ u_ws RX9 TX9 5, w ∈ wsX9_way := by decide +kernel
  have f_f10 := hts (.fieldLink RX9 10 "TokenFloor" "graph" "LTokenFloor$Graph;") (by decide +kernel)
  have hl := lv_entry ([.ref (ad 0), .int a1, .int a2, .int a3, .int a4]) (n := 5) (Nat.le_of_ble_eq_true rfl)
  rw [lg_entry_eq]
  generalize (lg_sl ([.ref (ad 0), .int a1, .int a2, .int a3, .int a4]) ++ List.replicate (5 - (lg_sl ([.ref (ad 0), .int a1, .int a2, .int a3, .int a4])).length) Slot.unset).toArray = ls at hl ⊢
  have hl : lv_has ls 5 [(0, .ref (ad 0)), (1, .int a1), (2, .int a2), (3, .int a3), (4, .int a4)] := hl
  have key : ∀ (H : Heap), va_P D vwCl ((wdC ad cI cJ) σ) H → va_S (AW ad 42 s.heap.size) s.heap H [] → W p l e (headSpec wsX9_way rm_X9_way).room s m ([.ref (ad 0), .int a1, .int a2, .int a3, .int a4] : List Value).toArray below meth c H [] 0 0 (MQ below (va_Qi K (inW D (wdC ad cI cJ) [(cI, .int), (cJ, .long)]) (AW ad 42 s.heap.size)) ([.ref (ad 0), .int a1, .int a2, .int a3, .int a4] : List Value).toArray s 0 0 (AW ad 42 s.heap.size)) (F0 m 0 ls []) := by
    intro H hP hS
    unfold w_X9_way at hw
    refine lv_aload_n hx hb dX9_way_0 rfl (lv_at hl 0 rfl) ?_
    refine gC_X9_graph F hK iw_X9 hP f_f10 dX9_way_1 ?_
    refine lv_iload_n hx hb dX9_way_4 rfl (lv_at hl 1 rfl) ?_
    refine lv_iload_n hx hb dX9_way_5 rfl (lv_at hl 2 rfl) ?_
    refine lv_iload_n hx hb dX9_way_6 rfl (lv_at hl 3 rfl) ?_
    refine lv_iload hx hb dX9_way_7 (lv_at hl 4 rfl) ?_
    refine cvI (As := [.int a1, .int a2, .int a3, .int a4]) (rest := []) F hK hP hS (c_X2_addWay l D ad cI cJ hap H.size _ _ _ _ _ _ hw) (cwV 4 hts gX9_way_X2_addWay rfl rfl rfl (by decide +kernel) ⟨Nat.le_of_ble_eq_true rfl, Nat.le_of_ble_eq_true rfl⟩) (va_recv hK hP (ci := 2) (q0 := 1) rfl rfl) rfl hl.1 rfl (Nat.le_of_ble_eq_true rfl) dX9_way_9 ⟨Nat.zero_le _, Nat.zero_le _⟩ (fun r_2 u_1 H locs hw hP hS => ?_)
    exact rtI F hr hlocks hK hw hP hS dX9_way_12
  exact key s.heap hP hS

abbrev rm_X9_token : Room := { frames := 3, cells := 0, slots := 0, locals := 66 }
set_option maxHeartbeats 4000000 in
set_option maxRecDepth 100000 in
theorem c_X9_token (l : Launch) (D : va_G) (ad : Nat → Nat) (cI cJ : ClassId) (hap : apart ad 42) (sz : Nat) (σ : St) (a1 : Int32) (a2 : Int32) (a3 : Int32) (K : Int32 → St → Prop) (hw : w_X9_token σ a1 a2 a3 K) : Met l yX9_token wsX9_token rm_X9_token (va_Pc [.ref (ad 0), .int a1, .int a2, .int a3] (fun U => U.heap.size = sz ∧ inW D (wdC ad cI cJ) [(cI, .int), (cJ, .long)] σ U)) (va_Qi K (inW D (wdC ad cI cJ) [(cI, .int), (cJ, .long)]) (AW ad 42 sz)) 0 0 (AW ad 42 sz) := by
  refine Met.ofW (cc := cX9_token) (maxL := 4) (ret := (some .int)) (by decide) rfl ?_
  intro p e s m args below meth c s₁ B hml hv
  obtain ⟨rfl, hsz, ⟨hP, hK⟩⟩ := hv
  have F : CallFix p m c cX9_token 4 s ([.ref (ad 0), .int a1, .int a2, .int a3] : List Value).toArray wsX9_token RX9 := ⟨B.exec, B.bytes, hml, findClass_of_methodNamed B.named, atoms_spec (ws := wsX9_token) B.pre⟩
  have hx := F.1
  have hb := F.2.1
  have hown := F.2.2.2.1
  have hts := F.2.2.2.2
  have hr := B.returns
  have hlocks := B.notSynchronized
  subst hsz
  have hDs : ∀ σ, va_D (AW ad 42 s.heap.size) ((wdC ad cI cJ) σ) := fun σ => wdC_D hap σ
  have hS : va_S (AW ad 42 s.heap.size) s.heap s.heap [] := va_S.rf
  have iw_X9 : ∀ w ∈ u_ws RX9 TX9 5, w ∈ wsX9_token := by decide +kernel
  have f_f10 := hts (.fieldLink RX9 10 "TokenFloor" "graph" "LTokenFloor$Graph;") (by decide +kernel)
  have hl := lv_entry ([.ref (ad 0), .int a1, .int a2, .int a3]) (n := 4) (Nat.le_of_ble_eq_true rfl)
  rw [lg_entry_eq]
  generalize (lg_sl ([.ref (ad 0), .int a1, .int a2, .int a3]) ++ List.replicate (4 - (lg_sl ([.ref (ad 0), .int a1, .int a2, .int a3])).length) Slot.unset).toArray = ls at hl ⊢
  have hl : lv_has ls 4 [(0, .ref (ad 0)), (1, .int a1), (2, .int a2), (3, .int a3)] := hl
  have key : ∀ (H : Heap), va_P D vwCl ((wdC ad cI cJ) σ) H → va_S (AW ad 42 s.heap.size) s.heap H [] → W p l e (headSpec wsX9_token rm_X9_token).room s m ([.ref (ad 0), .int a1, .int a2, .int a3] : List Value).toArray below meth c H [] 0 0 (MQ below (va_Qi K (inW D (wdC ad cI cJ) [(cI, .int), (cJ, .long)]) (AW ad 42 s.heap.size)) ([.ref (ad 0), .int a1, .int a2, .int a3] : List Value).toArray s 0 0 (AW ad 42 s.heap.size)) (F0 m 0 ls []) := by
    intro H hP hS
    unfold w_X9_token at hw
    refine lv_aload_n hx hb dX9_token_0 rfl (lv_at hl 0 rfl) ?_
    refine gC_X9_graph F hK iw_X9 hP f_f10 dX9_token_1 ?_
    refine lv_iload_n hx hb dX9_token_4 rfl (lv_at hl 1 rfl) ?_
    refine lv_iload_n hx hb dX9_token_5 rfl (lv_at hl 2 rfl) ?_
    refine lv_iload_n hx hb dX9_token_6 rfl (lv_at hl 3 rfl) ?_
    refine cvI (As := [.int a1, .int a2, .int a3]) (rest := []) F hK hP hS (c_X2_addToken l D ad cI cJ hap H.size _ _ _ _ _ hw) (cwV 3 hts gX9_token_X2_addToken rfl rfl rfl (by decide +kernel) ⟨Nat.le_of_ble_eq_true rfl, Nat.le_of_ble_eq_true rfl⟩) (va_recv hK hP (ci := 2) (q0 := 1) rfl rfl) rfl hl.1 rfl (Nat.le_of_ble_eq_true rfl) dX9_token_7 ⟨Nat.zero_le _, Nat.zero_le _⟩ (fun r_2 u_1 H locs hw hP hS => ?_)
    exact rtI F hr hlocks hK hw hP hS dX9_token_10
  exact key s.heap hP hS

abbrev rm_X9_clear : Room := { frames := 2, cells := 0, slots := 0, locals := 43 }
set_option maxHeartbeats 4000000 in
set_option maxRecDepth 100000 in
theorem c_X9_clear (l : Launch) (D : va_G) (ad : Nat → Nat) (cI cJ : ClassId) (hap : apart ad 42) (sz : Nat) (σ : St) (a1 : Int32) (K : Int32 → St → Prop) (hw : w_X9_clear σ a1 K) : Met l yX9_clear wsX9_clear rm_X9_clear (va_Pc [.ref (ad 0), .int a1] (fun U => U.heap.size = sz ∧ inW D (wdC ad cI cJ) [(cI, .int), (cJ, .long)] σ U)) (va_Qi (fun r u => zb r ∧ K r u) (inW D (wdC ad cI cJ) [(cI, .int), (cJ, .long)]) (AW ad 42 sz)) 0 0 (AW ad 42 sz) := by
  refine Met.ofW (cc := cX9_clear) (maxL := 2) (ret := (some .boolean)) (by decide) rfl ?_
  intro p e s m args below meth c s₁ B hml hv
  obtain ⟨rfl, hsz, ⟨hP, hK⟩⟩ := hv
  have F : CallFix p m c cX9_clear 2 s ([.ref (ad 0), .int a1] : List Value).toArray wsX9_clear RX9 := ⟨B.exec, B.bytes, hml, findClass_of_methodNamed B.named, atoms_spec (ws := wsX9_clear) B.pre⟩
  have hx := F.1
  have hb := F.2.1
  have hown := F.2.2.2.1
  have hts := F.2.2.2.2
  have hr := B.returns
  have hlocks := B.notSynchronized
  subst hsz
  have hDs : ∀ σ, va_D (AW ad 42 s.heap.size) ((wdC ad cI cJ) σ) := fun σ => wdC_D hap σ
  have hS : va_S (AW ad 42 s.heap.size) s.heap s.heap [] := va_S.rf
  have iw_X9 : ∀ w ∈ u_ws RX9 TX9 5, w ∈ wsX9_clear := by decide +kernel
  have f_f10 := hts (.fieldLink RX9 10 "TokenFloor" "graph" "LTokenFloor$Graph;") (by decide +kernel)
  have f_f32 := hts (.fieldLink RX9 32 "TokenFloor" "hasRun" "Z") (by decide +kernel)
  have lab_30 : ∀ (σ : St) (x1 : Int32) (H : Heap) (locs : List Loc) (ls : Array Slot), b_X9_clear_30 K σ x1 → va_P D vwCl ((wdC ad cI cJ) σ) H → va_S (AW ad 42 s.heap.size) s.heap H locs → lv_has ls 2 [(0, .ref (ad 0)), (1, .int x1)] → W p l e (headSpec wsX9_clear rm_X9_clear).room s m ([.ref (ad 0), .int a1] : List Value).toArray below meth c H locs 0 0 (MQ below (va_Qi (fun r u => zb r ∧ K r u) (inW D (wdC ad cI cJ) [(cI, .int), (cJ, .long)]) (AW ad 42 s.heap.size)) ([.ref (ad 0), .int a1] : List Value).toArray s 0 0 (AW ad 42 s.heap.size)) (F0 m 30 ls []) := by
    intro σ x1 H locs ls hw hP hS hl
    unfold b_X9_clear_30 at hw
    refine lv_iload_n hx hb dX9_clear_30 rfl (lv_at hl 1 rfl) ?_
    refine lv_iconst (v := 2) hx hb dX9_clear_31 (by decide) ?_
    refine lv_icmp_ne (tgt := 42) hx hb dX9_clear_32 (by decide) (fun c_3 => ?_) (fun c_3 => ?_)
    · have hw := hw.1 c_3
      refine lv_aload_n hx hb dX9_clear_42 rfl (lv_at hl 0 rfl) ?_
      refine lv_iconst (v := 0) hx hb dX9_clear_43 (by decide) ?_
      refine pC_X9_hasRun F hK iw_X9 hP hDs hS f_f32 dX9_clear_44 (Or.inl rfl) (fun H locs hP hS => ?_)
      refine lv_iconst (v := 1) hx hb dX9_clear_47 (by decide) ?_
      exact rtZ F hr hlocks hK hw (Or.inr rfl) hP hS dX9_clear_48
    · have hw := hw.2 c_3
      refine lv_aload_n hx hb dX9_clear_35 rfl (lv_at hl 0 rfl) ?_
      refine gC_X9_graph F hK iw_X9 hP f_f10 dX9_clear_36 ?_
      refine cvV (As := []) (rest := []) F hK hP hS (c_X2_dropActs l D ad cI cJ hap H.size _ _ hw) (cwV 0 hts gX9_clear_X2_dropActs rfl rfl rfl (by decide +kernel) ⟨Nat.le_of_ble_eq_true rfl, Nat.le_of_ble_eq_true rfl⟩) (va_recv hK hP (ci := 2) (q0 := 1) rfl rfl) rfl hl.1 rfl (Nat.le_of_ble_eq_true rfl) dX9_clear_39 ⟨Nat.zero_le _, Nat.zero_le _⟩ (fun u_1 H locs hw hP hS => ?_)
      refine lv_aload_n hx hb dX9_clear_42 rfl (lv_at hl 0 rfl) ?_
      refine lv_iconst (v := 0) hx hb dX9_clear_43 (by decide) ?_
      refine pC_X9_hasRun F hK iw_X9 hP hDs hS f_f32 dX9_clear_44 (Or.inl rfl) (fun H locs hP hS => ?_)
      refine lv_iconst (v := 1) hx hb dX9_clear_47 (by decide) ?_
      exact rtZ F hr hlocks hK hw (Or.inr rfl) hP hS dX9_clear_48
  have hl := lv_entry ([.ref (ad 0), .int a1]) (n := 2) (Nat.le_of_ble_eq_true rfl)
  rw [lg_entry_eq]
  generalize (lg_sl ([.ref (ad 0), .int a1]) ++ List.replicate (2 - (lg_sl ([.ref (ad 0), .int a1])).length) Slot.unset).toArray = ls at hl ⊢
  have hl : lv_has ls 2 [(0, .ref (ad 0)), (1, .int a1)] := hl
  have key : ∀ (H : Heap), va_P D vwCl ((wdC ad cI cJ) σ) H → va_S (AW ad 42 s.heap.size) s.heap H [] → W p l e (headSpec wsX9_clear rm_X9_clear).room s m ([.ref (ad 0), .int a1] : List Value).toArray below meth c H [] 0 0 (MQ below (va_Qi (fun r u => zb r ∧ K r u) (inW D (wdC ad cI cJ) [(cI, .int), (cJ, .long)]) (AW ad 42 s.heap.size)) ([.ref (ad 0), .int a1] : List Value).toArray s 0 0 (AW ad 42 s.heap.size)) (F0 m 0 ls []) := by
    intro H hP hS
    unfold w_X9_clear at hw
    refine lv_iload_n hx hb dX9_clear_0 rfl (lv_at hl 1 rfl) ?_
    refine lv_if_lt (tgt := 9) hx hb dX9_clear_1 (by decide) (fun c_10 => ?_) (fun c_10 => ?_)
    · have hw := hw.1 c_10
      refine lv_iconst (v := 0) hx hb dX9_clear_9 (by decide) ?_
      exact rtZ F hr hlocks hK hw (Or.inl rfl) hP hS dX9_clear_10
    · have hw := hw.2 c_10
      refine lv_iload_n hx hb dX9_clear_4 rfl (lv_at hl 1 rfl) ?_
      refine lv_iconst (v := 2) hx hb dX9_clear_5 (by decide) ?_
      refine lv_icmp_le (tgt := 11) hx hb dX9_clear_6 (by decide) (fun c_9 => ?_) (fun c_9 => ?_)
      · have hw := hw.1 c_9
        refine lv_aload_n hx hb dX9_clear_11 rfl (lv_at hl 0 rfl) ?_
        refine gC_X9_graph F hK iw_X9 hP f_f10 dX9_clear_12 ?_
        refine cvV (As := []) (rest := []) F hK hP hS (c_X2_dropTokens l D ad cI cJ hap H.size _ _ hw) (cwV 0 hts gX9_clear_X2_dropTokens rfl rfl rfl (by decide +kernel) ⟨Nat.le_of_ble_eq_true rfl, Nat.le_of_ble_eq_true rfl⟩) (va_recv hK hP (ci := 2) (q0 := 1) rfl rfl) rfl hl.1 rfl (Nat.le_of_ble_eq_true rfl) dX9_clear_15 ⟨Nat.zero_le _, Nat.zero_le _⟩ (fun u_4 H locs hw hP hS => ?_)
        refine lv_iload_n hx hb dX9_clear_18 rfl (lv_at hl 1 rfl) ?_
        refine lv_iconst (v := 1) hx hb dX9_clear_19 (by decide) ?_
        refine lv_icmp_lt (tgt := 30) hx hb dX9_clear_20 (by decide) (fun c_8 => ?_) (fun c_8 => ?_)
        · have hw := hw.1 c_8
          exact lab_30 _ _ _ _ _ hw hP hS (lv_sub hl [0, 1] rfl)
        · have hw := hw.2 c_8
          refine lv_aload_n hx hb dX9_clear_23 rfl (lv_at hl 0 rfl) ?_
          refine gC_X9_graph F hK iw_X9 hP f_f10 dX9_clear_24 ?_
          refine cvV (As := []) (rest := []) F hK hP hS (c_X2_dropWays l D ad cI cJ hap H.size _ _ hw) (cwV 0 hts gX9_clear_X2_dropWays rfl rfl rfl (by decide +kernel) ⟨Nat.le_of_ble_eq_true rfl, Nat.le_of_ble_eq_true rfl⟩) (va_recv hK hP (ci := 2) (q0 := 1) rfl rfl) rfl hl.1 rfl (Nat.le_of_ble_eq_true rfl) dX9_clear_27 ⟨Nat.zero_le _, Nat.zero_le _⟩ (fun u_6 H locs hw hP hS => ?_)
          exact lab_30 _ _ _ _ _ hw hP hS (lv_sub hl [0, 1] rfl)
      · have hw := hw.2 c_9
        refine lv_iconst (v := 0) hx hb dX9_clear_9 (by decide) ?_
        exact rtZ F hr hlocks hK hw (Or.inl rfl) hP hS dX9_clear_10
  exact key s.heap hP hS

abbrev rm_X9_isFuel : Room := { frames := 0, cells := 0, slots := 0, locals := 0 }
set_option maxHeartbeats 4000000 in
set_option maxRecDepth 100000 in
theorem c_X9_isFuel (l : Launch) (D : va_G) (ad : Nat → Nat) (cI cJ : ClassId) (hap : apart ad 42) (sz : Nat) (σ : St) (a1 : Int32) (K : Int32 → St → Prop) (hw : w_X9_isFuel σ a1 K) : Met l yX9_isFuel wsX9_isFuel rm_X9_isFuel (va_Pc [.int a1] (fun U => U.heap.size = sz ∧ inW D (wdC ad cI cJ) [(cI, .int), (cJ, .long)] σ U)) (va_Qi (fun r u => zb r ∧ K r u) (inW D (wdC ad cI cJ) [(cI, .int), (cJ, .long)]) (AW ad 42 sz)) 0 0 (AW ad 42 sz) := by
  refine Met.ofW (cc := cX9_isFuel) (maxL := 1) (ret := (some .boolean)) (by decide) rfl ?_
  intro p e s m args below meth c s₁ B hml hv
  obtain ⟨rfl, hsz, ⟨hP, hK⟩⟩ := hv
  have F : CallFix p m c cX9_isFuel 1 s ([.int a1] : List Value).toArray wsX9_isFuel RX9 := ⟨B.exec, B.bytes, hml, findClass_of_methodNamed B.named, atoms_spec (ws := wsX9_isFuel) B.pre⟩
  have hx := F.1
  have hb := F.2.1
  have hown := F.2.2.2.1
  have hts := F.2.2.2.2
  have hr := B.returns
  have hlocks := B.notSynchronized
  subst hsz
  have hDs : ∀ σ, va_D (AW ad 42 s.heap.size) ((wdC ad cI cJ) σ) := fun σ => wdC_D hap σ
  have hS : va_S (AW ad 42 s.heap.size) s.heap s.heap [] := va_S.rf
  have hl := lv_entry ([.int a1]) (n := 1) (Nat.le_of_ble_eq_true rfl)
  rw [lg_entry_eq]
  generalize (lg_sl ([.int a1]) ++ List.replicate (1 - (lg_sl ([.int a1])).length) Slot.unset).toArray = ls at hl ⊢
  have hl : lv_has ls 1 [(0, .int a1)] := hl
  have key : ∀ (H : Heap), va_P D vwCl ((wdC ad cI cJ) σ) H → va_S (AW ad 42 s.heap.size) s.heap H [] → W p l e (headSpec wsX9_isFuel rm_X9_isFuel).room s m ([.int a1] : List Value).toArray below meth c H [] 0 0 (MQ below (va_Qi (fun r u => zb r ∧ K r u) (inW D (wdC ad cI cJ) [(cI, .int), (cJ, .long)]) (AW ad 42 s.heap.size)) ([.int a1] : List Value).toArray s 0 0 (AW ad 42 s.heap.size)) (F0 m 0 ls []) := by
    intro H hP hS
    unfold w_X9_isFuel at hw
    refine lv_iload_n hx hb dX9_isFuel_0 rfl (lv_at hl 0 rfl) ?_
    refine lv_if_lt (tgt := 15) hx hb dX9_isFuel_1 (by decide) (fun c_2 => ?_) (fun c_2 => ?_)
    · have hw := hw.1 c_2
      refine lv_iconst (v := 0) hx hb dX9_isFuel_15 (by decide) ?_
      exact rtZ F hr hlocks hK hw (Or.inl rfl) hP hS dX9_isFuel_16
    · have hw := hw.2 c_2
      refine lv_iload_n hx hb dX9_isFuel_4 rfl (lv_at hl 0 rfl) ?_
      refine lv_sipush (v := 4000) hx hb dX9_isFuel_5 (by decide) ?_
      refine lv_icmp_gt (tgt := 15) hx hb dX9_isFuel_8 (by decide) (fun c_1 => ?_) (fun c_1 => ?_)
      · have hw := hw.1 c_1
        refine lv_iconst (v := 0) hx hb dX9_isFuel_15 (by decide) ?_
        exact rtZ F hr hlocks hK hw (Or.inl rfl) hP hS dX9_isFuel_16
      · have hw := hw.2 c_1
        refine lv_iconst (v := 1) hx hb dX9_isFuel_11 (by decide) ?_
        refine lv_goto (tgt := 16) hx hb dX9_isFuel_12 (by decide) ?_
        exact rtZ F hr hlocks hK hw (Or.inr rfl) hP hS dX9_isFuel_16
  exact key s.heap hP hS

abbrev rm_X9_run : Room := { frames := 7, cells := 0, slots := 0, locals := 177 }
set_option maxHeartbeats 4000000 in
set_option maxRecDepth 100000 in
theorem c_X9_run (l : Launch) (D : va_G) (ad : Nat → Nat) (cI cJ : ClassId) (hap : apart ad 42) (sz : Nat) (σ : St) (a1 : Int32) (a2 : Int32) (K : Int32 → St → Prop) (hw : w_X9_run σ a1 a2 K) : Met l yX9_run wsX9_run rm_X9_run (va_Pc [.ref (ad 0), .int a1, .int a2] (fun U => U.heap.size = sz ∧ inW D (wdC ad cI cJ) [(cI, .int), (cJ, .long)] σ U)) (va_Qi K (inW D (wdC ad cI cJ) [(cI, .int), (cJ, .long)]) (AW ad 42 sz)) 0 0 (AW ad 42 sz) := by
  refine Met.ofW (cc := cX9_run) (maxL := 3) (ret := (some .int)) (by decide) rfl ?_
  intro p e s m args below meth c s₁ B hml hv
  obtain ⟨rfl, hsz, ⟨hP, hK⟩⟩ := hv
  have F : CallFix p m c cX9_run 3 s ([.ref (ad 0), .int a1, .int a2] : List Value).toArray wsX9_run RX9 := ⟨B.exec, B.bytes, hml, findClass_of_methodNamed B.named, atoms_spec (ws := wsX9_run) B.pre⟩
  have hx := F.1
  have hb := F.2.1
  have hown := F.2.2.2.1
  have hts := F.2.2.2.2
  have hr := B.returns
  have hlocks := B.notSynchronized
  subst hsz
  have hDs : ∀ σ, va_D (AW ad 42 s.heap.size) ((wdC ad cI cJ) σ) := fun σ => wdC_D hap σ
  have hS : va_S (AW ad 42 s.heap.size) s.heap s.heap [] := va_S.rf
  have iw_X9 : ∀ w ∈ u_ws RX9 TX9 5, w ∈ wsX9_run := by decide +kernel
  have f_f21 := hts (.fieldLink RX9 21 "TokenFloor" "machine" "LTokenFloor$Machine;") (by decide +kernel)
  have f_f32 := hts (.fieldLink RX9 32 "TokenFloor" "hasRun" "Z") (by decide +kernel)
  have hl := lv_entry ([.ref (ad 0), .int a1, .int a2]) (n := 3) (Nat.le_of_ble_eq_true rfl)
  rw [lg_entry_eq]
  generalize (lg_sl ([.ref (ad 0), .int a1, .int a2]) ++ List.replicate (3 - (lg_sl ([.ref (ad 0), .int a1, .int a2])).length) Slot.unset).toArray = ls at hl ⊢
  have hl : lv_has ls 3 [(0, .ref (ad 0)), (1, .int a1), (2, .int a2)] := hl
  have key : ∀ (H : Heap), va_P D vwCl ((wdC ad cI cJ) σ) H → va_S (AW ad 42 s.heap.size) s.heap H [] → W p l e (headSpec wsX9_run rm_X9_run).room s m ([.ref (ad 0), .int a1, .int a2] : List Value).toArray below meth c H [] 0 0 (MQ below (va_Qi K (inW D (wdC ad cI cJ) [(cI, .int), (cJ, .long)]) (AW ad 42 s.heap.size)) ([.ref (ad 0), .int a1, .int a2] : List Value).toArray s 0 0 (AW ad 42 s.heap.size)) (F0 m 0 ls []) := by
    intro H hP hS
    unfold w_X9_run at hw
    refine lv_iload_n hx hb dX9_run_0 rfl (lv_at hl 2 rfl) ?_
    refine csI (As := [.int a2]) (rest := []) F hK hP hS (c_X9_isFuel l D ad cI cJ hap H.size _ _ _ hw) (va_cwS 1 hts gX9_run_X9_isFuel rfl rfl rfl (by decide +kernel) ⟨Nat.le_of_ble_eq_true rfl, Nat.le_of_ble_eq_true rfl⟩) rfl hl.1 rfl (Nat.le_of_ble_eq_true rfl) dX9_run_1 ⟨Nat.zero_le _, Nat.zero_le _⟩ (fun r_2 u_1 H locs hw hP hS => ?_)
    obtain ⟨zr_2, hw⟩ := hw
    refine lv_if_ne (tgt := 9) hx hb dX9_run_4 (by decide) (fun c_5 => ?_) (fun c_5 => ?_)
    · have hw := hw.1 c_5
      refine lv_aload_n hx hb dX9_run_9 rfl (lv_at hl 0 rfl) ?_
      refine lv_iconst (v := 1) hx hb dX9_run_10 (by decide) ?_
      refine pC_X9_hasRun F hK iw_X9 hP hDs hS f_f32 dX9_run_11 (Or.inr rfl) (fun H locs hP hS => ?_)
      refine lv_aload_n hx hb dX9_run_14 rfl (lv_at hl 0 rfl) ?_
      refine gC_X9_machine F hK iw_X9 hP f_f21 dX9_run_15 ?_
      refine lv_iload_n hx hb dX9_run_18 rfl (lv_at hl 1 rfl) ?_
      refine lv_iload_n hx hb dX9_run_19 rfl (lv_at hl 2 rfl) ?_
      refine cvI (As := [.int a1, .int a2]) (rest := []) F hK hP hS (c_X4_goBySeed l D ad cI cJ hap H.size _ _ _ _ hw) (cwV 2 hts gX9_run_X4_goBySeed rfl rfl rfl (by decide +kernel) ⟨Nat.le_of_ble_eq_true rfl, Nat.le_of_ble_eq_true rfl⟩) (va_recv hK hP (ci := 3) (q0 := 2) rfl rfl) rfl hl.1 rfl (Nat.le_of_ble_eq_true rfl) dX9_run_20 ⟨Nat.zero_le _, Nat.zero_le _⟩ (fun r_4 u_3 H locs hw hP hS => ?_)
      exact rtI F hr hlocks hK hw hP hS dX9_run_23
    · have hw := hw.2 c_5
      refine lv_iconst (v := (-1)) hx hb dX9_run_7 (by decide) ?_
      exact rtI F hr hlocks hK hw hP hS dX9_run_8
  exact key s.heap hP hS

abbrev rm_X9_ticks : Room := { frames := 8, cells := 0, slots := 0, locals := 197 }
set_option maxHeartbeats 4000000 in
set_option maxRecDepth 100000 in
theorem c_X9_ticks (l : Launch) (D : va_G) (ad : Nat → Nat) (cI cJ : ClassId) (hap : apart ad 42) (sz : Nat) (σ : St) (a1 : Int32) (K : Int32 → St → Prop) (hw : w_X9_ticks σ a1 K) : Met l yX9_ticks wsX9_ticks rm_X9_ticks (va_Pc [.ref (ad 0), .int a1] (fun U => U.heap.size = sz ∧ inW D (wdC ad cI cJ) [(cI, .int), (cJ, .long)] σ U)) (va_Qi K (inW D (wdC ad cI cJ) [(cI, .int), (cJ, .long)]) (AW ad 42 sz)) 0 0 (AW ad 42 sz) := by
  refine Met.ofW (cc := cX9_ticks) (maxL := 2) (ret := (some .int)) (by decide) rfl ?_
  intro p e s m args below meth c s₁ B hml hv
  obtain ⟨rfl, hsz, ⟨hP, hK⟩⟩ := hv
  have F : CallFix p m c cX9_ticks 2 s ([.ref (ad 0), .int a1] : List Value).toArray wsX9_ticks RX9 := ⟨B.exec, B.bytes, hml, findClass_of_methodNamed B.named, atoms_spec (ws := wsX9_ticks) B.pre⟩
  have hx := F.1
  have hb := F.2.1
  have hown := F.2.2.2.1
  have hts := F.2.2.2.2
  have hr := B.returns
  have hlocks := B.notSynchronized
  subst hsz
  have hDs : ∀ σ, va_D (AW ad 42 s.heap.size) ((wdC ad cI cJ) σ) := fun σ => wdC_D hap σ
  have hS : va_S (AW ad 42 s.heap.size) s.heap s.heap [] := va_S.rf
  have iw_X9 : ∀ w ∈ u_ws RX9 TX9 5, w ∈ wsX9_ticks := by decide +kernel
  have f_f21 := hts (.fieldLink RX9 21 "TokenFloor" "machine" "LTokenFloor$Machine;") (by decide +kernel)
  have f_f32 := hts (.fieldLink RX9 32 "TokenFloor" "hasRun" "Z") (by decide +kernel)
  have hl := lv_entry ([.ref (ad 0), .int a1]) (n := 2) (Nat.le_of_ble_eq_true rfl)
  rw [lg_entry_eq]
  generalize (lg_sl ([.ref (ad 0), .int a1]) ++ List.replicate (2 - (lg_sl ([.ref (ad 0), .int a1])).length) Slot.unset).toArray = ls at hl ⊢
  have hl : lv_has ls 2 [(0, .ref (ad 0)), (1, .int a1)] := hl
  have key : ∀ (H : Heap), va_P D vwCl ((wdC ad cI cJ) σ) H → va_S (AW ad 42 s.heap.size) s.heap H [] → W p l e (headSpec wsX9_ticks rm_X9_ticks).room s m ([.ref (ad 0), .int a1] : List Value).toArray below meth c H [] 0 0 (MQ below (va_Qi K (inW D (wdC ad cI cJ) [(cI, .int), (cJ, .long)]) (AW ad 42 s.heap.size)) ([.ref (ad 0), .int a1] : List Value).toArray s 0 0 (AW ad 42 s.heap.size)) (F0 m 0 ls []) := by
    intro H hP hS
    unfold w_X9_ticks at hw
    refine lv_iload_n hx hb dX9_ticks_0 rfl (lv_at hl 1 rfl) ?_
    refine csI (As := [.int a1]) (rest := []) F hK hP hS (c_X9_isFuel l D ad cI cJ hap H.size _ _ _ hw) (va_cwS 1 hts gX9_ticks_X9_isFuel rfl rfl rfl (by decide +kernel) ⟨Nat.le_of_ble_eq_true rfl, Nat.le_of_ble_eq_true rfl⟩) rfl hl.1 rfl (Nat.le_of_ble_eq_true rfl) dX9_ticks_1 ⟨Nat.zero_le _, Nat.zero_le _⟩ (fun r_2 u_1 H locs hw hP hS => ?_)
    obtain ⟨zr_2, hw⟩ := hw
    refine lv_if_ne (tgt := 9) hx hb dX9_ticks_4 (by decide) (fun c_5 => ?_) (fun c_5 => ?_)
    · have hw := hw.1 c_5
      refine lv_aload_n hx hb dX9_ticks_9 rfl (lv_at hl 0 rfl) ?_
      refine lv_iconst (v := 1) hx hb dX9_ticks_10 (by decide) ?_
      refine pC_X9_hasRun F hK iw_X9 hP hDs hS f_f32 dX9_ticks_11 (Or.inr rfl) (fun H locs hP hS => ?_)
      refine lv_aload_n hx hb dX9_ticks_14 rfl (lv_at hl 0 rfl) ?_
      refine gC_X9_machine F hK iw_X9 hP f_f21 dX9_ticks_15 ?_
      refine lv_iload_n hx hb dX9_ticks_18 rfl (lv_at hl 1 rfl) ?_
      refine cvI (As := [.int a1]) (rest := []) F hK hP hS (c_X4_goByTicks l D ad cI cJ hap H.size _ _ _ hw) (cwV 1 hts gX9_ticks_X4_goByTicks rfl rfl rfl (by decide +kernel) ⟨Nat.le_of_ble_eq_true rfl, Nat.le_of_ble_eq_true rfl⟩) (va_recv hK hP (ci := 3) (q0 := 2) rfl rfl) rfl hl.1 rfl (Nat.le_of_ble_eq_true rfl) dX9_ticks_19 ⟨Nat.zero_le _, Nat.zero_le _⟩ (fun r_4 u_3 H locs hw hP hS => ?_)
      exact rtI F hr hlocks hK hw hP hS dX9_ticks_22
    · have hw := hw.2 c_5
      refine lv_iconst (v := (-1)) hx hb dX9_ticks_7 (by decide) ?_
      exact rtI F hr hlocks hK hw hP hS dX9_ticks_8
  exact key s.heap hP hS

abbrev rm_X9_about : Room := { frames := 2, cells := 0, slots := 0, locals := 41 }
set_option maxHeartbeats 4000000 in
set_option maxRecDepth 100000 in
theorem c_X9_about (l : Launch) (D : va_G) (ad : Nat → Nat) (cI cJ : ClassId) (hap : apart ad 42) (sz : Nat) (σ : St) (a1 : Int32) (K : Int32 → St → Prop) (hw : w_X9_about σ a1 K) : Met l yX9_about wsX9_about rm_X9_about (va_Pc [.ref (ad 0), .int a1] (fun U => U.heap.size = sz ∧ inW D (wdC ad cI cJ) [(cI, .int), (cJ, .long)] σ U)) (va_Qi K (inW D (wdC ad cI cJ) [(cI, .int), (cJ, .long)]) (AW ad 42 sz)) 0 0 (AW ad 42 sz) := by
  refine Met.ofW (cc := cX9_about) (maxL := 2) (ret := (some .int)) (by decide) rfl ?_
  intro p e s m args below meth c s₁ B hml hv
  obtain ⟨rfl, hsz, ⟨hP, hK⟩⟩ := hv
  have F : CallFix p m c cX9_about 2 s ([.ref (ad 0), .int a1] : List Value).toArray wsX9_about RX9 := ⟨B.exec, B.bytes, hml, findClass_of_methodNamed B.named, atoms_spec (ws := wsX9_about) B.pre⟩
  have hx := F.1
  have hb := F.2.1
  have hown := F.2.2.2.1
  have hts := F.2.2.2.2
  have hr := B.returns
  have hlocks := B.notSynchronized
  subst hsz
  have hDs : ∀ σ, va_D (AW ad 42 s.heap.size) ((wdC ad cI cJ) σ) := fun σ => wdC_D hap σ
  have hS : va_S (AW ad 42 s.heap.size) s.heap s.heap [] := va_S.rf
  have iw_X9 : ∀ w ∈ u_ws RX9 TX9 5, w ∈ wsX9_about := by decide +kernel
  have f_f21 := hts (.fieldLink RX9 21 "TokenFloor" "machine" "LTokenFloor$Machine;") (by decide +kernel)
  have f_f32 := hts (.fieldLink RX9 32 "TokenFloor" "hasRun" "Z") (by decide +kernel)
  have hl := lv_entry ([.ref (ad 0), .int a1]) (n := 2) (Nat.le_of_ble_eq_true rfl)
  rw [lg_entry_eq]
  generalize (lg_sl ([.ref (ad 0), .int a1]) ++ List.replicate (2 - (lg_sl ([.ref (ad 0), .int a1])).length) Slot.unset).toArray = ls at hl ⊢
  have hl : lv_has ls 2 [(0, .ref (ad 0)), (1, .int a1)] := hl
  have key : ∀ (H : Heap), va_P D vwCl ((wdC ad cI cJ) σ) H → va_S (AW ad 42 s.heap.size) s.heap H [] → W p l e (headSpec wsX9_about rm_X9_about).room s m ([.ref (ad 0), .int a1] : List Value).toArray below meth c H [] 0 0 (MQ below (va_Qi K (inW D (wdC ad cI cJ) [(cI, .int), (cJ, .long)]) (AW ad 42 s.heap.size)) ([.ref (ad 0), .int a1] : List Value).toArray s 0 0 (AW ad 42 s.heap.size)) (F0 m 0 ls []) := by
    intro H hP hS
    unfold w_X9_about at hw
    refine lv_aload_n hx hb dX9_about_0 rfl (lv_at hl 0 rfl) ?_
    refine gC_X9_hasRun F hK iw_X9 hP f_f32 dX9_about_1 ?_
    refine W.eq (g2 := F0 m 4 ls [.int (gS σ 0)]) rfl ?_
    refine lv_if_eq (tgt := 18) hx hb dX9_about_4 (by decide) (fun c_3 => ?_) (fun c_3 => ?_)
    · have hw := hw.1 c_3
      refine lv_iconst (v := (-1)) hx hb dX9_about_18 (by decide) ?_
      exact rtI F hr hlocks hK hw hP hS dX9_about_19
    · have hw := hw.2 c_3
      refine lv_aload_n hx hb dX9_about_7 rfl (lv_at hl 0 rfl) ?_
      refine gC_X9_machine F hK iw_X9 hP f_f21 dX9_about_8 ?_
      refine lv_iload_n hx hb dX9_about_11 rfl (lv_at hl 1 rfl) ?_
      refine cvI (As := [.int a1]) (rest := []) F hK hP hS (c_X4_figure l D ad cI cJ hap H.size _ _ _ hw) (cwV 1 hts gX9_about_X4_figure rfl rfl rfl (by decide +kernel) ⟨Nat.le_of_ble_eq_true rfl, Nat.le_of_ble_eq_true rfl⟩) (va_recv hK hP (ci := 3) (q0 := 2) rfl rfl) rfl hl.1 rfl (Nat.le_of_ble_eq_true rfl) dX9_about_12 ⟨Nat.zero_le _, Nat.zero_le _⟩ (fun r_2 u_1 H locs hw hP hS => ?_)
      refine lv_goto (tgt := 19) hx hb dX9_about_15 (by decide) ?_
      exact rtI F hr hlocks hK hw hP hS dX9_about_19
  exact key s.heap hP hS

abbrev rm_X9_end : Room := { frames := 2, cells := 0, slots := 0, locals := 46 }
set_option maxHeartbeats 4000000 in
set_option maxRecDepth 100000 in
theorem c_X9_end (l : Launch) (D : va_G) (ad : Nat → Nat) (cI cJ : ClassId) (hap : apart ad 42) (sz : Nat) (σ : St) (a1 : Int32) (a2 : Int32) (K : Int32 → St → Prop) (hw : w_X9_end σ a1 a2 K) : Met l yX9_end wsX9_end rm_X9_end (va_Pc [.ref (ad 0), .int a1, .int a2] (fun U => U.heap.size = sz ∧ inW D (wdC ad cI cJ) [(cI, .int), (cJ, .long)] σ U)) (va_Qi K (inW D (wdC ad cI cJ) [(cI, .int), (cJ, .long)]) (AW ad 42 sz)) 0 0 (AW ad 42 sz) := by
  refine Met.ofW (cc := cX9_end) (maxL := 3) (ret := (some .int)) (by decide) rfl ?_
  intro p e s m args below meth c s₁ B hml hv
  obtain ⟨rfl, hsz, ⟨hP, hK⟩⟩ := hv
  have F : CallFix p m c cX9_end 3 s ([.ref (ad 0), .int a1, .int a2] : List Value).toArray wsX9_end RX9 := ⟨B.exec, B.bytes, hml, findClass_of_methodNamed B.named, atoms_spec (ws := wsX9_end) B.pre⟩
  have hx := F.1
  have hb := F.2.1
  have hown := F.2.2.2.1
  have hts := F.2.2.2.2
  have hr := B.returns
  have hlocks := B.notSynchronized
  subst hsz
  have hDs : ∀ σ, va_D (AW ad 42 s.heap.size) ((wdC ad cI cJ) σ) := fun σ => wdC_D hap σ
  have hS : va_S (AW ad 42 s.heap.size) s.heap s.heap [] := va_S.rf
  have iw_X4 : ∀ w ∈ u_ws RX4 TX4 14, w ∈ wsX9_end := by decide +kernel
  have iw_X9 : ∀ w ∈ u_ws RX9 TX9 5, w ∈ wsX9_end := by decide +kernel
  have f_f21 := hts (.fieldLink RX9 21 "TokenFloor" "machine" "LTokenFloor$Machine;") (by decide +kernel)
  have f_f32 := hts (.fieldLink RX9 32 "TokenFloor" "hasRun" "Z") (by decide +kernel)
  have f_f71 := hts (.fieldLink RX9 71 "TokenFloor$Machine" "ends" "[J") (by decide +kernel)
  have hl := lv_entry ([.ref (ad 0), .int a1, .int a2]) (n := 3) (Nat.le_of_ble_eq_true rfl)
  rw [lg_entry_eq]
  generalize (lg_sl ([.ref (ad 0), .int a1, .int a2]) ++ List.replicate (3 - (lg_sl ([.ref (ad 0), .int a1, .int a2])).length) Slot.unset).toArray = ls at hl ⊢
  have hl : lv_has ls 3 [(0, .ref (ad 0)), (1, .int a1), (2, .int a2)] := hl
  have key : ∀ (H : Heap), va_P D vwCl ((wdC ad cI cJ) σ) H → va_S (AW ad 42 s.heap.size) s.heap H [] → W p l e (headSpec wsX9_end rm_X9_end).room s m ([.ref (ad 0), .int a1, .int a2] : List Value).toArray below meth c H [] 0 0 (MQ below (va_Qi K (inW D (wdC ad cI cJ) [(cI, .int), (cJ, .long)]) (AW ad 42 s.heap.size)) ([.ref (ad 0), .int a1, .int a2] : List Value).toArray s 0 0 (AW ad 42 s.heap.size)) (F0 m 0 ls []) := by
    intro H hP hS
    unfold w_X9_end at hw
    refine lv_aload_n hx hb dX9_end_0 rfl (lv_at hl 0 rfl) ?_
    refine gC_X9_hasRun F hK iw_X9 hP f_f32 dX9_end_1 ?_
    refine W.eq (g2 := F0 m 4 ls [.int (gS σ 0)]) rfl ?_
    refine lv_if_eq (tgt := 17) hx hb dX9_end_4 (by decide) (fun c_6 => ?_) (fun c_6 => ?_)
    · have hw := hw.1 c_6
      refine lv_iconst (v := (-1)) hx hb dX9_end_17 (by decide) ?_
      exact rtI F hr hlocks hK hw hP hS dX9_end_18
    · have hw := hw.2 c_6
      refine lv_iload_n hx hb dX9_end_7 rfl (lv_at hl 1 rfl) ?_
      refine lv_if_lt (tgt := 17) hx hb dX9_end_8 (by decide) (fun c_5 => ?_) (fun c_5 => ?_)
      · have hw := hw.1 c_5
        refine lv_iconst (v := (-1)) hx hb dX9_end_17 (by decide) ?_
        exact rtI F hr hlocks hK hw hP hS dX9_end_18
      · have hw := hw.2 c_5
        refine lv_iload_n hx hb dX9_end_11 rfl (lv_at hl 1 rfl) ?_
        refine lv_bipush (v := 10) hx hb dX9_end_12 (by decide) ?_
        refine lv_icmp_lt (tgt := 19) hx hb dX9_end_14 (by decide) (fun c_4 => ?_) (fun c_4 => ?_)
        · have hw := hw.1 c_4
          refine lv_aload_n hx hb dX9_end_19 rfl (lv_at hl 0 rfl) ?_
          refine gC_X9_machine F hK iw_X9 hP f_f21 dX9_end_20 ?_
          refine lv_aload_n hx hb dX9_end_23 rfl (lv_at hl 0 rfl) ?_
          refine gC_X9_machine F hK iw_X9 hP f_f21 dX9_end_24 ?_
          refine gC_X4_ends F hK iw_X4 hP f_f71 dX9_end_27 ?_
          refine lv_iload_n hx hb dX9_end_30 rfl (lv_at hl 1 rfl) ?_
          obtain ⟨i_3, hw⟩ := hw
          refine lC_X4_ends F hK hP i_3 dX9_end_31 ?_
          refine lv_iload_n hx hb dX9_end_32 rfl (lv_at hl 2 rfl) ?_
          refine cvI (As := [.long (gL σ 2 (a1).toNatClampNeg), .int a2]) (rest := []) F hK hP hS (c_X4_describe l D ad cI cJ hap H.size _ _ _ _ hw) (cwV 2 hts gX9_end_X4_describe rfl rfl rfl (by decide +kernel) ⟨Nat.le_of_ble_eq_true rfl, Nat.le_of_ble_eq_true rfl⟩) (va_recv hK hP (ci := 3) (q0 := 2) rfl rfl) rfl hl.1 rfl (Nat.le_of_ble_eq_true rfl) dX9_end_33 ⟨Nat.zero_le _, Nat.zero_le _⟩ (fun r_2 u_1 H locs hw hP hS => ?_)
          exact rtI F hr hlocks hK hw hP hS dX9_end_36
        · have hw := hw.2 c_4
          refine lv_iconst (v := (-1)) hx hb dX9_end_17 (by decide) ?_
          exact rtI F hr hlocks hK hw hP hS dX9_end_18
  exact key s.heap hP hS

abbrev rm_X9_fired : Room := { frames := 1, cells := 0, slots := 0, locals := 21 }
set_option maxHeartbeats 4000000 in
set_option maxRecDepth 100000 in
theorem c_X9_fired (l : Launch) (D : va_G) (ad : Nat → Nat) (cI cJ : ClassId) (hap : apart ad 42) (sz : Nat) (σ : St) (a1 : Int32) (K : Int32 → St → Prop) (hw : w_X9_fired σ a1 K) : Met l yX9_fired wsX9_fired rm_X9_fired (va_Pc [.ref (ad 0), .int a1] (fun U => U.heap.size = sz ∧ inW D (wdC ad cI cJ) [(cI, .int), (cJ, .long)] σ U)) (va_Qi K (inW D (wdC ad cI cJ) [(cI, .int), (cJ, .long)]) (AW ad 42 sz)) 0 0 (AW ad 42 sz) := by
  refine Met.ofW (cc := cX9_fired) (maxL := 2) (ret := (some .int)) (by decide) rfl ?_
  intro p e s m args below meth c s₁ B hml hv
  obtain ⟨rfl, hsz, ⟨hP, hK⟩⟩ := hv
  have F : CallFix p m c cX9_fired 2 s ([.ref (ad 0), .int a1] : List Value).toArray wsX9_fired RX9 := ⟨B.exec, B.bytes, hml, findClass_of_methodNamed B.named, atoms_spec (ws := wsX9_fired) B.pre⟩
  have hx := F.1
  have hb := F.2.1
  have hown := F.2.2.2.1
  have hts := F.2.2.2.2
  have hr := B.returns
  have hlocks := B.notSynchronized
  subst hsz
  have hDs : ∀ σ, va_D (AW ad 42 s.heap.size) ((wdC ad cI cJ) σ) := fun σ => wdC_D hap σ
  have hS : va_S (AW ad 42 s.heap.size) s.heap s.heap [] := va_S.rf
  have iw_X4 : ∀ w ∈ u_ws RX4 TX4 14, w ∈ wsX9_fired := by decide +kernel
  have iw_X9 : ∀ w ∈ u_ws RX9 TX9 5, w ∈ wsX9_fired := by decide +kernel
  have f_f10 := hts (.fieldLink RX9 10 "TokenFloor" "graph" "LTokenFloor$Graph;") (by decide +kernel)
  have f_f21 := hts (.fieldLink RX9 21 "TokenFloor" "machine" "LTokenFloor$Machine;") (by decide +kernel)
  have f_f32 := hts (.fieldLink RX9 32 "TokenFloor" "hasRun" "Z") (by decide +kernel)
  have f_f81 := hts (.fieldLink RX9 81 "TokenFloor$Machine" "firings" "[I") (by decide +kernel)
  have hl := lv_entry ([.ref (ad 0), .int a1]) (n := 2) (Nat.le_of_ble_eq_true rfl)
  rw [lg_entry_eq]
  generalize (lg_sl ([.ref (ad 0), .int a1]) ++ List.replicate (2 - (lg_sl ([.ref (ad 0), .int a1])).length) Slot.unset).toArray = ls at hl ⊢
  have hl : lv_has ls 2 [(0, .ref (ad 0)), (1, .int a1)] := hl
  have key : ∀ (H : Heap), va_P D vwCl ((wdC ad cI cJ) σ) H → va_S (AW ad 42 s.heap.size) s.heap H [] → W p l e (headSpec wsX9_fired rm_X9_fired).room s m ([.ref (ad 0), .int a1] : List Value).toArray below meth c H [] 0 0 (MQ below (va_Qi K (inW D (wdC ad cI cJ) [(cI, .int), (cJ, .long)]) (AW ad 42 s.heap.size)) ([.ref (ad 0), .int a1] : List Value).toArray s 0 0 (AW ad 42 s.heap.size)) (F0 m 0 ls []) := by
    intro H hP hS
    unfold w_X9_fired at hw
    refine lv_aload_n hx hb dX9_fired_0 rfl (lv_at hl 0 rfl) ?_
    refine gC_X9_hasRun F hK iw_X9 hP f_f32 dX9_fired_1 ?_
    refine W.eq (g2 := F0 m 4 ls [.int (gS σ 0)]) rfl ?_
    refine lv_if_eq (tgt := 30) hx hb dX9_fired_4 (by decide) (fun c_5 => ?_) (fun c_5 => ?_)
    · have hw := hw.1 c_5
      refine lv_iconst (v := (-1)) hx hb dX9_fired_30 (by decide) ?_
      exact rtI F hr hlocks hK hw hP hS dX9_fired_31
    · have hw := hw.2 c_5
      refine lv_aload_n hx hb dX9_fired_7 rfl (lv_at hl 0 rfl) ?_
      refine gC_X9_graph F hK iw_X9 hP f_f10 dX9_fired_8 ?_
      refine lv_iload_n hx hb dX9_fired_11 rfl (lv_at hl 1 rfl) ?_
      refine cvI (As := [.int a1]) (rest := []) F hK hP hS (c_X2_hasAct l D ad cI cJ hap H.size _ _ _ hw) (cwV 1 hts gX9_fired_X2_hasAct rfl rfl rfl (by decide +kernel) ⟨Nat.le_of_ble_eq_true rfl, Nat.le_of_ble_eq_true rfl⟩) (va_recv hK hP (ci := 2) (q0 := 1) rfl rfl) rfl hl.1 rfl (Nat.le_of_ble_eq_true rfl) dX9_fired_12 ⟨Nat.zero_le _, Nat.zero_le _⟩ (fun r_2 u_1 H locs hw hP hS => ?_)
      obtain ⟨zr_2, hw⟩ := hw
      refine lv_if_eq (tgt := 30) hx hb dX9_fired_15 (by decide) (fun c_4 => ?_) (fun c_4 => ?_)
      · have hw := hw.1 c_4
        refine lv_iconst (v := (-1)) hx hb dX9_fired_30 (by decide) ?_
        exact rtI F hr hlocks hK hw hP hS dX9_fired_31
      · have hw := hw.2 c_4
        refine lv_aload_n hx hb dX9_fired_18 rfl (lv_at hl 0 rfl) ?_
        refine gC_X9_machine F hK iw_X9 hP f_f21 dX9_fired_19 ?_
        refine gC_X4_firings F hK iw_X4 hP f_f81 dX9_fired_22 ?_
        refine lv_iload_n hx hb dX9_fired_25 rfl (lv_at hl 1 rfl) ?_
        obtain ⟨i_3, hw⟩ := hw
        refine lC_X4_firings F hK hP i_3 dX9_fired_26 ?_
        refine lv_goto (tgt := 31) hx hb dX9_fired_27 (by decide) ?_
        exact rtI F hr hlocks hK hw hP hS dX9_fired_31
  exact key s.heap hP hS
