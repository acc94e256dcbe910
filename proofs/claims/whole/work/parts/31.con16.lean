abbrev rm_X10_notes_is : Room := { frames := 2, cells := 0, slots := 0, locals := 46 }
set_option maxHeartbeats 4000000 in
set_option maxRecDepth 100000 in
theorem c_X10_notes_is (l : Launch) (D : va_G) (ad : Nat → Nat) (cI : ClassId) (hap : apart ad 40) (sz : Nat) (σ : St) (K : St → Prop) (hw : w_X10_notes_is σ K) : Met l yX10_notes wsX10_notes rm_X10_notes_is (va_Pc [.ref (ad 0), .ref (ad 39)] (fun U => U.heap.size = sz ∧ inW D (wdM ad cI) [(cI, .int)] σ U)) (va_Qv K (inW D (wdM ad cI) [(cI, .int)]) (AW ad 40 sz)) 0 0 (AW ad 40 sz) := by
  refine Met.ofW (cc := cX10_notes) (maxL := 4) (ret := none) (by decide) rfl ?_
  intro p e s m args below meth c s₁ B hml hv
  obtain ⟨rfl, hsz, ⟨hP, hK⟩⟩ := hv
  have F : CallFix p m c cX10_notes 4 s ([.ref (ad 0), .ref (ad 39)] : List Value).toArray wsX10_notes RX10 := ⟨B.exec, B.bytes, hml, findClass_of_methodNamed B.named, atoms_spec (ws := wsX10_notes) B.pre⟩
  have hx := F.1
  have hb := F.2.1
  have hown := F.2.2.2.1
  have hts := F.2.2.2.2
  have hr := B.returns
  have hlocks := B.notSynchronized
  subst hsz
  have hDs : ∀ σ, va_D (AW ad 40 s.heap.size) ((wdM ad cI) σ) := fun σ => wdM_D hap σ
  have hS : va_S (AW ad 40 s.heap.size) s.heap s.heap [] := va_S.rf
  have iw_X10 : ∀ w ∈ u_ws RX10 TX10 57, w ∈ wsX10_notes := by decide +kernel
  have f_f153 := hts (.fieldLink RX10 153 "TokenFloorModel" "how" "I") (by decide +kernel)
  have f_f218 := hts (.fieldLink RX10 218 "TokenFloorModel" "lost" "I") (by decide +kernel)
  have f_f231 := hts (.fieldLink RX10 231 "TokenFloorModel" "strays" "I") (by decide +kernel)
  have f_f245 := hts (.fieldLink RX10 245 "TokenFloorModel" "steps" "I") (by decide +kernel)
  have f_f79 := hts (.fieldLink RX10 79 "TokenFloorModel" "fired" "[I") (by decide +kernel)
  have lab_87 : ∀ (n : Nat), ∀ (σ : St) (x2 : Int32) (H : Heap) (locs : List Loc) (ls : Array Slot), w_X10_notes_is_87 K n σ x2 → va_P D vwCl ((wdM ad cI) σ) H → va_S (AW ad 40 s.heap.size) s.heap H locs → lv_has ls 4 [(0, .ref (ad 0)), (1, .ref (ad 39)), (2, .int x2)] → W p l e (headSpec wsX10_notes rm_X10_notes_is).room s m ([.ref (ad 0), .ref (ad 39)] : List Value).toArray below meth c H locs 0 0 (MQ below (va_Qv K (inW D (wdM ad cI) [(cI, .int)]) (AW ad 40 s.heap.size)) ([.ref (ad 0), .ref (ad 39)] : List Value).toArray s 0 0 (AW ad 40 s.heap.size)) (F0 m 87 ls []) := by
    intro n
    induction n with
    | zero =>
      intro σ x2 H locs ls hw
      exact hw.elim
    | succ n hL87 =>
      intro σ x2 H locs ls hw hP hS hl
      have hw : b_X10_notes_is_87 (w_X10_notes_is_87 K n) K σ x2 := hw
      unfold b_X10_notes_is_87 at hw
      generalize w_X10_notes_is_87 K n = L87 at hw hL87
      refine lv_iload_n hx hb dX10_notes_87 rfl (lv_at hl 2 rfl) ?_
      refine lv_bipush (v := 80) hx hb dX10_notes_88 (by decide) ?_
      refine lv_icmp_ge (tgt := 111) hx hb dX10_notes_90 (by decide) (fun c_3 => ?_) (fun c_3 => ?_)
      · have hw := hw.1 c_3
        exact rtV F hr hlocks hK hw hP hS dX10_notes_111
      · have hw := hw.2 c_3
        refine lv_aload_n hx hb dX10_notes_93 rfl (lv_at hl 1 rfl) ?_
        refine lv_bipush (v := 36) hx hb dX10_notes_94 (by decide) ?_
        refine lv_iload_n hx hb dX10_notes_96 rfl (lv_at hl 2 rfl) ?_
        refine lv_iadd hx hb dX10_notes_97 ?_
        refine lv_aload_n hx hb dX10_notes_98 rfl (lv_at hl 0 rfl) ?_
        refine gM_X10_fired F hK iw_X10 hP f_f79 dX10_notes_99 ?_
        refine lv_iload_n hx hb dX10_notes_102 rfl (lv_at hl 2 rfl) ?_
        obtain ⟨i_2, hw⟩ := hw
        refine lM_X10_fired F hK hP i_2 dX10_notes_103 ?_
        obtain ⟨i_1, hw⟩ := hw
        refine sM_X10_is F hK hP hDs hS i_1 dX10_notes_104 (fun H locs hP hS => ?_)
        refine lv_iinc (v := (x2 + 1)) (lv' := [(2, .int (x2 + 1)), (0, .ref (ad 0)), (1, .ref (ad 39))]) hx hb dX10_notes_105 hl (k := 2) rfl rfl (by decide) rfl (fun ls hl => ?_)
        refine lv_goto (tgt := 87) hx hb dX10_notes_108 (by decide) ?_
        exact hL87 _ _ _ _ _ hw hP hS (lv_sub hl [1, 2, 0] rfl)
  have lab_52 : ∀ (L44 : St → Int32 → Prop) (hL44 : ∀ (σ : St) (x2 : Int32) (H : Heap) (locs : List Loc) (ls : Array Slot), L44 σ x2 → va_P D vwCl ((wdM ad cI) σ) H → va_S (AW ad 40 s.heap.size) s.heap H locs → lv_has ls 4 [(0, .ref (ad 0)), (1, .ref (ad 39)), (2, .int x2)] → W p l e (headSpec wsX10_notes rm_X10_notes_is).room s m ([.ref (ad 0), .ref (ad 39)] : List Value).toArray below meth c H locs 0 0 (MQ below (va_Qv K (inW D (wdM ad cI) [(cI, .int)]) (AW ad 40 s.heap.size)) ([.ref (ad 0), .ref (ad 39)] : List Value).toArray s 0 0 (AW ad 40 s.heap.size)) (F0 m 44 ls [])) (n : Nat), ∀ (σ : St) (x2 : Int32) (x3 : Int32) (H : Heap) (locs : List Loc) (ls : Array Slot), w_X10_notes_is_52 L44 K n σ x2 x3 → va_P D vwCl ((wdM ad cI) σ) H → va_S (AW ad 40 s.heap.size) s.heap H locs → lv_has ls 4 [(0, .ref (ad 0)), (1, .ref (ad 39)), (2, .int x2), (3, .int x3)] → W p l e (headSpec wsX10_notes rm_X10_notes_is).room s m ([.ref (ad 0), .ref (ad 39)] : List Value).toArray below meth c H locs 0 0 (MQ below (va_Qv K (inW D (wdM ad cI) [(cI, .int)]) (AW ad 40 s.heap.size)) ([.ref (ad 0), .ref (ad 39)] : List Value).toArray s 0 0 (AW ad 40 s.heap.size)) (F0 m 52 ls []) := by
    intro L44 hL44
    intro n
    induction n with
    | zero =>
      intro σ x2 x3 H locs ls hw
      exact hw.elim
    | succ n hL52 =>
      intro σ x2 x3 H locs ls hw hP hS hl
      have hw : b_X10_notes_is_52 L44 (w_X10_notes_is_52 L44 K n) K σ x2 x3 := hw
      unfold b_X10_notes_is_52 at hw
      generalize w_X10_notes_is_52 L44 K n = L52 at hw hL52
      refine lv_iload_n hx hb dX10_notes_52 rfl (lv_at hl 3 rfl) ?_
      refine lv_iconst (v := 3) hx hb dX10_notes_53 (by decide) ?_
      refine lv_icmp_ge (tgt := 79) hx hb dX10_notes_54 (by decide) (fun c_7 => ?_) (fun c_7 => ?_)
      · have hw := hw.1 c_7
        refine lv_iinc (v := (x2 + 1)) (lv' := [(2, .int (x2 + 1)), (0, .ref (ad 0)), (1, .ref (ad 39)), (3, .int x3)]) hx hb dX10_notes_79 hl (k := 2) rfl rfl (by decide) rfl (fun ls hl => ?_)
        refine lv_goto (tgt := 44) hx hb dX10_notes_82 (by decide) ?_
        exact hL44 _ _ _ _ _ hw hP hS (lv_sub hl [1, 2, 0] rfl)
      · have hw := hw.2 c_7
        refine lv_aload_n hx hb dX10_notes_57 rfl (lv_at hl 1 rfl) ?_
        refine lv_bipush (v := 6) hx hb dX10_notes_58 (by decide) ?_
        refine lv_iconst (v := 3) hx hb dX10_notes_60 (by decide) ?_
        refine lv_iload_n hx hb dX10_notes_61 rfl (lv_at hl 2 rfl) ?_
        refine lv_imul hx hb dX10_notes_62 ?_
        refine lv_iadd hx hb dX10_notes_63 ?_
        refine lv_iload_n hx hb dX10_notes_64 rfl (lv_at hl 3 rfl) ?_
        refine lv_iadd hx hb dX10_notes_65 ?_
        refine lv_aload_n hx hb dX10_notes_66 rfl (lv_at hl 0 rfl) ?_
        refine lv_iload_n hx hb dX10_notes_67 rfl (lv_at hl 2 rfl) ?_
        refine lv_iload_n hx hb dX10_notes_68 rfl (lv_at hl 3 rfl) ?_
        refine cvI (As := [.int x2, .int x3]) (rest := [.int ((6 + (3 * x2)) + x3), .ref (ad 39)]) F hK hP hS (c_X10_end l D ad cI hap H.size _ _ _ _ hw) (cwV 2 hts gX10_notes_X10_end rfl rfl rfl (by decide +kernel) ⟨Nat.le_of_ble_eq_true rfl, Nat.le_of_ble_eq_true rfl⟩) (va_recv hK hP (ci := 7) (q0 := 0) rfl rfl) rfl hl.1 rfl (Nat.le_of_ble_eq_true rfl) dX10_notes_69 ⟨Nat.zero_le _, Nat.zero_le _⟩ (fun r_5 u_4 H locs hw hP hS => ?_)
        obtain ⟨i_6, hw⟩ := hw
        refine sM_X10_is F hK hP hDs hS i_6 dX10_notes_72 (fun H locs hP hS => ?_)
        refine lv_iinc (v := (x3 + 1)) (lv' := [(3, .int (x3 + 1)), (0, .ref (ad 0)), (1, .ref (ad 39)), (2, .int x2)]) hx hb dX10_notes_73 hl (k := 3) rfl rfl (by decide) rfl (fun ls hl => ?_)
        refine lv_goto (tgt := 52) hx hb dX10_notes_76 (by decide) ?_
        exact hL52 _ _ _ _ _ _ hw hP hS (lv_sub hl [1, 2, 3, 0] rfl)
  have lab_44 : ∀ (n : Nat), ∀ (σ : St) (x2 : Int32) (H : Heap) (locs : List Loc) (ls : Array Slot), w_X10_notes_is_44 K n σ x2 → va_P D vwCl ((wdM ad cI) σ) H → va_S (AW ad 40 s.heap.size) s.heap H locs → lv_has ls 4 [(0, .ref (ad 0)), (1, .ref (ad 39)), (2, .int x2)] → W p l e (headSpec wsX10_notes rm_X10_notes_is).room s m ([.ref (ad 0), .ref (ad 39)] : List Value).toArray below meth c H locs 0 0 (MQ below (va_Qv K (inW D (wdM ad cI) [(cI, .int)]) (AW ad 40 s.heap.size)) ([.ref (ad 0), .ref (ad 39)] : List Value).toArray s 0 0 (AW ad 40 s.heap.size)) (F0 m 44 ls []) := by
    intro n
    induction n with
    | zero =>
      intro σ x2 H locs ls hw
      exact hw.elim
    | succ n hL44 =>
      intro σ x2 H locs ls hw hP hS hl
      have hw : b_X10_notes_is_44 (w_X10_notes_is_44 K n) K σ x2 := hw
      unfold b_X10_notes_is_44 at hw
      generalize w_X10_notes_is_44 K n = L44 at hw hL44
      refine lv_iload_n hx hb dX10_notes_44 rfl (lv_at hl 2 rfl) ?_
      refine lv_bipush (v := 10) hx hb dX10_notes_45 (by decide) ?_
      refine lv_icmp_ge (tgt := 85) hx hb dX10_notes_47 (by decide) (fun c_10 => ?_) (fun c_10 => ?_)
      · have hw := hw.1 c_10
        refine lv_iconst (v := 0) hx hb dX10_notes_85 (by decide) ?_
        refine lv_istore_n (lv' := [(2, .int 0), (0, .ref (ad 0)), (1, .ref (ad 39))]) hx hb dX10_notes_86 rfl hl (by decide) rfl (fun ls hl => ?_)
        obtain ⟨n_8, hw⟩ := hw
        exact lab_87 n_8 _ _ _ _ _ hw hP hS (lv_sub hl [1, 2, 0] rfl)
      · have hw := hw.2 c_10
        refine lv_iconst (v := 0) hx hb dX10_notes_50 (by decide) ?_
        refine lv_istore_n (lv' := [(3, .int 0), (0, .ref (ad 0)), (1, .ref (ad 39)), (2, .int x2)]) hx hb dX10_notes_51 rfl hl (by decide) rfl (fun ls hl => ?_)
        obtain ⟨n_9, hw⟩ := hw
        exact lab_52 L44 hL44 n_9 _ _ _ _ _ _ hw hP hS (lv_sub hl [1, 2, 3, 0] rfl)
  have hl := lv_entry ([.ref (ad 0), .ref (ad 39)]) (n := 4) (Nat.le_of_ble_eq_true rfl)
  rw [lg_entry_eq]
  generalize (lg_sl ([.ref (ad 0), .ref (ad 39)]) ++ List.replicate (4 - (lg_sl ([.ref (ad 0), .ref (ad 39)])).length) Slot.unset).toArray = ls at hl ⊢
  have hl : lv_has ls 4 [(0, .ref (ad 0)), (1, .ref (ad 39))] := hl
  have key : ∀ (H : Heap), va_P D vwCl ((wdM ad cI) σ) H → va_S (AW ad 40 s.heap.size) s.heap H [] → W p l e (headSpec wsX10_notes rm_X10_notes_is).room s m ([.ref (ad 0), .ref (ad 39)] : List Value).toArray below meth c H [] 0 0 (MQ below (va_Qv K (inW D (wdM ad cI) [(cI, .int)]) (AW ad 40 s.heap.size)) ([.ref (ad 0), .ref (ad 39)] : List Value).toArray s 0 0 (AW ad 40 s.heap.size)) (F0 m 0 ls []) := by
    intro H hP hS
    unfold w_X10_notes_is at hw
    refine lv_aload_n hx hb dX10_notes_0 rfl (lv_at hl 1 rfl) ?_
    refine lv_iconst (v := 0) hx hb dX10_notes_1 (by decide) ?_
    refine lv_aload_n hx hb dX10_notes_2 rfl (lv_at hl 0 rfl) ?_
    refine gM_X10_how F hK iw_X10 hP f_f153 dX10_notes_3 ?_
    refine W.eq (g2 := F0 m 6 ls [.int (gS σ 5), .int 0, .ref (ad 39)]) rfl ?_
    refine sM_X10_is F hK hP hDs hS (by unfold vp_in; decide) dX10_notes_6 (fun H locs hP hS => ?_)
    refine lv_aload_n hx hb dX10_notes_7 rfl (lv_at hl 1 rfl) ?_
    refine lv_iconst (v := 1) hx hb dX10_notes_8 (by decide) ?_
    refine lv_aload_n hx hb dX10_notes_9 rfl (lv_at hl 0 rfl) ?_
    refine gM_X10_steps F hK iw_X10 hP f_f245 dX10_notes_10 ?_
    refine W.eq (g2 := F0 m 13 ls [.int (gS σ 6), .int 1, .ref (ad 39)]) rfl ?_
    refine sM_X10_is F hK hP hDs hS (by unfold vp_in; decide) dX10_notes_13 (fun H locs hP hS => ?_)
    refine lv_aload_n hx hb dX10_notes_14 rfl (lv_at hl 1 rfl) ?_
    refine lv_iconst (v := 2) hx hb dX10_notes_15 (by decide) ?_
    refine lv_aload_n hx hb dX10_notes_16 rfl (lv_at hl 0 rfl) ?_
    refine cvI (As := []) (rest := [.int 2, .ref (ad 39)]) F hK hP hS (c_X10_left l D ad cI hap H.size _ _ hw) (cwV 0 hts gX10_notes_X10_left rfl rfl rfl (by decide +kernel) ⟨Nat.le_of_ble_eq_true rfl, Nat.le_of_ble_eq_true rfl⟩) (va_recv hK hP (ci := 7) (q0 := 0) rfl rfl) rfl hl.1 rfl (Nat.le_of_ble_eq_true rfl) dX10_notes_17 ⟨Nat.zero_le _, Nat.zero_le _⟩ (fun r_12 u_11 H locs hw hP hS => ?_)
    refine sM_X10_is F hK hP hDs hS (by unfold vp_in; decide) dX10_notes_20 (fun H locs hP hS => ?_)
    refine lv_aload_n hx hb dX10_notes_21 rfl (lv_at hl 1 rfl) ?_
    refine lv_iconst (v := 3) hx hb dX10_notes_22 (by decide) ?_
    refine lv_aload_n hx hb dX10_notes_23 rfl (lv_at hl 0 rfl) ?_
    refine cvI (As := []) (rest := [.int 3, .ref (ad 39)]) F hK hP hS (c_X10_waiting l D ad cI hap H.size _ _ hw) (cwV 0 hts gX10_notes_X10_waiting rfl rfl rfl (by decide +kernel) ⟨Nat.le_of_ble_eq_true rfl, Nat.le_of_ble_eq_true rfl⟩) (va_recv hK hP (ci := 7) (q0 := 0) rfl rfl) rfl hl.1 rfl (Nat.le_of_ble_eq_true rfl) dX10_notes_24 ⟨Nat.zero_le _, Nat.zero_le _⟩ (fun r_14 u_13 H locs hw hP hS => ?_)
    refine sM_X10_is F hK hP hDs hS (by unfold vp_in; decide) dX10_notes_27 (fun H locs hP hS => ?_)
    refine lv_aload_n hx hb dX10_notes_28 rfl (lv_at hl 1 rfl) ?_
    refine lv_iconst (v := 4) hx hb dX10_notes_29 (by decide) ?_
    refine lv_aload_n hx hb dX10_notes_30 rfl (lv_at hl 0 rfl) ?_
    refine gM_X10_lost F hK iw_X10 hP f_f218 dX10_notes_31 ?_
    refine W.eq (g2 := F0 m 34 ls [.int (gS u_13 9), .int 4, .ref (ad 39)]) rfl ?_
    refine sM_X10_is F hK hP hDs hS (by unfold vp_in; decide) dX10_notes_34 (fun H locs hP hS => ?_)
    refine lv_aload_n hx hb dX10_notes_35 rfl (lv_at hl 1 rfl) ?_
    refine lv_iconst (v := 5) hx hb dX10_notes_36 (by decide) ?_
    refine lv_aload_n hx hb dX10_notes_37 rfl (lv_at hl 0 rfl) ?_
    refine gM_X10_strays F hK iw_X10 hP f_f231 dX10_notes_38 ?_
    refine W.eq (g2 := F0 m 41 ls [.int (gS u_13 10), .int 5, .ref (ad 39)]) rfl ?_
    refine sM_X10_is F hK hP hDs hS (by unfold vp_in; decide) dX10_notes_41 (fun H locs hP hS => ?_)
    refine lv_iconst (v := 0) hx hb dX10_notes_42 (by decide) ?_
    refine lv_istore_n (lv' := [(2, .int 0), (0, .ref (ad 0)), (1, .ref (ad 39))]) hx hb dX10_notes_43 rfl hl (by decide) rfl (fun ls hl => ?_)
    obtain ⟨n_15, hw⟩ := hw
    exact lab_44 n_15 _ _ _ _ _ hw hP hS (lv_sub hl [1, 2, 0] rfl)
  exact key s.heap hP hS

abbrev rm_X10_beside : Room := { frames := 10, cells := 0, slots := 0, locals := 243 }
set_option maxHeartbeats 4000000 in
set_option maxRecDepth 100000 in
theorem c_X10_beside (l : Launch) (D : va_G) (ad : Nat → Nat) (cI : ClassId) (hap : apart ad 40) (sz : Nat) (σ : St) (a1 : Int32) (a2 : Int32) (a3 : Int32) (K : Int32 → St → Prop) (hw : w_X10_beside σ a1 a2 a3 K) : Met l yX10_beside wsX10_beside rm_X10_beside (va_Pc [.ref (ad 0), .int a1, .int a2, .int a3] (fun U => U.heap.size = sz ∧ inW D (wdM ad cI) [(cI, .int)] σ U)) (va_Qi K (inW D (wdM ad cI) [(cI, .int)]) (AW ad 40 sz)) 0 0 (AW ad 40 sz) := by
  refine Met.ofW (cc := cX10_beside) (maxL := 5) (ret := (some .int)) (by decide) rfl ?_
  intro p e s m args below meth c s₁ B hml hv
  obtain ⟨rfl, hsz, ⟨hP, hK⟩⟩ := hv
  have F : CallFix p m c cX10_beside 5 s ([.ref (ad 0), .int a1, .int a2, .int a3] : List Value).toArray wsX10_beside RX10 := ⟨B.exec, B.bytes, hml, findClass_of_methodNamed B.named, atoms_spec (ws := wsX10_beside) B.pre⟩
  have hx := F.1
  have hb := F.2.1
  have hown := F.2.2.2.1
  have hts := F.2.2.2.2
  have hr := B.returns
  have hlocks := B.notSynchronized
  subst hsz
  have hDs : ∀ σ, va_D (AW ad 40 s.heap.size) ((wdM ad cI) σ) := fun σ => wdM_D hap σ
  have hS : va_S (AW ad 40 s.heap.size) s.heap s.heap [] := va_S.rf
  have iw_X10 : ∀ w ∈ u_ws RX10 TX10 57, w ∈ wsX10_beside := by decide +kernel
  have f_f121 := hts (.fieldLink RX10 121 "TokenFloorModel" "was" "[I") (by decide +kernel)
  have f_f124 := hts (.fieldLink RX10 124 "TokenFloorModel" "is" "[I") (by decide +kernel)
  have f_f127 := hts (.fieldLink RX10 127 "TokenFloorModel" "acts" "I") (by decide +kernel)
  have lab_156 : ∀ (n : Nat), ∀ (σ : St) (x4 : Int32) (H : Heap) (locs : List Loc) (ls : Array Slot), w_X10_beside_156 K n σ x4 → va_P D vwCl ((wdM ad cI) σ) H → va_S (AW ad 40 s.heap.size) s.heap H locs → lv_has ls 5 [(0, .ref (ad 0)), (4, .int x4)] → W p l e (headSpec wsX10_beside rm_X10_beside).room s m ([.ref (ad 0), .int a1, .int a2, .int a3] : List Value).toArray below meth c H locs 0 0 (MQ below (va_Qi K (inW D (wdM ad cI) [(cI, .int)]) (AW ad 40 s.heap.size)) ([.ref (ad 0), .int a1, .int a2, .int a3] : List Value).toArray s 0 0 (AW ad 40 s.heap.size)) (F0 m 156 ls []) := by
    intro n
    induction n with
    | zero =>
      intro σ x4 H locs ls hw
      exact hw.elim
    | succ n hL156 =>
      intro σ x4 H locs ls hw hP hS hl
      have hw : b_X10_beside_156 (w_X10_beside_156 K n) K σ x4 := hw
      unfold b_X10_beside_156 at hw
      generalize w_X10_beside_156 K n = L156 at hw hL156
      refine lv_iload hx hb dX10_beside_156 (lv_at hl 1 rfl) ?_
      refine lv_aload_n hx hb dX10_beside_158 rfl (lv_at hl 0 rfl) ?_
      refine gM_X10_acts F hK iw_X10 hP f_f127 dX10_beside_159 ?_
      refine W.eq (g2 := F0 m 162 ls [.int (gS σ 0), .int x4]) rfl ?_
      refine lv_icmp_ge (tgt := 200) hx hb dX10_beside_162 (by decide) (fun c_4 => ?_) (fun c_4 => ?_)
      · have hw := hw.1 c_4
        refine lv_iconst (v := (-1)) hx hb dX10_beside_200 (by decide) ?_
        exact rtI F hr hlocks hK hw hP hS dX10_beside_201
      · have hw := hw.2 c_4
        refine lv_aload_n hx hb dX10_beside_165 rfl (lv_at hl 0 rfl) ?_
        refine gM_X10_was F hK iw_X10 hP f_f121 dX10_beside_166 ?_
        refine lv_bipush (v := 36) hx hb dX10_beside_169 (by decide) ?_
        refine lv_iload hx hb dX10_beside_171 (lv_at hl 1 rfl) ?_
        refine lv_iadd hx hb dX10_beside_173 ?_
        obtain ⟨i_3, hw⟩ := hw
        refine lM_X10_was F hK hP i_3 dX10_beside_174 ?_
        refine lv_aload_n hx hb dX10_beside_175 rfl (lv_at hl 0 rfl) ?_
        refine gM_X10_is F hK iw_X10 hP f_f124 dX10_beside_176 ?_
        refine lv_bipush (v := 36) hx hb dX10_beside_179 (by decide) ?_
        refine lv_iload hx hb dX10_beside_181 (lv_at hl 1 rfl) ?_
        refine lv_iadd hx hb dX10_beside_183 ?_
        obtain ⟨i_2, hw⟩ := hw
        refine lM_X10_is F hK hP i_2 dX10_beside_184 ?_
        refine lv_icmp_eq (tgt := 194) hx hb dX10_beside_185 (by decide) (fun c_1 => ?_) (fun c_1 => ?_)
        · have hw := hw.1 c_1
          refine lv_iinc (v := (x4 + 1)) (lv' := [(4, .int (x4 + 1)), (0, .ref (ad 0))]) hx hb dX10_beside_194 hl (k := 1) rfl rfl (by decide) rfl (fun ls hl => ?_)
          refine lv_goto (tgt := 156) hx hb dX10_beside_197 (by decide) ?_
          exact hL156 _ _ _ _ _ hw hP hS (lv_sub hl [1, 0] rfl)
        · have hw := hw.2 c_1
          refine lv_bipush (v := 20) hx hb dX10_beside_188 (by decide) ?_
          refine lv_iload hx hb dX10_beside_190 (lv_at hl 1 rfl) ?_
          refine lv_iadd hx hb dX10_beside_192 ?_
          exact rtI F hr hlocks hK hw hP hS dX10_beside_193
  have lab_112 : ∀ (n : Nat), ∀ (σ : St) (x4 : Int32) (H : Heap) (locs : List Loc) (ls : Array Slot), w_X10_beside_112 K n σ x4 → va_P D vwCl ((wdM ad cI) σ) H → va_S (AW ad 40 s.heap.size) s.heap H locs → lv_has ls 5 [(0, .ref (ad 0)), (4, .int x4)] → W p l e (headSpec wsX10_beside rm_X10_beside).room s m ([.ref (ad 0), .int a1, .int a2, .int a3] : List Value).toArray below meth c H locs 0 0 (MQ below (va_Qi K (inW D (wdM ad cI) [(cI, .int)]) (AW ad 40 s.heap.size)) ([.ref (ad 0), .int a1, .int a2, .int a3] : List Value).toArray s 0 0 (AW ad 40 s.heap.size)) (F0 m 112 ls []) := by
    intro n
    induction n with
    | zero =>
      intro σ x4 H locs ls hw
      exact hw.elim
    | succ n hL112 =>
      intro σ x4 H locs ls hw hP hS hl
      have hw : b_X10_beside_112 (w_X10_beside_112 K n) K σ x4 := hw
      unfold b_X10_beside_112 at hw
      generalize w_X10_beside_112 K n = L112 at hw hL112
      refine lv_iload hx hb dX10_beside_112 (lv_at hl 1 rfl) ?_
      refine lv_bipush (v := 36) hx hb dX10_beside_114 (by decide) ?_
      refine lv_icmp_ge (tgt := 153) hx hb dX10_beside_116 (by decide) (fun c_9 => ?_) (fun c_9 => ?_)
      · have hw := hw.1 c_9
        refine lv_iconst (v := 0) hx hb dX10_beside_153 (by decide) ?_
        refine lv_istore (lv' := [(4, .int 0), (0, .ref (ad 0))]) hx hb dX10_beside_154 hl (by decide) rfl (fun ls hl => ?_)
        obtain ⟨n_5, hw⟩ := hw
        exact lab_156 n_5 _ _ _ _ _ hw hP hS (lv_sub hl [1, 0] rfl)
      · have hw := hw.2 c_9
        refine lv_aload_n hx hb dX10_beside_119 rfl (lv_at hl 0 rfl) ?_
        refine gM_X10_was F hK iw_X10 hP f_f121 dX10_beside_120 ?_
        refine lv_iload hx hb dX10_beside_123 (lv_at hl 1 rfl) ?_
        obtain ⟨i_8, hw⟩ := hw
        refine lM_X10_was F hK hP i_8 dX10_beside_125 ?_
        refine lv_aload_n hx hb dX10_beside_126 rfl (lv_at hl 0 rfl) ?_
        refine gM_X10_is F hK iw_X10 hP f_f124 dX10_beside_127 ?_
        refine lv_iload hx hb dX10_beside_130 (lv_at hl 1 rfl) ?_
        obtain ⟨i_7, hw⟩ := hw
        refine lM_X10_is F hK hP i_7 dX10_beside_132 ?_
        refine lv_icmp_eq (tgt := 147) hx hb dX10_beside_133 (by decide) (fun c_6 => ?_) (fun c_6 => ?_)
        · have hw := hw.1 c_6
          refine lv_iinc (v := (x4 + 1)) (lv' := [(4, .int (x4 + 1)), (0, .ref (ad 0))]) hx hb dX10_beside_147 hl (k := 1) rfl rfl (by decide) rfl (fun ls hl => ?_)
          refine lv_goto (tgt := 112) hx hb dX10_beside_150 (by decide) ?_
          exact hL112 _ _ _ _ _ hw hP hS (lv_sub hl [1, 0] rfl)
        · have hw := hw.2 c_6
          refine lv_bipush (v := 10) hx hb dX10_beside_136 (by decide) ?_
          refine lv_iload hx hb dX10_beside_138 (lv_at hl 1 rfl) ?_
          refine lv_bipush (v := 6) hx hb dX10_beside_140 (by decide) ?_
          refine lv_isub hx hb dX10_beside_142 ?_
          refine lv_iconst (v := 3) hx hb dX10_beside_143 (by decide) ?_
          refine lv_idiv hx hb dX10_beside_144 (by decide) ?_
          refine lv_iadd hx hb dX10_beside_145 ?_
          exact rtI F hr hlocks hK hw hP hS dX10_beside_146
  have lab_75 : ∀ (n : Nat), ∀ (σ : St) (x4 : Int32) (H : Heap) (locs : List Loc) (ls : Array Slot), w_X10_beside_75 K n σ x4 → va_P D vwCl ((wdM ad cI) σ) H → va_S (AW ad 40 s.heap.size) s.heap H locs → lv_has ls 5 [(0, .ref (ad 0)), (4, .int x4)] → W p l e (headSpec wsX10_beside rm_X10_beside).room s m ([.ref (ad 0), .int a1, .int a2, .int a3] : List Value).toArray below meth c H locs 0 0 (MQ below (va_Qi K (inW D (wdM ad cI) [(cI, .int)]) (AW ad 40 s.heap.size)) ([.ref (ad 0), .int a1, .int a2, .int a3] : List Value).toArray s 0 0 (AW ad 40 s.heap.size)) (F0 m 75 ls []) := by
    intro n
    induction n with
    | zero =>
      intro σ x4 H locs ls hw
      exact hw.elim
    | succ n hL75 =>
      intro σ x4 H locs ls hw hP hS hl
      have hw : b_X10_beside_75 (w_X10_beside_75 K n) K σ x4 := hw
      unfold b_X10_beside_75 at hw
      generalize w_X10_beside_75 K n = L75 at hw hL75
      refine lv_iload hx hb dX10_beside_75 (lv_at hl 1 rfl) ?_
      refine lv_bipush (v := 6) hx hb dX10_beside_77 (by decide) ?_
      refine lv_icmp_ge (tgt := 108) hx hb dX10_beside_79 (by decide) (fun c_14 => ?_) (fun c_14 => ?_)
      · have hw := hw.1 c_14
        refine lv_bipush (v := 6) hx hb dX10_beside_108 (by decide) ?_
        refine lv_istore (lv' := [(4, .int 6), (0, .ref (ad 0))]) hx hb dX10_beside_110 hl (by decide) rfl (fun ls hl => ?_)
        obtain ⟨n_10, hw⟩ := hw
        exact lab_112 n_10 _ _ _ _ _ hw hP hS (lv_sub hl [1, 0] rfl)
      · have hw := hw.2 c_14
        refine lv_aload_n hx hb dX10_beside_82 rfl (lv_at hl 0 rfl) ?_
        refine gM_X10_was F hK iw_X10 hP f_f121 dX10_beside_83 ?_
        refine lv_iload hx hb dX10_beside_86 (lv_at hl 1 rfl) ?_
        obtain ⟨i_13, hw⟩ := hw
        refine lM_X10_was F hK hP i_13 dX10_beside_88 ?_
        refine lv_aload_n hx hb dX10_beside_89 rfl (lv_at hl 0 rfl) ?_
        refine gM_X10_is F hK iw_X10 hP f_f124 dX10_beside_90 ?_
        refine lv_iload hx hb dX10_beside_93 (lv_at hl 1 rfl) ?_
        obtain ⟨i_12, hw⟩ := hw
        refine lM_X10_is F hK hP i_12 dX10_beside_95 ?_
        refine lv_icmp_eq (tgt := 102) hx hb dX10_beside_96 (by decide) (fun c_11 => ?_) (fun c_11 => ?_)
        · have hw := hw.1 c_11
          refine lv_iinc (v := (x4 + 1)) (lv' := [(4, .int (x4 + 1)), (0, .ref (ad 0))]) hx hb dX10_beside_102 hl (k := 1) rfl rfl (by decide) rfl (fun ls hl => ?_)
          refine lv_goto (tgt := 75) hx hb dX10_beside_105 (by decide) ?_
          exact hL75 _ _ _ _ _ hw hP hS (lv_sub hl [1, 0] rfl)
        · have hw := hw.2 c_11
          refine lv_iload hx hb dX10_beside_99 (lv_at hl 1 rfl) ?_
          exact rtI F hr hlocks hK hw hP hS dX10_beside_101
  have hl := lv_entry ([.ref (ad 0), .int a1, .int a2, .int a3]) (n := 5) (Nat.le_of_ble_eq_true rfl)
  rw [lg_entry_eq]
  generalize (lg_sl ([.ref (ad 0), .int a1, .int a2, .int a3]) ++ List.replicate (5 - (lg_sl ([.ref (ad 0), .int a1, .int a2, .int a3])).length) Slot.unset).toArray = ls at hl ⊢
  have hl : lv_has ls 5 [(0, .ref (ad 0)), (1, .int a1), (2, .int a2), (3, .int a3)] := hl
  have key : ∀ (H : Heap), va_P D vwCl ((wdM ad cI) σ) H → va_S (AW ad 40 s.heap.size) s.heap H [] → W p l e (headSpec wsX10_beside rm_X10_beside).room s m ([.ref (ad 0), .int a1, .int a2, .int a3] : List Value).toArray below meth c H [] 0 0 (MQ below (va_Qi K (inW D (wdM ad cI) [(cI, .int)]) (AW ad 40 s.heap.size)) ([.ref (ad 0), .int a1, .int a2, .int a3] : List Value).toArray s 0 0 (AW ad 40 s.heap.size)) (F0 m 0 ls []) := by
    intro H hP hS
    unfold w_X10_beside at hw
    refine lv_iload_n hx hb dX10_beside_0 rfl (lv_at hl 3 rfl) ?_
    refine lv_iconst (v := 0) hx hb dX10_beside_1 (by decide) ?_
    refine lv_sipush (v := 4000) hx hb dX10_beside_2 (by decide) ?_
    refine csI (As := [.int a3, .int 0, .int 4000]) (rest := []) F hK hP hS (c_X10_in l D ad cI hap H.size _ _ _ _ _ hw) (va_cwS 3 hts gX10_beside_X10_in rfl rfl rfl (by decide +kernel) ⟨Nat.le_of_ble_eq_true rfl, Nat.le_of_ble_eq_true rfl⟩) rfl hl.1 rfl (Nat.le_of_ble_eq_true rfl) dX10_beside_5 ⟨Nat.zero_le _, Nat.zero_le _⟩ (fun r_16 u_15 H locs hw hP hS => ?_)
    obtain ⟨zr_16, hw⟩ := hw
    refine lv_if_ne (tgt := 14) hx hb dX10_beside_8 (by decide) (fun c_28 => ?_) (fun c_28 => ?_)
    · have hw := hw.1 c_28
      refine lv_aload_n hx hb dX10_beside_14 rfl (lv_at hl 0 rfl) ?_
      refine lv_iload_n hx hb dX10_beside_15 rfl (lv_at hl 1 rfl) ?_
      refine lv_iload_n hx hb dX10_beside_16 rfl (lv_at hl 3 rfl) ?_
      refine cvI (As := [.int a1, .int a3]) (rest := []) F hK hP hS (c_X10_run l D ad cI hap H.size _ _ _ _ hw) (cwV 2 hts gX10_beside_X10_run rfl rfl rfl (by decide +kernel) ⟨Nat.le_of_ble_eq_true rfl, Nat.le_of_ble_eq_true rfl⟩) (va_recv hK hP (ci := 7) (q0 := 0) rfl rfl) rfl hl.1 rfl (Nat.le_of_ble_eq_true rfl) dX10_beside_17 ⟨Nat.zero_le _, Nat.zero_le _⟩ (fun r_18 u_17 H locs hw hP hS => ?_)
      refine lv_pop hx hb dX10_beside_20 rfl ?_
      refine lv_aload_n hx hb dX10_beside_21 rfl (lv_at hl 0 rfl) ?_
      refine lv_aload_n hx hb dX10_beside_22 rfl (lv_at hl 0 rfl) ?_
      refine gM_X10_was F hK iw_X10 hP f_f121 dX10_beside_23 ?_
      refine cvV (As := [.ref (ad 38)]) (rest := []) F hK hP hS (c_X10_notes_was l D ad cI hap H.size _ _ hw) (cwV 1 hts gX10_beside_X10_notes rfl rfl rfl (by decide +kernel) ⟨Nat.le_of_ble_eq_true rfl, Nat.le_of_ble_eq_true rfl⟩) (va_recv hK hP (ci := 7) (q0 := 0) rfl rfl) rfl hl.1 rfl (Nat.le_of_ble_eq_true rfl) dX10_beside_26 ⟨Nat.zero_le _, Nat.zero_le _⟩ (fun u_19 H locs hw hP hS => ?_)
      refine lv_aload_n hx hb dX10_beside_29 rfl (lv_at hl 0 rfl) ?_
      refine lv_iload_n hx hb dX10_beside_30 rfl (lv_at hl 2 rfl) ?_
      refine lv_iload_n hx hb dX10_beside_31 rfl (lv_at hl 3 rfl) ?_
      refine cvI (As := [.int a2, .int a3]) (rest := []) F hK hP hS (c_X10_run l D ad cI hap H.size _ _ _ _ hw) (cwV 2 hts gX10_beside_X10_run rfl rfl rfl (by decide +kernel) ⟨Nat.le_of_ble_eq_true rfl, Nat.le_of_ble_eq_true rfl⟩) (va_recv hK hP (ci := 7) (q0 := 0) rfl rfl) rfl hl.1 rfl (Nat.le_of_ble_eq_true rfl) dX10_beside_32 ⟨Nat.zero_le _, Nat.zero_le _⟩ (fun r_22 u_21 H locs hw hP hS => ?_)
      refine lv_pop hx hb dX10_beside_35 rfl ?_
      refine lv_aload_n hx hb dX10_beside_36 rfl (lv_at hl 0 rfl) ?_
      refine lv_aload_n hx hb dX10_beside_37 rfl (lv_at hl 0 rfl) ?_
      refine gM_X10_is F hK iw_X10 hP f_f124 dX10_beside_38 ?_
      refine cvV (As := [.ref (ad 39)]) (rest := []) F hK hP hS (c_X10_notes_is l D ad cI hap H.size _ _ hw) (cwV 1 hts gX10_beside_X10_notes rfl rfl rfl (by decide +kernel) ⟨Nat.le_of_ble_eq_true rfl, Nat.le_of_ble_eq_true rfl⟩) (va_recv hK hP (ci := 7) (q0 := 0) rfl rfl) rfl hl.1 rfl (Nat.le_of_ble_eq_true rfl) dX10_beside_41 ⟨Nat.zero_le _, Nat.zero_le _⟩ (fun u_23 H locs hw hP hS => ?_)
      refine lv_aload_n hx hb dX10_beside_44 rfl (lv_at hl 0 rfl) ?_
      refine gM_X10_was F hK iw_X10 hP f_f121 dX10_beside_45 ?_
      refine lv_iconst (v := 0) hx hb dX10_beside_48 (by decide) ?_
      refine lM_X10_was F hK hP (by unfold vp_in; decide) dX10_beside_49 ?_
      refine lv_aload_n hx hb dX10_beside_50 rfl (lv_at hl 0 rfl) ?_
      refine gM_X10_is F hK iw_X10 hP f_f124 dX10_beside_51 ?_
      refine lv_iconst (v := 0) hx hb dX10_beside_54 (by decide) ?_
      refine lM_X10_is F hK hP (by unfold vp_in; decide) dX10_beside_55 ?_
      refine lv_icmp_eq (tgt := 61) hx hb dX10_beside_56 (by decide) (fun c_27 => ?_) (fun c_27 => ?_)
      · have hw := hw.1 c_27
        refine lv_aload_n hx hb dX10_beside_61 rfl (lv_at hl 0 rfl) ?_
        refine gM_X10_is F hK iw_X10 hP f_f124 dX10_beside_62 ?_
        refine lv_iconst (v := 0) hx hb dX10_beside_65 (by decide) ?_
        refine lM_X10_is F hK hP (by unfold vp_in; decide) dX10_beside_66 ?_
        refine lv_if_eq (tgt := 72) hx hb dX10_beside_67 (by decide) (fun c_26 => ?_) (fun c_26 => ?_)
        · have hw := hw.1 c_26
          refine lv_iconst (v := 1) hx hb dX10_beside_72 (by decide) ?_
          refine lv_istore (lv' := [(4, .int 1), (0, .ref (ad 0)), (1, .int a1), (2, .int a2), (3, .int a3)]) hx hb dX10_beside_73 hl (by decide) rfl (fun ls hl => ?_)
          obtain ⟨n_25, hw⟩ := hw
          exact lab_75 n_25 _ _ _ _ _ hw hP hS (lv_sub hl [1, 0] rfl)
        · have hw := hw.2 c_26
          refine lv_iconst (v := (-1)) hx hb dX10_beside_70 (by decide) ?_
          exact rtI F hr hlocks hK hw hP hS dX10_beside_71
      · have hw := hw.2 c_27
        refine lv_iconst (v := 0) hx hb dX10_beside_59 (by decide) ?_
        exact rtI F hr hlocks hK hw hP hS dX10_beside_60
    · have hw := hw.2 c_28
      refine lv_bipush (v := (-2)) hx hb dX10_beside_11 (by decide) ?_
      exact rtI F hr hlocks hK hw hP hS dX10_beside_13
  exact key s.heap hP hS
