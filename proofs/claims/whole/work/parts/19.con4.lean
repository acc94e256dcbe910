abbrev rm_X4_give : Room := { frames := 2, cells := 0, slots := 0, locals := 52 }
set_option maxHeartbeats 4000000 in
set_option maxRecDepth 100000 in
theorem c_X4_give (l : Launch) (D : va_G) (ad : Nat → Nat) (cI cJ : ClassId) (hap : apart ad 42) (sz : Nat) (σ : St) (a1 : Int32) (a2 : Int32) (a3 : Int32) (a4 : Int64) (K : St → Prop) (hw : w_X4_give σ a1 a2 a3 a4 K) : Met l yX4_give wU_X4_give rm_X4_give (va_Pc [.ref (ad 2), .int a1, .int a2, .int a3, .long a4] (fun U => U.heap.size = sz ∧ inW D (wdC ad cI cJ) [(cI, .int), (cJ, .long)] σ U)) (va_Qv K (inW D (wdC ad cI cJ) [(cI, .int), (cJ, .long)]) (AW ad 42 sz)) 0 0 (AW ad 42 sz) := by
  refine Met.ofW (cc := cX4_give) (maxL := 8) (ret := none) (by decide) rfl ?_
  intro p e s m args below meth c s₁ B hml hv
  obtain ⟨rfl, hsz, ⟨hP, hK⟩⟩ := hv
  have F : CallFix p m c cX4_give 8 s ([.ref (ad 2), .int a1, .int a2, .int a3, .long a4] : List Value).toArray lw_U RX4 := ⟨B.exec, B.bytes, hml, findClass_of_methodNamed B.named, fun w h => atoms_spec (ws := wU_X4_give) B.pre w (List.mem_cons_of_mem _ h)⟩
  have hx := F.1
  have hb := F.2.1
  have hown := F.2.2.2.1
  have hts := F.2.2.2.2
  have hr := B.returns
  have hlocks := B.notSynchronized
  subst hsz
  have hDs : ∀ σ, va_D (AW ad 42 s.heap.size) ((wdC ad cI cJ) σ) := fun σ => wdC_D hap σ
  have hS : va_S (AW ad 42 s.heap.size) s.heap s.heap [] := va_S.rf
  have lab_25 : ∀ (n : Nat), ∀ (σ : St) (x3 : Int32) (x4 : Int64) (x6 : Int32) (x7 : Int32) (H : Heap) (locs : List Loc) (ls : Array Slot), w_X4_give_25 K n σ x3 x4 x6 x7 → va_P D vwCl ((wdC ad cI cJ) σ) H → va_S (AW ad 42 s.heap.size) s.heap H locs → lv_has ls 8 [(0, .ref (ad 2)), (3, .int x3), (4, .long x4), (6, .int x6), (7, .int x7)] → W p l e (headSpec wU_X4_give rm_X4_give).room s m ([.ref (ad 2), .int a1, .int a2, .int a3, .long a4] : List Value).toArray below meth c H locs 0 0 (MQ below (va_Qv K (inW D (wdC ad cI cJ) [(cI, .int), (cJ, .long)]) (AW ad 42 s.heap.size)) ([.ref (ad 2), .int a1, .int a2, .int a3, .long a4] : List Value).toArray s 0 0 (AW ad 42 s.heap.size)) (F0 m 25 ls []) := by
    intro n
    induction n with
    | zero =>
      intro σ x3 x4 x6 x7 H locs ls hw
      exact hw.elim
    | succ n hL25 =>
      intro σ x3 x4 x6 x7 H locs ls hw hP hS hl
      have hw : b_X4_give_25 (w_X4_give_25 K n) K σ x3 x4 x6 x7 := hw
      unfold b_X4_give_25 at hw
      generalize w_X4_give_25 K n = L25 at hw hL25
      refine lv_iload hx hb dX4_give_25 (lv_at hl 4 rfl) ?_
      refine lv_sipush (v := 300) hx hb dX4_give_27 (by decide) ?_
      refine lv_icmp_ge (tgt := 92) hx hb dX4_give_30 (by decide) (fun c_8 => ?_) (fun c_8 => ?_)
      · have hw := hw.1 c_8
        exact rtV F hr hlocks hK hw hP hS dX4_give_92
      · have hw := hw.2 c_8
        refine lv_iload hx hb dX4_give_33 (lv_at hl 3 rfl) ?_
        refine lv_iconst (v := (-1)) hx hb dX4_give_35 (by decide) ?_
        refine lv_icmp_eq (tgt := 92) hx hb dX4_give_36 (by decide) (fun c_7 => ?_) (fun c_7 => ?_)
        · have hw := hw.1 c_7
          exact rtV F hr hlocks hK hw hP hS dX4_give_92
        · have hw := hw.2 c_7
          refine lv_aload_n hx hb dX4_give_39 rfl (lv_at hl 0 rfl) ?_
          refine gC_X4_how F hK hP (hts _ mw_83) dX4_give_40 ?_
          refine lv_iconst (v := (-1)) hx hb dX4_give_43 (by decide) ?_
          refine lv_icmp_ne (tgt := 92) hx hb dX4_give_44 (by decide) (fun c_6 => ?_) (fun c_6 => ?_)
          · have hw := hw.1 c_6
            exact rtV F hr hlocks hK hw hP hS dX4_give_92
          · have hw := hw.2 c_6
            refine lv_aload_n hx hb dX4_give_47 rfl (lv_at hl 0 rfl) ?_
            refine lv_aload_n hx hb dX4_give_48 rfl (lv_at hl 0 rfl) ?_
            refine gC_X4_graph F hK hP (hts _ mw_92) dX4_give_49 ?_
            refine gC_X2_wayTo F hK hP (hts _ mw_168) dX4_give_52 ?_
            refine lv_iload hx hb dX4_give_55 (lv_at hl 3 rfl) ?_
            obtain ⟨i_5, hw⟩ := hw
            refine lC_X2_wayTo F hK hP i_5 dX4_give_57 ?_
            refine lv_aload_n hx hb dX4_give_58 rfl (lv_at hl 0 rfl) ?_
            refine gC_X4_graph F hK hP (hts _ mw_92) dX4_give_59 ?_
            refine gC_X2_wayPort F hK hP (hts _ mw_169) dX4_give_62 ?_
            refine lv_iload hx hb dX4_give_65 (lv_at hl 3 rfl) ?_
            obtain ⟨i_4, hw⟩ := hw
            refine lC_X2_wayPort F hK hP i_4 dX4_give_67 ?_
            refine lv_iload_n hx hb dX4_give_68 rfl (lv_at hl 1 rfl) ?_
            refine lv_lload hx hb dX4_give_69 (lv_at hl 2 rfl) ?_
            refine cvV (As := [.int (gA σ 4 (x6).toNatClampNeg), .int (gA σ 5 (x6).toNatClampNeg), .int x3, .long x4]) (rest := []) F hK hP hS (c_X4_arrive l D ad cI cJ hap H.size _ _ _ _ _ _ hw) (cwV 4 hts gU_X4_160 rfl rfl rfl (by decide +kernel) ⟨Nat.le_of_ble_eq_true rfl, Nat.le_of_ble_eq_true rfl⟩) (va_recv hK hP (ci := 3) (q0 := 2) rfl rfl) rfl hl.1 rfl (Nat.le_of_ble_eq_true rfl) dX4_give_71 ⟨Nat.zero_le _, Nat.zero_le _⟩ (fun u_1 H locs hw hP hS => ?_)
            refine lv_aload_n hx hb dX4_give_74 rfl (lv_at hl 0 rfl) ?_
            refine gC_X4_graph F hK hP (hts _ mw_92) dX4_give_75 ?_
            refine gC_X2_nextWay F hK hP (hts _ mw_170) dX4_give_78 ?_
            refine lv_iload hx hb dX4_give_81 (lv_at hl 3 rfl) ?_
            obtain ⟨i_3, hw⟩ := hw
            refine lC_X2_nextWay F hK hP i_3 dX4_give_83 ?_
            refine lv_istore (lv' := [(6, .int (gA u_1 6 (x6).toNatClampNeg)), (0, .ref (ad 2)), (3, .int x3), (4, .long x4), (7, .int x7)]) hx hb dX4_give_84 hl (by decide) rfl (fun ls hl => ?_)
            refine lv_iinc (v := (x7 + 1)) (lv' := [(7, .int (x7 + 1)), (6, .int (gA u_1 6 (x6).toNatClampNeg)), (0, .ref (ad 2)), (3, .int x3), (4, .long x4)]) hx hb dX4_give_86 hl (k := 4) rfl rfl (by decide) rfl (fun ls hl => ?_)
            refine lv_goto (tgt := 25) hx hb dX4_give_89 (by decide) ?_
            exact hL25 _ _ _ _ _ _ _ _ hw hP hS (lv_sub hl [2, 3, 4, 1, 0] rfl)
  have hl := lv_entry ([.ref (ad 2), .int a1, .int a2, .int a3, .long a4]) (n := 8) (Nat.le_of_ble_eq_true rfl)
  rw [lg_entry_eq]
  generalize (lg_sl ([.ref (ad 2), .int a1, .int a2, .int a3, .long a4]) ++ List.replicate (8 - (lg_sl ([.ref (ad 2), .int a1, .int a2, .int a3, .long a4])).length) Slot.unset).toArray = ls at hl ⊢
  have hl : lv_has ls 8 [(0, .ref (ad 2)), (1, .int a1), (2, .int a2), (3, .int a3), (4, .long a4)] := hl
  have key : ∀ (H : Heap) (locs : List Loc), va_P D vwCl ((wdC ad cI cJ) σ) H → va_S (AW ad 42 s.heap.size) s.heap H locs → W p l e (headSpec wU_X4_give rm_X4_give).room s m ([.ref (ad 2), .int a1, .int a2, .int a3, .long a4] : List Value).toArray below meth c H locs 0 0 (MQ below (va_Qv K (inW D (wdC ad cI cJ) [(cI, .int), (cJ, .long)]) (AW ad 42 s.heap.size)) ([.ref (ad 2), .int a1, .int a2, .int a3, .long a4] : List Value).toArray s 0 0 (AW ad 42 s.heap.size)) (F0 m 0 ls []) := by
    intro H locs hP hS
    unfold w_X4_give at hw
    refine lv_iload_n hx hb dX4_give_0 rfl (lv_at hl 3 rfl) ?_
    refine lv_iconst (v := (-1)) hx hb dX4_give_1 (by decide) ?_
    refine lv_icmp_ne (tgt := 11) hx hb dX4_give_2 (by decide) (fun c_12 => ?_) (fun c_12 => ?_)
    · have hw := hw.1 c_12
      refine lv_aload_n hx hb dX4_give_11 rfl (lv_at hl 0 rfl) ?_
      refine gC_X4_graph F hK hP (hts _ mw_92) dX4_give_12 ?_
      refine lv_iload_n hx hb dX4_give_15 rfl (lv_at hl 1 rfl) ?_
      refine lv_iload_n hx hb dX4_give_16 rfl (lv_at hl 2 rfl) ?_
      refine cvI (As := [.int a1, .int a2]) (rest := []) F hK hP hS (c_X2_firstWayOf l D ad cI cJ hap H.size _ _ _ _ hw) (cwV 2 hts gU_X4_297 rfl rfl rfl (by decide +kernel) ⟨Nat.le_of_ble_eq_true rfl, Nat.le_of_ble_eq_true rfl⟩) (va_recv hK hP (ci := 2) (q0 := 1) rfl rfl) rfl hl.1 rfl (Nat.le_of_ble_eq_true rfl) dX4_give_17 ⟨Nat.zero_le _, Nat.zero_le _⟩ (fun r_10 u_9 H locs hw hP hS => ?_)
      refine lv_istore (lv' := [(6, .int r_10), (0, .ref (ad 2)), (1, .int a1), (2, .int a2), (3, .int a3), (4, .long a4)]) hx hb dX4_give_20 hl (by decide) rfl (fun ls hl => ?_)
      refine lv_iconst (v := 0) hx hb dX4_give_22 (by decide) ?_
      refine lv_istore (lv' := [(7, .int 0), (6, .int r_10), (0, .ref (ad 2)), (1, .int a1), (2, .int a2), (3, .int a3), (4, .long a4)]) hx hb dX4_give_23 hl (by decide) rfl (fun ls hl => ?_)
      obtain ⟨n_11, hw⟩ := hw
      exact lab_25 n_11 _ _ _ _ _ _ _ _ hw hP hS (lv_sub hl [2, 5, 6, 1, 0] rfl)
    · have hw := hw.2 c_12
      refine lv_aload_n hx hb dX4_give_5 rfl (lv_at hl 0 rfl) ?_
      refine lv_iconst (v := 2) hx hb dX4_give_6 (by decide) ?_
      refine pC_X4_how F hK hP hDs hS (hts _ mw_83) dX4_give_7 (fun H locs hP hS => ?_)
      exact rtV F hr hlocks hK hw hP hS dX4_give_10
  exact key s.heap [] hP hS

abbrev rm_X4_goSwitch : Room := { frames := 3, cells := 0, slots := 0, locals := 79 }
set_option maxHeartbeats 4000000 in
set_option maxRecDepth 100000 in
theorem c_X4_goSwitch (l : Launch) (D : va_G) (ad : Nat → Nat) (cI cJ : ClassId) (hap : apart ad 42) (sz : Nat) (σ : St) (a1 : Int32) (a2 : Int32) (a3 : Int64) (a4 : Int64) (K : St → Prop) (hw : w_X4_goSwitch σ a1 a2 a3 a4 K) : Met l yX4_goSwitch wU_X4_goSwitch rm_X4_goSwitch (va_Pc [.ref (ad 2), .int a1, .int a2, .long a3, .long a4] (fun U => U.heap.size = sz ∧ inW D (wdC ad cI cJ) [(cI, .int), (cJ, .long)] σ U)) (va_Qv K (inW D (wdC ad cI cJ) [(cI, .int), (cJ, .long)]) (AW ad 42 sz)) 0 0 (AW ad 42 sz) := by
  refine Met.ofW (cc := cX4_goSwitch) (maxL := 7) (ret := none) (by decide) rfl ?_
  intro p e s m args below meth c s₁ B hml hv
  obtain ⟨rfl, hsz, ⟨hP, hK⟩⟩ := hv
  have F : CallFix p m c cX4_goSwitch 7 s ([.ref (ad 2), .int a1, .int a2, .long a3, .long a4] : List Value).toArray lw_U RX4 := ⟨B.exec, B.bytes, hml, findClass_of_methodNamed B.named, fun w h => atoms_spec (ws := wU_X4_goSwitch) B.pre w (List.mem_cons_of_mem _ h)⟩
  have hx := F.1
  have hb := F.2.1
  have hown := F.2.2.2.1
  have hts := F.2.2.2.2
  have hr := B.returns
  have hlocks := B.notSynchronized
  subst hsz
  have hDs : ∀ σ, va_D (AW ad 42 s.heap.size) ((wdC ad cI cJ) σ) := fun σ => wdC_D hap σ
  have hS : va_S (AW ad 42 s.heap.size) s.heap s.heap [] := va_S.rf
  have hl := lv_entry ([.ref (ad 2), .int a1, .int a2, .long a3, .long a4]) (n := 7) (Nat.le_of_ble_eq_true rfl)
  rw [lg_entry_eq]
  generalize (lg_sl ([.ref (ad 2), .int a1, .int a2, .long a3, .long a4]) ++ List.replicate (7 - (lg_sl ([.ref (ad 2), .int a1, .int a2, .long a3, .long a4])).length) Slot.unset).toArray = ls at hl ⊢
  have hl : lv_has ls 7 [(0, .ref (ad 2)), (1, .int a1), (2, .int a2), (3, .long a3), (5, .long a4)] := hl
  have key : ∀ (H : Heap) (locs : List Loc), va_P D vwCl ((wdC ad cI cJ) σ) H → va_S (AW ad 42 s.heap.size) s.heap H locs → W p l e (headSpec wU_X4_goSwitch rm_X4_goSwitch).room s m ([.ref (ad 2), .int a1, .int a2, .long a3, .long a4] : List Value).toArray below meth c H locs 0 0 (MQ below (va_Qv K (inW D (wdC ad cI cJ) [(cI, .int), (cJ, .long)]) (AW ad 42 s.heap.size)) ([.ref (ad 2), .int a1, .int a2, .long a3, .long a4] : List Value).toArray s 0 0 (AW ad 42 s.heap.size)) (F0 m 0 ls []) := by
    intro H locs hP hS
    unfold w_X4_goSwitch at hw
    refine lv_lload hx hb dX4_goSwitch_0 (lv_at hl 4 rfl) ?_
    refine csI (As := [.long a4]) (rest := []) F hK hP hS (c_X8_sortOf l D ad cI cJ hap H.size _ _ _ hw) (va_cwS 1 hts gU_X4_105 rfl rfl rfl (by decide +kernel) ⟨Nat.le_of_ble_eq_true rfl, Nat.le_of_ble_eq_true rfl⟩) rfl hl.1 rfl (Nat.le_of_ble_eq_true rfl) dX4_goSwitch_2 ⟨Nat.zero_le _, Nat.zero_le _⟩ (fun r_2 u_1 H locs hw hP hS => ?_)
    refine lv_iconst (v := 1) hx hb dX4_goSwitch_5 (by decide) ?_
    refine lv_icmp_eq (tgt := 22) hx hb dX4_goSwitch_6 (by decide) (fun c_10 => ?_) (fun c_10 => ?_)
    · have hw := hw.1 c_10
      refine lv_aload_n hx hb dX4_goSwitch_22 rfl (lv_at hl 0 rfl) ?_
      refine lv_iload_n hx hb dX4_goSwitch_23 rfl (lv_at hl 1 rfl) ?_
      refine lv_lload hx hb dX4_goSwitch_24 (lv_at hl 4 rfl) ?_
      refine csI (As := [.long a4]) (rest := [.int a1, .ref (ad 2)]) F hK hP hS (c_X8_contentOf l D ad cI cJ hap H.size _ _ _ hw) (va_cwS 1 hts gU_X4_111 rfl rfl rfl (by decide +kernel) ⟨Nat.le_of_ble_eq_true rfl, Nat.le_of_ble_eq_true rfl⟩) rfl hl.1 rfl (Nat.le_of_ble_eq_true rfl) dX4_goSwitch_26 ⟨Nat.zero_le _, Nat.zero_le _⟩ (fun r_4 u_3 H locs hw hP hS => ?_)
      refine lv_if_eq (tgt := 36) hx hb dX4_goSwitch_29 (by decide) (fun c_9 => ?_) (fun c_9 => ?_)
      · have hw := hw.1 c_9
        refine lv_iconst (v := 1) hx hb dX4_goSwitch_36 (by decide) ?_
        refine lv_iload_n hx hb dX4_goSwitch_37 rfl (lv_at hl 2 rfl) ?_
        refine lv_lload_n hx hb dX4_goSwitch_38 rfl (lv_at hl 3 rfl) ?_
        refine cvV (As := [.int a1, .int 1, .int a2, .long a3]) (rest := []) F hK hP hS (c_X4_give l D ad cI cJ hap H.size _ _ _ _ _ _ hw) (cwV 4 hts gU_X4_192 rfl rfl rfl (by decide +kernel) ⟨Nat.le_of_ble_eq_true rfl, Nat.le_of_ble_eq_true rfl⟩) (va_recv hK hP (ci := 3) (q0 := 2) rfl rfl) rfl hl.1 rfl (Nat.le_of_ble_eq_true rfl) dX4_goSwitch_39 ⟨Nat.zero_le _, Nat.zero_le _⟩ (fun u_5 H locs hw hP hS => ?_)
        exact rtV F hr hlocks hK hw hP hS dX4_goSwitch_42
      · have hw := hw.2 c_9
        refine lv_iconst (v := 0) hx hb dX4_goSwitch_32 (by decide) ?_
        refine lv_goto (tgt := 37) hx hb dX4_goSwitch_33 (by decide) ?_
        refine lv_iload_n hx hb dX4_goSwitch_37 rfl (lv_at hl 2 rfl) ?_
        refine lv_lload_n hx hb dX4_goSwitch_38 rfl (lv_at hl 3 rfl) ?_
        refine cvV (As := [.int a1, .int 0, .int a2, .long a3]) (rest := []) F hK hP hS (c_X4_give l D ad cI cJ hap H.size _ _ _ _ _ _ hw) (cwV 4 hts gU_X4_192 rfl rfl rfl (by decide +kernel) ⟨Nat.le_of_ble_eq_true rfl, Nat.le_of_ble_eq_true rfl⟩) (va_recv hK hP (ci := 3) (q0 := 2) rfl rfl) rfl hl.1 rfl (Nat.le_of_ble_eq_true rfl) dX4_goSwitch_39 ⟨Nat.zero_le _, Nat.zero_le _⟩ (fun u_7 H locs hw hP hS => ?_)
        exact rtV F hr hlocks hK hw hP hS dX4_goSwitch_42
    · have hw := hw.2 c_10
      refine lv_aload_n hx hb dX4_goSwitch_9 rfl (lv_at hl 0 rfl) ?_
      refine lv_dup hx hb dX4_goSwitch_10 rfl ?_
      refine gC_X4_lost F hK hP (hts _ mw_153) dX4_goSwitch_11 ?_
      refine lv_iconst (v := 1) hx hb dX4_goSwitch_14 (by decide) ?_
      refine lv_iadd hx hb dX4_goSwitch_15 ?_
      refine pC_X4_lost F hK hP hDs hS (hts _ mw_153) dX4_goSwitch_16 (fun H locs hP hS => ?_)
      refine lv_goto (tgt := 42) hx hb dX4_goSwitch_19 (by decide) ?_
      exact rtV F hr hlocks hK hw hP hS dX4_goSwitch_42
  exact key s.heap [] hP hS

abbrev rm_X8_ofFault : Room := { frames := 0, cells := 0, slots := 0, locals := 0 }
set_option maxHeartbeats 4000000 in
set_option maxRecDepth 100000 in
theorem c_X8_ofFault (l : Launch) (D : va_G) (ad : Nat → Nat) (cI cJ : ClassId) (hap : apart ad 42) (sz : Nat) (σ : St) (a1 : Int32) (a2 : Int32) (K : Int64 → St → Prop) (hw : w_X8_ofFault σ a1 a2 K) : Met l yX8_ofFault wU_X8_ofFault rm_X8_ofFault (va_Pc [.int a1, .int a2] (fun U => U.heap.size = sz ∧ inW D (wdC ad cI cJ) [(cI, .int), (cJ, .long)] σ U)) (va_Ql K (inW D (wdC ad cI cJ) [(cI, .int), (cJ, .long)]) (AW ad 42 sz)) 0 0 (AW ad 42 sz) := by
  refine Met.ofW (cc := cX8_ofFault) (maxL := 2) (ret := (some .long)) (by decide) rfl ?_
  intro p e s m args below meth c s₁ B hml hv
  obtain ⟨rfl, hsz, ⟨hP, hK⟩⟩ := hv
  have F : CallFix p m c cX8_ofFault 2 s ([.int a1, .int a2] : List Value).toArray lw_U RX8 := ⟨B.exec, B.bytes, hml, findClass_of_methodNamed B.named, fun w h => atoms_spec (ws := wU_X8_ofFault) B.pre w (List.mem_cons_of_mem _ h)⟩
  have hx := F.1
  have hb := F.2.1
  have hown := F.2.2.2.1
  have hts := F.2.2.2.2
  have hr := B.returns
  have hlocks := B.notSynchronized
  subst hsz
  have hDs : ∀ σ, va_D (AW ad 42 s.heap.size) ((wdC ad cI cJ) σ) := fun σ => wdC_D hap σ
  have hS : va_S (AW ad 42 s.heap.size) s.heap s.heap [] := va_S.rf
  have hl := lv_entry ([.int a1, .int a2]) (n := 2) (Nat.le_of_ble_eq_true rfl)
  rw [lg_entry_eq]
  generalize (lg_sl ([.int a1, .int a2]) ++ List.replicate (2 - (lg_sl ([.int a1, .int a2])).length) Slot.unset).toArray = ls at hl ⊢
  have hl : lv_has ls 2 [(0, .int a1), (1, .int a2)] := hl
  have key : ∀ (H : Heap) (locs : List Loc), va_P D vwCl ((wdC ad cI cJ) σ) H → va_S (AW ad 42 s.heap.size) s.heap H locs → W p l e (headSpec wU_X8_ofFault rm_X8_ofFault).room s m ([.int a1, .int a2] : List Value).toArray below meth c H locs 0 0 (MQ below (va_Ql K (inW D (wdC ad cI cJ) [(cI, .int), (cJ, .long)]) (AW ad 42 s.heap.size)) ([.int a1, .int a2] : List Value).toArray s 0 0 (AW ad 42 s.heap.size)) (F0 m 0 ls []) := by
    intro H locs hP hS
    unfold w_X8_ofFault at hw
    refine lv_ldc2 (v := 3298534883328) hx hb hown (hts _ mw_182) dX8_ofFault_0 ?_
    refine lv_iload_n hx hb dX8_ofFault_3 rfl (lv_at hl 1 rfl) ?_
    refine lv_i2l hx hb dX8_ofFault_4 rfl ?_
    refine lv_bipush (v := 32) hx hb dX8_ofFault_5 (by decide) ?_
    refine lv_lshl hx hb dX8_ofFault_7 rfl ?_
    refine lv_lor hx hb dX8_ofFault_8 ?_
    refine lv_iload_n hx hb dX8_ofFault_9 rfl (lv_at hl 0 rfl) ?_
    refine lv_i2l hx hb dX8_ofFault_10 rfl ?_
    refine lv_ldc2 (v := 4294967295) hx hb hown (hts _ mw_81) dX8_ofFault_11 ?_
    refine lv_land hx hb dX8_ofFault_14 ?_
    refine lv_lor hx hb dX8_ofFault_15 ?_
    exact rtL F hr hlocks hK hw hP hS dX8_ofFault_16
  exact key s.heap [] hP hS

abbrev rm_X4_goTurn : Room := { frames := 3, cells := 0, slots := 0, locals := 79 }
set_option maxHeartbeats 4000000 in
set_option maxRecDepth 100000 in
theorem c_X4_goTurn (l : Launch) (D : va_G) (ad : Nat → Nat) (cI cJ : ClassId) (hap : apart ad 42) (sz : Nat) (σ : St) (a1 : Int32) (a2 : Int32) (a3 : Int64) (K : St → Prop) (hw : w_X4_goTurn σ a1 a2 a3 K) : Met l yX4_goTurn wU_X4_goTurn rm_X4_goTurn (va_Pc [.ref (ad 2), .int a1, .int a2, .long a3] (fun U => U.heap.size = sz ∧ inW D (wdC ad cI cJ) [(cI, .int), (cJ, .long)] σ U)) (va_Qv K (inW D (wdC ad cI cJ) [(cI, .int), (cJ, .long)]) (AW ad 42 sz)) 0 0 (AW ad 42 sz) := by
  refine Met.ofW (cc := cX4_goTurn) (maxL := 5) (ret := none) (by decide) rfl ?_
  intro p e s m args below meth c s₁ B hml hv
  obtain ⟨rfl, hsz, ⟨hP, hK⟩⟩ := hv
  have F : CallFix p m c cX4_goTurn 5 s ([.ref (ad 2), .int a1, .int a2, .long a3] : List Value).toArray lw_U RX4 := ⟨B.exec, B.bytes, hml, findClass_of_methodNamed B.named, fun w h => atoms_spec (ws := wU_X4_goTurn) B.pre w (List.mem_cons_of_mem _ h)⟩
  have hx := F.1
  have hb := F.2.1
  have hown := F.2.2.2.1
  have hts := F.2.2.2.2
  have hr := B.returns
  have hlocks := B.notSynchronized
  subst hsz
  have hDs : ∀ σ, va_D (AW ad 42 s.heap.size) ((wdC ad cI cJ) σ) := fun σ => wdC_D hap σ
  have hS : va_S (AW ad 42 s.heap.size) s.heap s.heap [] := va_S.rf
  have hl := lv_entry ([.ref (ad 2), .int a1, .int a2, .long a3]) (n := 5) (Nat.le_of_ble_eq_true rfl)
  rw [lg_entry_eq]
  generalize (lg_sl ([.ref (ad 2), .int a1, .int a2, .long a3]) ++ List.replicate (5 - (lg_sl ([.ref (ad 2), .int a1, .int a2, .long a3])).length) Slot.unset).toArray = ls at hl ⊢
  have hl : lv_has ls 5 [(0, .ref (ad 2)), (1, .int a1), (2, .int a2), (3, .long a3)] := hl
  have key : ∀ (H : Heap) (locs : List Loc), va_P D vwCl ((wdC ad cI cJ) σ) H → va_S (AW ad 42 s.heap.size) s.heap H locs → W p l e (headSpec wU_X4_goTurn rm_X4_goTurn).room s m ([.ref (ad 2), .int a1, .int a2, .long a3] : List Value).toArray below meth c H locs 0 0 (MQ below (va_Qv K (inW D (wdC ad cI cJ) [(cI, .int), (cJ, .long)]) (AW ad 42 s.heap.size)) ([.ref (ad 2), .int a1, .int a2, .long a3] : List Value).toArray s 0 0 (AW ad 42 s.heap.size)) (F0 m 0 ls []) := by
    intro H locs hP hS
    unfold w_X4_goTurn at hw
    refine lv_aload_n hx hb dX4_goTurn_0 rfl (lv_at hl 0 rfl) ?_
    refine gC_X4_colours F hK hP (hts _ mw_129) dX4_goTurn_1 ?_
    refine lv_iload_n hx hb dX4_goTurn_4 rfl (lv_at hl 2 rfl) ?_
    refine lv_aload_n hx hb dX4_goTurn_5 rfl (lv_at hl 0 rfl) ?_
    refine gC_X4_graph F hK hP (hts _ mw_92) dX4_goTurn_6 ?_
    refine gC_X2_number F hK hP (hts _ mw_183) dX4_goTurn_9 ?_
    refine lv_iload_n hx hb dX4_goTurn_12 rfl (lv_at hl 1 rfl) ?_
    obtain ⟨i_18, hw⟩ := hw
    refine lC_X2_number F hK hP i_18 dX4_goTurn_13 ?_
    refine cvI (As := [.int a2, .int (gA σ 1 (a1).toNatClampNeg)]) (rest := []) F hK hP hS (c_X0_isTurnOf l D ad cI cJ hap H.size _ _ _ _ hw) (cwV 2 hts gU_X4_237 rfl rfl rfl (by decide +kernel) ⟨Nat.le_of_ble_eq_true rfl, Nat.le_of_ble_eq_true rfl⟩) (va_recv hK hP (ci := 0) (q0 := 4) rfl rfl) rfl hl.1 rfl (Nat.le_of_ble_eq_true rfl) dX4_goTurn_14 ⟨Nat.zero_le _, Nat.zero_le _⟩ (fun r_2 u_1 H locs hw hP hS => ?_)
    obtain ⟨zr_2, hw⟩ := hw
    refine lv_if_ne (tgt := 35) hx hb dX4_goTurn_17 (by decide) (fun c_17 => ?_) (fun c_17 => ?_)
    · have hw := hw.1 c_17
      refine lv_aload_n hx hb dX4_goTurn_35 rfl (lv_at hl 0 rfl) ?_
      refine gC_X4_graph F hK hP (hts _ mw_92) dX4_goTurn_36 ?_
      refine gC_X2_kind F hK hP (hts _ mw_188) dX4_goTurn_39 ?_
      refine lv_iload_n hx hb dX4_goTurn_42 rfl (lv_at hl 1 rfl) ?_
      obtain ⟨i_12, hw⟩ := hw
      refine lC_X2_kind F hK hP i_12 dX4_goTurn_43 ?_
      refine lv_bipush (v := 12) hx hb dX4_goTurn_44 (by decide) ?_
      refine lv_icmp_ne (tgt := 67) hx hb dX4_goTurn_46 (by decide) (fun c_11 => ?_) (fun c_11 => ?_)
      · have hw := hw.1 c_11
        refine lv_aload_n hx hb dX4_goTurn_67 rfl (lv_at hl 0 rfl) ?_
        refine lv_iload_n hx hb dX4_goTurn_68 rfl (lv_at hl 1 rfl) ?_
        refine lv_iconst (v := 0) hx hb dX4_goTurn_69 (by decide) ?_
        refine lv_aload_n hx hb dX4_goTurn_70 rfl (lv_at hl 0 rfl) ?_
        refine gC_X4_colours F hK hP (hts _ mw_129) dX4_goTurn_71 ?_
        refine lv_iload_n hx hb dX4_goTurn_74 rfl (lv_at hl 2 rfl) ?_
        refine cvI (As := [.int a2]) (rest := [.int 0, .int a1, .ref (ad 2)]) F hK hP hS (c_X0_outerOf l D ad cI cJ hap H.size _ _ _ hw) (cwV 1 hts gU_X4_249 rfl rfl rfl (by decide +kernel) ⟨Nat.le_of_ble_eq_true rfl, Nat.le_of_ble_eq_true rfl⟩) (va_recv hK hP (ci := 0) (q0 := 4) rfl rfl) rfl hl.1 rfl (Nat.le_of_ble_eq_true rfl) dX4_goTurn_75 ⟨Nat.zero_le _, Nat.zero_le _⟩ (fun r_4 u_3 H locs hw hP hS => ?_)
        refine lv_lload_n hx hb dX4_goTurn_78 rfl (lv_at hl 3 rfl) ?_
        refine cvV (As := [.int a1, .int 0, .int r_4, .long a3]) (rest := []) F hK hP hS (c_X4_give l D ad cI cJ hap H.size _ _ _ _ _ _ hw) (cwV 4 hts gU_X4_192 rfl rfl rfl (by decide +kernel) ⟨Nat.le_of_ble_eq_true rfl, Nat.le_of_ble_eq_true rfl⟩) (va_recv hK hP (ci := 3) (q0 := 2) rfl rfl) rfl hl.1 rfl (Nat.le_of_ble_eq_true rfl) dX4_goTurn_79 ⟨Nat.zero_le _, Nat.zero_le _⟩ (fun u_5 H locs hw hP hS => ?_)
        exact rtV F hr hlocks hK hw hP hS dX4_goTurn_82
      · have hw := hw.2 c_11
        refine lv_aload_n hx hb dX4_goTurn_49 rfl (lv_at hl 0 rfl) ?_
        refine lv_iload_n hx hb dX4_goTurn_50 rfl (lv_at hl 1 rfl) ?_
        refine lv_iconst (v := 0) hx hb dX4_goTurn_51 (by decide) ?_
        refine lv_aload_n hx hb dX4_goTurn_52 rfl (lv_at hl 0 rfl) ?_
        refine gC_X4_colours F hK hP (hts _ mw_129) dX4_goTurn_53 ?_
        refine lv_iload_n hx hb dX4_goTurn_56 rfl (lv_at hl 2 rfl) ?_
        refine cvI (As := [.int a2]) (rest := [.int 0, .int a1, .ref (ad 2)]) F hK hP hS (c_X0_nextTurn l D ad cI cJ hap H.size _ _ _ hw) (cwV 1 hts gU_X4_246 rfl rfl rfl (by decide +kernel) ⟨Nat.le_of_ble_eq_true rfl, Nat.le_of_ble_eq_true rfl⟩) (va_recv hK hP (ci := 0) (q0 := 4) rfl rfl) rfl hl.1 rfl (Nat.le_of_ble_eq_true rfl) dX4_goTurn_57 ⟨Nat.zero_le _, Nat.zero_le _⟩ (fun r_8 u_7 H locs hw hP hS => ?_)
        refine lv_lload_n hx hb dX4_goTurn_60 rfl (lv_at hl 3 rfl) ?_
        refine cvV (As := [.int a1, .int 0, .int r_8, .long a3]) (rest := []) F hK hP hS (c_X4_give l D ad cI cJ hap H.size _ _ _ _ _ _ hw) (cwV 4 hts gU_X4_192 rfl rfl rfl (by decide +kernel) ⟨Nat.le_of_ble_eq_true rfl, Nat.le_of_ble_eq_true rfl⟩) (va_recv hK hP (ci := 3) (q0 := 2) rfl rfl) rfl hl.1 rfl (Nat.le_of_ble_eq_true rfl) dX4_goTurn_61 ⟨Nat.zero_le _, Nat.zero_le _⟩ (fun u_9 H locs hw hP hS => ?_)
        refine lv_goto (tgt := 82) hx hb dX4_goTurn_64 (by decide) ?_
        exact rtV F hr hlocks hK hw hP hS dX4_goTurn_82
    · have hw := hw.2 c_17
      refine lv_aload_n hx hb dX4_goTurn_20 rfl (lv_at hl 0 rfl) ?_
      refine lv_iload_n hx hb dX4_goTurn_21 rfl (lv_at hl 1 rfl) ?_
      refine lv_iconst (v := 0) hx hb dX4_goTurn_22 (by decide) ?_
      refine lv_iload_n hx hb dX4_goTurn_23 rfl (lv_at hl 2 rfl) ?_
      refine lv_iconst (v := 5) hx hb dX4_goTurn_24 (by decide) ?_
      refine lv_iload_n hx hb dX4_goTurn_25 rfl (lv_at hl 1 rfl) ?_
      refine csL (As := [.int 5, .int a1]) (rest := [.int a2, .int 0, .int a1, .ref (ad 2)]) F hK hP hS (c_X8_ofFault l D ad cI cJ hap H.size _ _ _ _ hw) (va_cwS 2 hts gU_X4_241 rfl rfl rfl (by decide +kernel) ⟨Nat.le_of_ble_eq_true rfl, Nat.le_of_ble_eq_true rfl⟩) rfl hl.1 rfl (Nat.le_of_ble_eq_true rfl) dX4_goTurn_26 ⟨Nat.zero_le _, Nat.zero_le _⟩ (fun r_14 u_13 H locs hw hP hS => ?_)
      refine cvV (As := [.int a1, .int 0, .int a2, .long r_14]) (rest := []) F hK hP hS (c_X4_give l D ad cI cJ hap H.size _ _ _ _ _ _ hw) (cwV 4 hts gU_X4_192 rfl rfl rfl (by decide +kernel) ⟨Nat.le_of_ble_eq_true rfl, Nat.le_of_ble_eq_true rfl⟩) (va_recv hK hP (ci := 3) (q0 := 2) rfl rfl) rfl hl.1 rfl (Nat.le_of_ble_eq_true rfl) dX4_goTurn_29 ⟨Nat.zero_le _, Nat.zero_le _⟩ (fun u_15 H locs hw hP hS => ?_)
      refine lv_goto (tgt := 82) hx hb dX4_goTurn_32 (by decide) ?_
      exact rtV F hr hlocks hK hw hP hS dX4_goTurn_82
  exact key s.heap [] hP hS

abbrev rm_X4_goCall : Room := { frames := 3, cells := 0, slots := 0, locals := 72 }
set_option maxHeartbeats 4000000 in
set_option maxRecDepth 100000 in
theorem c_X4_goCall (l : Launch) (D : va_G) (ad : Nat → Nat) (cI cJ : ClassId) (hap : apart ad 42) (sz : Nat) (σ : St) (a1 : Int32) (a2 : Int32) (a3 : Int32) (K : St → Prop) (hw : w_X4_goCall σ a1 a2 a3 K) : Met l yX4_goCall wU_X4_goCall rm_X4_goCall (va_Pc [.ref (ad 2), .int a1, .int a2, .int a3] (fun U => U.heap.size = sz ∧ inW D (wdC ad cI cJ) [(cI, .int), (cJ, .long)] σ U)) (va_Qv K (inW D (wdC ad cI cJ) [(cI, .int), (cJ, .long)]) (AW ad 42 sz)) 0 0 (AW ad 42 sz) := by
  refine Met.ofW (cc := cX4_goCall) (maxL := 7) (ret := none) (by decide) rfl ?_
  intro p e s m args below meth c s₁ B hml hv
  obtain ⟨rfl, hsz, ⟨hP, hK⟩⟩ := hv
  have F : CallFix p m c cX4_goCall 7 s ([.ref (ad 2), .int a1, .int a2, .int a3] : List Value).toArray lw_U RX4 := ⟨B.exec, B.bytes, hml, findClass_of_methodNamed B.named, fun w h => atoms_spec (ws := wU_X4_goCall) B.pre w (List.mem_cons_of_mem _ h)⟩
  have hx := F.1
  have hb := F.2.1
  have hown := F.2.2.2.1
  have hts := F.2.2.2.2
  have hr := B.returns
  have hlocks := B.notSynchronized
  subst hsz
  have hDs : ∀ σ, va_D (AW ad 42 s.heap.size) ((wdC ad cI cJ) σ) := fun σ => wdC_D hap σ
  have hS : va_S (AW ad 42 s.heap.size) s.heap s.heap [] := va_S.rf
  have lab_26 : ∀ (n : Nat), ∀ (σ : St) (x1 : Int32) (x2 : Int32) (x4 : Int32) (x5 : Int32) (H : Heap) (locs : List Loc) (ls : Array Slot), w_X4_goCall_26 K n σ x1 x2 x4 x5 → va_P D vwCl ((wdC ad cI cJ) σ) H → va_S (AW ad 42 s.heap.size) s.heap H locs → lv_has ls 7 [(0, .ref (ad 2)), (1, .int x1), (2, .int x2), (4, .int x4), (5, .int x5)] → W p l e (headSpec wU_X4_goCall rm_X4_goCall).room s m ([.ref (ad 2), .int a1, .int a2, .int a3] : List Value).toArray below meth c H locs 0 0 (MQ below (va_Qv K (inW D (wdC ad cI cJ) [(cI, .int), (cJ, .long)]) (AW ad 42 s.heap.size)) ([.ref (ad 2), .int a1, .int a2, .int a3] : List Value).toArray s 0 0 (AW ad 42 s.heap.size)) (F0 m 26 ls []) := by
    intro n
    induction n with
    | zero =>
      intro σ x1 x2 x4 x5 H locs ls hw
      exact hw.elim
    | succ n hL26 =>
      intro σ x1 x2 x4 x5 H locs ls hw hP hS hl
      have hw : b_X4_goCall_26 (w_X4_goCall_26 K n) K σ x1 x2 x4 x5 := hw
      unfold b_X4_goCall_26 at hw
      generalize w_X4_goCall_26 K n = L26 at hw hL26
      refine lv_iload hx hb dX4_goCall_26 (lv_at hl 4 rfl) ?_
      refine lv_aload_n hx hb dX4_goCall_28 rfl (lv_at hl 0 rfl) ?_
      refine gC_X4_graph F hK hP (hts _ mw_92) dX4_goCall_29 ?_
      refine gC_X2_ports F hK hP (hts _ mw_93) dX4_goCall_32 ?_
      refine lv_iload_n hx hb dX4_goCall_35 rfl (lv_at hl 2 rfl) ?_
      obtain ⟨i_10, hw⟩ := hw
      refine lC_X2_ports F hK hP i_10 dX4_goCall_36 ?_
      refine lv_icmp_ge (tgt := 91) hx hb dX4_goCall_37 (by decide) (fun c_9 => ?_) (fun c_9 => ?_)
      · have hw := hw.1 c_9
        exact rtV F hr hlocks hK hw hP hS dX4_goCall_91
      · have hw := hw.2 c_9
        refine lv_aload_n hx hb dX4_goCall_40 rfl (lv_at hl 0 rfl) ?_
        refine gC_X4_how F hK hP (hts _ mw_83) dX4_goCall_41 ?_
        refine lv_iconst (v := (-1)) hx hb dX4_goCall_44 (by decide) ?_
        refine lv_icmp_ne (tgt := 91) hx hb dX4_goCall_45 (by decide) (fun c_8 => ?_) (fun c_8 => ?_)
        · have hw := hw.1 c_8
          exact rtV F hr hlocks hK hw hP hS dX4_goCall_91
        · have hw := hw.2 c_8
          refine lv_aload_n hx hb dX4_goCall_48 rfl (lv_at hl 0 rfl) ?_
          refine gC_X4_graph F hK hP (hts _ mw_92) dX4_goCall_49 ?_
          refine lv_iload_n hx hb dX4_goCall_52 rfl (lv_at hl 2 rfl) ?_
          refine lv_iload hx hb dX4_goCall_53 (lv_at hl 4 rfl) ?_
          refine cvI (As := [.int x2, .int x5]) (rest := []) F hK hP hS (c_X2_parameterFor l D ad cI cJ hap H.size _ _ _ _ hw) (cwV 2 hts gU_X4_258 rfl rfl rfl (by decide +kernel) ⟨Nat.le_of_ble_eq_true rfl, Nat.le_of_ble_eq_true rfl⟩) (va_recv hK hP (ci := 2) (q0 := 1) rfl rfl) rfl hl.1 rfl (Nat.le_of_ble_eq_true rfl) dX4_goCall_55 ⟨Nat.zero_le _, Nat.zero_le _⟩ (fun r_2 u_1 H locs hw hP hS => ?_)
          refine lv_istore (lv' := [(6, .int r_2), (0, .ref (ad 2)), (1, .int x1), (2, .int x2), (4, .int x4), (5, .int x5)]) hx hb dX4_goCall_58 hl (by decide) rfl (fun ls hl => ?_)
          refine lv_iload hx hb dX4_goCall_60 (lv_at hl 0 rfl) ?_
          refine lv_iconst (v := (-1)) hx hb dX4_goCall_62 (by decide) ?_
          refine lv_icmp_eq (tgt := 85) hx hb dX4_goCall_63 (by decide) (fun c_7 => ?_) (fun c_7 => ?_)
          · have hw := hw.1 c_7
            refine lv_iinc (v := (x5 + 1)) (lv' := [(5, .int (x5 + 1)), (6, .int r_2), (0, .ref (ad 2)), (1, .int x1), (2, .int x2), (4, .int x4)]) hx hb dX4_goCall_85 hl (k := 5) rfl rfl (by decide) rfl (fun ls hl => ?_)
            refine lv_goto (tgt := 26) hx hb dX4_goCall_88 (by decide) ?_
            exact hL26 _ _ _ _ _ _ _ _ hw hP hS (lv_sub hl [2, 3, 4, 5, 0] rfl)
          · have hw := hw.2 c_7
            refine lv_aload_n hx hb dX4_goCall_66 rfl (lv_at hl 1 rfl) ?_
            refine lv_iload hx hb dX4_goCall_67 (lv_at hl 0 rfl) ?_
            refine lv_iconst (v := 0) hx hb dX4_goCall_69 (by decide) ?_
            refine lv_iload hx hb dX4_goCall_70 (lv_at hl 4 rfl) ?_
            refine lv_aload_n hx hb dX4_goCall_72 rfl (lv_at hl 1 rfl) ?_
            refine gC_X4_floor F hK hP (hts _ mw_86) dX4_goCall_73 ?_
            refine lv_iload_n hx hb dX4_goCall_76 rfl (lv_at hl 2 rfl) ?_
            refine lv_iload hx hb dX4_goCall_77 (lv_at hl 5 rfl) ?_
            refine cvL (As := [.int x1, .int x5]) (rest := [.int x4, .int 0, .int r_2, .ref (ad 2)]) F hK hP hS (c_X1_cameTo l D ad cI cJ hap H.size _ _ _ _ hw) (cwV 2 hts gU_X4_175 rfl rfl rfl (by decide +kernel) ⟨Nat.le_of_ble_eq_true rfl, Nat.le_of_ble_eq_true rfl⟩) (va_recv hK hP (ci := 1) (q0 := 5) rfl rfl) rfl hl.1 rfl (Nat.le_of_ble_eq_true rfl) dX4_goCall_79 ⟨Nat.zero_le _, Nat.zero_le _⟩ (fun r_4 u_3 H locs hw hP hS => ?_)
            refine cvV (As := [.int r_2, .int 0, .int x4, .long r_4]) (rest := []) F hK hP hS (c_X4_arrive l D ad cI cJ hap H.size _ _ _ _ _ _ hw) (cwV 4 hts gU_X4_160 rfl rfl rfl (by decide +kernel) ⟨Nat.le_of_ble_eq_true rfl, Nat.le_of_ble_eq_true rfl⟩) (va_recv hK hP (ci := 3) (q0 := 2) rfl rfl) rfl hl.1 rfl (Nat.le_of_ble_eq_true rfl) dX4_goCall_82 ⟨Nat.zero_le _, Nat.zero_le _⟩ (fun u_5 H locs hw hP hS => ?_)
            refine lv_iinc (v := (x5 + 1)) (lv' := [(5, .int (x5 + 1)), (6, .int r_2), (0, .ref (ad 2)), (1, .int x1), (2, .int x2), (4, .int x4)]) hx hb dX4_goCall_85 hl (k := 5) rfl rfl (by decide) rfl (fun ls hl => ?_)
            refine lv_goto (tgt := 26) hx hb dX4_goCall_88 (by decide) ?_
            exact hL26 _ _ _ _ _ _ _ _ hw hP hS (lv_sub hl [2, 3, 4, 5, 0] rfl)
  have hl := lv_entry ([.ref (ad 2), .int a1, .int a2, .int a3]) (n := 7) (Nat.le_of_ble_eq_true rfl)
  rw [lg_entry_eq]
  generalize (lg_sl ([.ref (ad 2), .int a1, .int a2, .int a3]) ++ List.replicate (7 - (lg_sl ([.ref (ad 2), .int a1, .int a2, .int a3])).length) Slot.unset).toArray = ls at hl ⊢
  have hl : lv_has ls 7 [(0, .ref (ad 2)), (1, .int a1), (2, .int a2), (3, .int a3)] := hl
  have key : ∀ (H : Heap) (locs : List Loc), va_P D vwCl ((wdC ad cI cJ) σ) H → va_S (AW ad 42 s.heap.size) s.heap H locs → W p l e (headSpec wU_X4_goCall rm_X4_goCall).room s m ([.ref (ad 2), .int a1, .int a2, .int a3] : List Value).toArray below meth c H locs 0 0 (MQ below (va_Qv K (inW D (wdC ad cI cJ) [(cI, .int), (cJ, .long)]) (AW ad 42 s.heap.size)) ([.ref (ad 2), .int a1, .int a2, .int a3] : List Value).toArray s 0 0 (AW ad 42 s.heap.size)) (F0 m 0 ls []) := by
    intro H locs hP hS
    unfold w_X4_goCall at hw
    refine lv_aload_n hx hb dX4_goCall_0 rfl (lv_at hl 0 rfl) ?_
    refine gC_X4_colours F hK hP (hts _ mw_129) dX4_goCall_1 ?_
    refine lv_iload_n hx hb dX4_goCall_4 rfl (lv_at hl 3 rfl) ?_
    refine lv_iload_n hx hb dX4_goCall_5 rfl (lv_at hl 2 rfl) ?_
    refine cvI (As := [.int a3, .int a2]) (rest := []) F hK hP hS (c_X0_callBy l D ad cI cJ hap H.size _ _ _ _ hw) (cwV 2 hts gU_X4_252 rfl rfl rfl (by decide +kernel) ⟨Nat.le_of_ble_eq_true rfl, Nat.le_of_ble_eq_true rfl⟩) (va_recv hK hP (ci := 0) (q0 := 4) rfl rfl) rfl hl.1 rfl (Nat.le_of_ble_eq_true rfl) dX4_goCall_6 ⟨Nat.zero_le _, Nat.zero_le _⟩ (fun r_12 u_11 H locs hw hP hS => ?_)
    refine lv_istore (lv' := [(4, .int r_12), (0, .ref (ad 2)), (1, .int a1), (2, .int a2), (3, .int a3)]) hx hb dX4_goCall_9 hl (by decide) rfl (fun ls hl => ?_)
    refine lv_iload hx hb dX4_goCall_11 (lv_at hl 0 rfl) ?_
    refine lv_iconst (v := (-1)) hx hb dX4_goCall_13 (by decide) ?_
    refine lv_icmp_ne (tgt := 23) hx hb dX4_goCall_14 (by decide) (fun c_14 => ?_) (fun c_14 => ?_)
    · have hw := hw.1 c_14
      refine lv_iconst (v := 0) hx hb dX4_goCall_23 (by decide) ?_
      refine lv_istore (lv' := [(5, .int 0), (4, .int r_12), (0, .ref (ad 2)), (1, .int a1), (2, .int a2), (3, .int a3)]) hx hb dX4_goCall_24 hl (by decide) rfl (fun ls hl => ?_)
      obtain ⟨n_13, hw⟩ := hw
      exact lab_26 n_13 _ _ _ _ _ _ _ _ hw hP hS (lv_sub hl [2, 3, 4, 1, 0] rfl)
    · have hw := hw.2 c_14
      refine lv_aload_n hx hb dX4_goCall_17 rfl (lv_at hl 1 rfl) ?_
      refine lv_iconst (v := 2) hx hb dX4_goCall_18 (by decide) ?_
      refine pC_X4_how F hK hP hDs hS (hts _ mw_83) dX4_goCall_19 (fun H locs hP hS => ?_)
      exact rtV F hr hlocks hK hw hP hS dX4_goCall_22
  exact key s.heap [] hP hS

abbrev rm_X4_goReturn : Room := { frames := 3, cells := 0, slots := 0, locals := 79 }
set_option maxHeartbeats 4000000 in
set_option maxRecDepth 100000 in
theorem c_X4_goReturn (l : Launch) (D : va_G) (ad : Nat → Nat) (cI cJ : ClassId) (hap : apart ad 42) (sz : Nat) (σ : St) (a1 : Int32) (a2 : Int64) (K : St → Prop) (hw : w_X4_goReturn σ a1 a2 K) : Met l yX4_goReturn wU_X4_goReturn rm_X4_goReturn (va_Pc [.ref (ad 2), .int a1, .long a2] (fun U => U.heap.size = sz ∧ inW D (wdC ad cI cJ) [(cI, .int), (cJ, .long)] σ U)) (va_Qv K (inW D (wdC ad cI cJ) [(cI, .int), (cJ, .long)]) (AW ad 42 sz)) 0 0 (AW ad 42 sz) := by
  refine Met.ofW (cc := cX4_goReturn) (maxL := 5) (ret := none) (by decide) rfl ?_
  intro p e s m args below meth c s₁ B hml hv
  obtain ⟨rfl, hsz, ⟨hP, hK⟩⟩ := hv
  have F : CallFix p m c cX4_goReturn 5 s ([.ref (ad 2), .int a1, .long a2] : List Value).toArray lw_U RX4 := ⟨B.exec, B.bytes, hml, findClass_of_methodNamed B.named, fun w h => atoms_spec (ws := wU_X4_goReturn) B.pre w (List.mem_cons_of_mem _ h)⟩
  have hx := F.1
  have hb := F.2.1
  have hown := F.2.2.2.1
  have hts := F.2.2.2.2
  have hr := B.returns
  have hlocks := B.notSynchronized
  subst hsz
  have hDs : ∀ σ, va_D (AW ad 42 s.heap.size) ((wdC ad cI cJ) σ) := fun σ => wdC_D hap σ
  have hS : va_S (AW ad 42 s.heap.size) s.heap s.heap [] := va_S.rf
  have hl := lv_entry ([.ref (ad 2), .int a1, .long a2]) (n := 5) (Nat.le_of_ble_eq_true rfl)
  rw [lg_entry_eq]
  generalize (lg_sl ([.ref (ad 2), .int a1, .long a2]) ++ List.replicate (5 - (lg_sl ([.ref (ad 2), .int a1, .long a2])).length) Slot.unset).toArray = ls at hl ⊢
  have hl : lv_has ls 5 [(0, .ref (ad 2)), (1, .int a1), (2, .long a2)] := hl
  have key : ∀ (H : Heap) (locs : List Loc), va_P D vwCl ((wdC ad cI cJ) σ) H → va_S (AW ad 42 s.heap.size) s.heap H locs → W p l e (headSpec wU_X4_goReturn rm_X4_goReturn).room s m ([.ref (ad 2), .int a1, .long a2] : List Value).toArray below meth c H locs 0 0 (MQ below (va_Qv K (inW D (wdC ad cI cJ) [(cI, .int), (cJ, .long)]) (AW ad 42 s.heap.size)) ([.ref (ad 2), .int a1, .long a2] : List Value).toArray s 0 0 (AW ad 42 s.heap.size)) (F0 m 0 ls []) := by
    intro H locs hP hS
    unfold w_X4_goReturn at hw
    refine lv_aload_n hx hb dX4_goReturn_0 rfl (lv_at hl 0 rfl) ?_
    refine gC_X4_colours F hK hP (hts _ mw_129) dX4_goReturn_1 ?_
    refine lv_iload_n hx hb dX4_goReturn_4 rfl (lv_at hl 1 rfl) ?_
    refine cvI (As := [.int a1]) (rest := []) F hK hP hS (c_X0_callerOf l D ad cI cJ hap H.size _ _ _ hw) (cwV 1 hts gU_X4_261 rfl rfl rfl (by decide +kernel) ⟨Nat.le_of_ble_eq_true rfl, Nat.le_of_ble_eq_true rfl⟩) (va_recv hK hP (ci := 0) (q0 := 4) rfl rfl) rfl hl.1 rfl (Nat.le_of_ble_eq_true rfl) dX4_goReturn_5 ⟨Nat.zero_le _, Nat.zero_le _⟩ (fun r_2 u_1 H locs hw hP hS => ?_)
    refine lv_istore (lv' := [(4, .int r_2), (0, .ref (ad 2)), (1, .int a1), (2, .long a2)]) hx hb dX4_goReturn_8 hl (by decide) rfl (fun ls hl => ?_)
    refine lv_iload hx hb dX4_goReturn_10 (lv_at hl 0 rfl) ?_
    refine lv_iconst (v := (-1)) hx hb dX4_goReturn_12 (by decide) ?_
    refine lv_icmp_ne (tgt := 29) hx hb dX4_goReturn_13 (by decide) (fun c_7 => ?_) (fun c_7 => ?_)
    · have hw := hw.1 c_7
      refine lv_aload_n hx hb dX4_goReturn_29 rfl (lv_at hl 1 rfl) ?_
      refine lv_iload hx hb dX4_goReturn_30 (lv_at hl 0 rfl) ?_
      refine lv_iconst (v := 0) hx hb dX4_goReturn_32 (by decide) ?_
      refine lv_aload_n hx hb dX4_goReturn_33 rfl (lv_at hl 1 rfl) ?_
      refine gC_X4_colours F hK hP (hts _ mw_129) dX4_goReturn_34 ?_
      refine lv_iload_n hx hb dX4_goReturn_37 rfl (lv_at hl 2 rfl) ?_
      refine cvI (As := [.int a1]) (rest := [.int 0, .int r_2, .ref (ad 2)]) F hK hP hS (c_X0_outerOf l D ad cI cJ hap H.size _ _ _ hw) (cwV 1 hts gU_X4_249 rfl rfl rfl (by decide +kernel) ⟨Nat.le_of_ble_eq_true rfl, Nat.le_of_ble_eq_true rfl⟩) (va_recv hK hP (ci := 0) (q0 := 4) rfl rfl) rfl hl.1 rfl (Nat.le_of_ble_eq_true rfl) dX4_goReturn_38 ⟨Nat.zero_le _, Nat.zero_le _⟩ (fun r_4 u_3 H locs hw hP hS => ?_)
      refine lv_lload_n hx hb dX4_goReturn_41 rfl (lv_at hl 3 rfl) ?_
      refine cvV (As := [.int r_2, .int 0, .int r_4, .long a2]) (rest := []) F hK hP hS (c_X4_give l D ad cI cJ hap H.size _ _ _ _ _ _ hw) (cwV 4 hts gU_X4_192 rfl rfl rfl (by decide +kernel) ⟨Nat.le_of_ble_eq_true rfl, Nat.le_of_ble_eq_true rfl⟩) (va_recv hK hP (ci := 3) (q0 := 2) rfl rfl) rfl hl.1 rfl (Nat.le_of_ble_eq_true rfl) dX4_goReturn_42 ⟨Nat.zero_le _, Nat.zero_le _⟩ (fun u_5 H locs hw hP hS => ?_)
      exact rtV F hr hlocks hK hw hP hS dX4_goReturn_45
    · have hw := hw.2 c_7
      refine lv_aload_n hx hb dX4_goReturn_16 rfl (lv_at hl 1 rfl) ?_
      refine lv_dup hx hb dX4_goReturn_17 rfl ?_
      refine gC_X4_lost F hK hP (hts _ mw_153) dX4_goReturn_18 ?_
      refine lv_iconst (v := 1) hx hb dX4_goReturn_21 (by decide) ?_
      refine lv_iadd hx hb dX4_goReturn_22 ?_
      refine pC_X4_lost F hK hP hDs hS (hts _ mw_153) dX4_goReturn_23 (fun H locs hP hS => ?_)
      refine lv_goto (tgt := 45) hx hb dX4_goReturn_26 (by decide) ?_
      exact rtV F hr hlocks hK hw hP hS dX4_goReturn_45
  exact key s.heap [] hP hS

abbrev rm_X8_refuse : Room := { frames := 1, cells := 0, slots := 0, locals := 21 }
set_option maxHeartbeats 4000000 in
set_option maxRecDepth 100000 in
theorem c_X8_refuse (l : Launch) (D : va_G) (ad : Nat → Nat) (cI cJ : ClassId) (hap : apart ad 42) (sz : Nat) (σ : St) (a1 : Int32) (a2 : Int64) (a3 : Int32) (K : Int64 → St → Prop) (hw : w_X8_refuse σ a1 a2 a3 K) : Met l yX8_refuse wU_X8_refuse rm_X8_refuse (va_Pc [.int a1, .long a2, .int a3] (fun U => U.heap.size = sz ∧ inW D (wdC ad cI cJ) [(cI, .int), (cJ, .long)] σ U)) (va_Ql K (inW D (wdC ad cI cJ) [(cI, .int), (cJ, .long)]) (AW ad 42 sz)) 0 0 (AW ad 42 sz) := by
  refine Met.ofW (cc := cX8_refuse) (maxL := 5) (ret := (some .long)) (by decide) rfl ?_
  intro p e s m args below meth c s₁ B hml hv
  obtain ⟨rfl, hsz, ⟨hP, hK⟩⟩ := hv
  have F : CallFix p m c cX8_refuse 5 s ([.int a1, .long a2, .int a3] : List Value).toArray lw_U RX8 := ⟨B.exec, B.bytes, hml, findClass_of_methodNamed B.named, fun w h => atoms_spec (ws := wU_X8_refuse) B.pre w (List.mem_cons_of_mem _ h)⟩
  have hx := F.1
  have hb := F.2.1
  have hown := F.2.2.2.1
  have hts := F.2.2.2.2
  have hr := B.returns
  have hlocks := B.notSynchronized
  subst hsz
  have hDs : ∀ σ, va_D (AW ad 42 s.heap.size) ((wdC ad cI cJ) σ) := fun σ => wdC_D hap σ
  have hS : va_S (AW ad 42 s.heap.size) s.heap s.heap [] := va_S.rf
  have hl := lv_entry ([.int a1, .long a2, .int a3]) (n := 5) (Nat.le_of_ble_eq_true rfl)
  rw [lg_entry_eq]
  generalize (lg_sl ([.int a1, .long a2, .int a3]) ++ List.replicate (5 - (lg_sl ([.int a1, .long a2, .int a3])).length) Slot.unset).toArray = ls at hl ⊢
  have hl : lv_has ls 5 [(0, .int a1), (1, .long a2), (3, .int a3)] := hl
  have key : ∀ (H : Heap) (locs : List Loc), va_P D vwCl ((wdC ad cI cJ) σ) H → va_S (AW ad 42 s.heap.size) s.heap H locs → W p l e (headSpec wU_X8_refuse rm_X8_refuse).room s m ([.int a1, .long a2, .int a3] : List Value).toArray below meth c H locs 0 0 (MQ below (va_Ql K (inW D (wdC ad cI cJ) [(cI, .int), (cJ, .long)]) (AW ad 42 s.heap.size)) ([.int a1, .long a2, .int a3] : List Value).toArray s 0 0 (AW ad 42 s.heap.size)) (F0 m 0 ls []) := by
    intro H locs hP hS
    unfold w_X8_refuse at hw
    refine lv_lload_n hx hb dX8_refuse_0 rfl (lv_at hl 1 rfl) ?_
    refine csI (As := [.long a2]) (rest := []) F hK hP hS (c_X8_sortOf l D ad cI cJ hap H.size _ _ _ hw) (va_cwS 1 hts gU_X8_21 rfl rfl rfl (by decide +kernel) ⟨Nat.le_of_ble_eq_true rfl, Nat.le_of_ble_eq_true rfl⟩) rfl hl.1 rfl (Nat.le_of_ble_eq_true rfl) dX8_refuse_1 ⟨Nat.zero_le _, Nat.zero_le _⟩ (fun r_2 u_1 H locs hw hP hS => ?_)
    refine lv_istore (lv' := [(4, .int r_2), (0, .int a1), (1, .long a2), (3, .int a3)]) hx hb dX8_refuse_4 hl (by decide) rfl (fun ls hl => ?_)
    refine lv_iload hx hb dX8_refuse_6 (lv_at hl 0 rfl) ?_
    refine lv_iconst (v := 3) hx hb dX8_refuse_8 (by decide) ?_
    refine lv_icmp_ne (tgt := 14) hx hb dX8_refuse_9 (by decide) (fun c_6 => ?_) (fun c_6 => ?_)
    · have hw := hw.1 c_6
      refine lv_iload hx hb dX8_refuse_14 (lv_at hl 0 rfl) ?_
      refine lv_iload_n hx hb dX8_refuse_16 rfl (lv_at hl 3 rfl) ?_
      refine lv_icmp_ne (tgt := 24) hx hb dX8_refuse_17 (by decide) (fun c_5 => ?_) (fun c_5 => ?_)
      · have hw := hw.1 c_5
        refine lv_iconst (v := 4) hx hb dX8_refuse_24 (by decide) ?_
        refine lv_iload_n hx hb dX8_refuse_25 rfl (lv_at hl 1 rfl) ?_
        refine csL (As := [.int 4, .int a1]) (rest := []) F hK hP hS (c_X8_ofFault l D ad cI cJ hap H.size _ _ _ _ hw) (va_cwS 2 hts gU_X8_25 rfl rfl rfl (by decide +kernel) ⟨Nat.le_of_ble_eq_true rfl, Nat.le_of_ble_eq_true rfl⟩) rfl hl.1 rfl (Nat.le_of_ble_eq_true rfl) dX8_refuse_26 ⟨Nat.zero_le _, Nat.zero_le _⟩ (fun r_4 u_3 H locs hw hP hS => ?_)
        exact rtL F hr hlocks hK hw hP hS dX8_refuse_29
      · have hw := hw.2 c_5
        refine lv_lconst (v := 0) hx hb dX8_refuse_20 (by decide) ?_
        refine lv_goto (tgt := 29) hx hb dX8_refuse_21 (by decide) ?_
        exact rtL F hr hlocks hK hw hP hS dX8_refuse_29
    · have hw := hw.2 c_6
      refine lv_lload_n hx hb dX8_refuse_12 rfl (lv_at hl 2 rfl) ?_
      exact rtL F hr hlocks hK hw hP hS dX8_refuse_13
  exact key s.heap [] hP hS

abbrev rm_X6_make : Room := { frames := 0, cells := 0, slots := 0, locals := 0 }
set_option maxHeartbeats 4000000 in
set_option maxRecDepth 100000 in
theorem c_X6_make (l : Launch) (D : va_G) (ad : Nat → Nat) (cI cJ : ClassId) (hap : apart ad 42) (sz : Nat) (σ : St) (a1 : Int32) (K : Int32 → St → Prop) (hw : w_X6_make σ a1 K) : Met l yX6_make wU_X6_make rm_X6_make (va_Pc [.ref (ad 3), .int a1] (fun U => U.heap.size = sz ∧ inW D (wdC ad cI cJ) [(cI, .int), (cJ, .long)] σ U)) (va_Qi K (inW D (wdC ad cI cJ) [(cI, .int), (cJ, .long)]) (AW ad 42 sz)) 0 0 (AW ad 42 sz) := by
  refine Met.ofW (cc := cX6_make) (maxL := 4) (ret := (some .int)) (by decide) rfl ?_
  intro p e s m args below meth c s₁ B hml hv
  obtain ⟨rfl, hsz, ⟨hP, hK⟩⟩ := hv
  have F : CallFix p m c cX6_make 4 s ([.ref (ad 3), .int a1] : List Value).toArray lw_U RX6 := ⟨B.exec, B.bytes, hml, findClass_of_methodNamed B.named, fun w h => atoms_spec (ws := wU_X6_make) B.pre w (List.mem_cons_of_mem _ h)⟩
  have hx := F.1
  have hb := F.2.1
  have hown := F.2.2.2.1
  have hts := F.2.2.2.2
  have hr := B.returns
  have hlocks := B.notSynchronized
  subst hsz
  have hDs : ∀ σ, va_D (AW ad 42 s.heap.size) ((wdC ad cI cJ) σ) := fun σ => wdC_D hap σ
  have hS : va_S (AW ad 42 s.heap.size) s.heap s.heap [] := va_S.rf
  have lab_58 : ∀ (n : Nat), ∀ (σ : St) (x1 : Int32) (x2 : Int32) (x3 : Int32) (H : Heap) (locs : List Loc) (ls : Array Slot), w_X6_make_58 K n σ x1 x2 x3 → va_P D vwCl ((wdC ad cI cJ) σ) H → va_S (AW ad 42 s.heap.size) s.heap H locs → lv_has ls 4 [(0, .ref (ad 3)), (1, .int x1), (2, .int x2), (3, .int x3)] → W p l e (headSpec wU_X6_make rm_X6_make).room s m ([.ref (ad 3), .int a1] : List Value).toArray below meth c H locs 0 0 (MQ below (va_Qi K (inW D (wdC ad cI cJ) [(cI, .int), (cJ, .long)]) (AW ad 42 s.heap.size)) ([.ref (ad 3), .int a1] : List Value).toArray s 0 0 (AW ad 42 s.heap.size)) (F0 m 58 ls []) := by
    intro n
    induction n with
    | zero =>
      intro σ x1 x2 x3 H locs ls hw
      exact hw.elim
    | succ n hL58 =>
      intro σ x1 x2 x3 H locs ls hw hP hS hl
      have hw : b_X6_make_58 (w_X6_make_58 K n) K σ x1 x2 x3 := hw
      unfold b_X6_make_58 at hw
      generalize w_X6_make_58 K n = L58 at hw hL58
      refine lv_iload_n hx hb dX6_make_58 rfl (lv_at hl 3 rfl) ?_
      refine lv_iload_n hx hb dX6_make_59 rfl (lv_at hl 1 rfl) ?_
      refine lv_icmp_ge (tgt := 109) hx hb dX6_make_60 (by decide) (fun c_4 => ?_) (fun c_4 => ?_)
      · have hw := hw.1 c_4
        refine lv_iload_n hx hb dX6_make_109 rfl (lv_at hl 2 rfl) ?_
        exact rtI F hr hlocks hK hw hP hS dX6_make_110
      · have hw := hw.2 c_4
        refine lv_aload_n hx hb dX6_make_63 rfl (lv_at hl 0 rfl) ?_
        refine gC_X6_written F hK hP (hts _ mw_218) dX6_make_64 ?_
        refine lv_aload_n hx hb dX6_make_67 rfl (lv_at hl 0 rfl) ?_
        refine gC_X6_cells F hK hP (hts _ mw_78) dX6_make_68 ?_
        refine lv_lconst (v := 0) hx hb dX6_make_71 (by decide) ?_
        obtain ⟨i_3, hw⟩ := hw
        refine sC_X6_written F hK hP hDs hS i_3 dX6_make_72 (fun H locs hP hS => ?_)
        refine lv_aload_n hx hb dX6_make_73 rfl (lv_at hl 0 rfl) ?_
        refine gC_X6_firstReader F hK hP (hts _ mw_219) dX6_make_74 ?_
        refine lv_aload_n hx hb dX6_make_77 rfl (lv_at hl 0 rfl) ?_
        refine gC_X6_cells F hK hP (hts _ mw_78) dX6_make_78 ?_
        refine jvi (y := (gS σ 13)) (by simp only [gS_sS, gS_sA, gS_sL, gS_fA, gS_fL, gA_sS, gA_sA, gA_sL, gA_fA, gA_fL, gL_sS, gL_sA, gL_sL, gL_fA, gL_fL, reduceIte, Nat.reduceEqDiff]) ?_
        refine lv_iconst (v := (-1)) hx hb dX6_make_81 (by decide) ?_
        obtain ⟨i_2, hw⟩ := hw
        refine sC_X6_firstReader F hK hP hDs hS i_2 dX6_make_82 (fun H locs hP hS => ?_)
        refine lv_aload_n hx hb dX6_make_83 rfl (lv_at hl 0 rfl) ?_
        refine gC_X6_lastReader F hK hP (hts _ mw_220) dX6_make_84 ?_
        refine lv_aload_n hx hb dX6_make_87 rfl (lv_at hl 0 rfl) ?_
        refine gC_X6_cells F hK hP (hts _ mw_78) dX6_make_88 ?_
        refine jvi (y := (gS σ 13)) (by simp only [gS_sS, gS_sA, gS_sL, gS_fA, gS_fL, gA_sS, gA_sA, gA_sL, gA_fA, gA_fL, gL_sS, gL_sA, gL_sL, gL_fA, gL_fL, reduceIte, Nat.reduceEqDiff]) ?_
        refine lv_iconst (v := (-1)) hx hb dX6_make_91 (by decide) ?_
        obtain ⟨i_1, hw⟩ := hw
        refine sC_X6_lastReader F hK hP hDs hS i_1 dX6_make_92 (fun H locs hP hS => ?_)
        refine lv_aload_n hx hb dX6_make_93 rfl (lv_at hl 0 rfl) ?_
        refine lv_dup hx hb dX6_make_94 rfl ?_
        refine gC_X6_cells F hK hP (hts _ mw_78) dX6_make_95 ?_
        refine jvi (y := (gS σ 13)) (by simp only [gS_sS, gS_sA, gS_sL, gS_fA, gS_fL, gA_sS, gA_sA, gA_sL, gA_fA, gA_fL, gL_sS, gL_sA, gL_sL, gL_fA, gL_fL, reduceIte, Nat.reduceEqDiff]) ?_
        refine lv_iconst (v := 1) hx hb dX6_make_98 (by decide) ?_
        refine lv_iadd hx hb dX6_make_99 ?_
        refine pC_X6_cells F hK hP hDs hS (hts _ mw_78) dX6_make_100 (fun H locs hP hS => ?_)
        refine lv_iinc (v := (x3 + 1)) (lv' := [(3, .int (x3 + 1)), (0, .ref (ad 3)), (1, .int x1), (2, .int x2)]) hx hb dX6_make_103 hl (k := 3) rfl rfl (by decide) rfl (fun ls hl => ?_)
        refine lv_goto (tgt := 58) hx hb dX6_make_106 (by decide) ?_
        exact hL58 _ _ _ _ _ _ _ hw hP hS (lv_sub hl [1, 2, 3, 0] rfl)
  have hl := lv_entry ([.ref (ad 3), .int a1]) (n := 4) (Nat.le_of_ble_eq_true rfl)
  rw [lg_entry_eq]
  generalize (lg_sl ([.ref (ad 3), .int a1]) ++ List.replicate (4 - (lg_sl ([.ref (ad 3), .int a1])).length) Slot.unset).toArray = ls at hl ⊢
  have hl : lv_has ls 4 [(0, .ref (ad 3)), (1, .int a1)] := hl
  have key : ∀ (H : Heap) (locs : List Loc), va_P D vwCl ((wdC ad cI cJ) σ) H → va_S (AW ad 42 s.heap.size) s.heap H locs → W p l e (headSpec wU_X6_make rm_X6_make).room s m ([.ref (ad 3), .int a1] : List Value).toArray below meth c H locs 0 0 (MQ below (va_Qi K (inW D (wdC ad cI cJ) [(cI, .int), (cJ, .long)]) (AW ad 42 s.heap.size)) ([.ref (ad 3), .int a1] : List Value).toArray s 0 0 (AW ad 42 s.heap.size)) (F0 m 0 ls []) := by
    intro H locs hP hS
    unfold w_X6_make at hw
    refine lv_aload_n hx hb dX6_make_0 rfl (lv_at hl 0 rfl) ?_
    refine gC_X6_rows F hK hP (hts _ mw_77) dX6_make_1 ?_
    refine lv_sipush (v := 300) hx hb dX6_make_4 (by decide) ?_
    refine lv_icmp_ge (tgt := 22) hx hb dX6_make_7 (by decide) (fun c_9 => ?_) (fun c_9 => ?_)
    · have hw := hw.1 c_9
      refine lv_iconst (v := (-1)) hx hb dX6_make_22 (by decide) ?_
      exact rtI F hr hlocks hK hw hP hS dX6_make_23
    · have hw := hw.2 c_9
      refine lv_aload_n hx hb dX6_make_10 rfl (lv_at hl 0 rfl) ?_
      refine gC_X6_cells F hK hP (hts _ mw_78) dX6_make_11 ?_
      refine lv_iload_n hx hb dX6_make_14 rfl (lv_at hl 1 rfl) ?_
      refine lv_iadd hx hb dX6_make_15 ?_
      refine lv_sipush (v := 2000) hx hb dX6_make_16 (by decide) ?_
      refine lv_icmp_le (tgt := 24) hx hb dX6_make_19 (by decide) (fun c_8 => ?_) (fun c_8 => ?_)
      · have hw := hw.1 c_8
        refine lv_aload_n hx hb dX6_make_24 rfl (lv_at hl 0 rfl) ?_
        refine gC_X6_rows F hK hP (hts _ mw_77) dX6_make_25 ?_
        refine lv_istore_n (lv' := [(2, .int (gS σ 12)), (0, .ref (ad 3)), (1, .int a1)]) hx hb dX6_make_28 rfl hl (by decide) rfl (fun ls hl => ?_)
        refine lv_aload_n hx hb dX6_make_29 rfl (lv_at hl 1 rfl) ?_
        refine lv_dup hx hb dX6_make_30 rfl ?_
        refine gC_X6_rows F hK hP (hts _ mw_77) dX6_make_31 ?_
        refine lv_iconst (v := 1) hx hb dX6_make_34 (by decide) ?_
        refine lv_iadd hx hb dX6_make_35 ?_
        refine pC_X6_rows F hK hP hDs hS (hts _ mw_77) dX6_make_36 (fun H locs hP hS => ?_)
        refine lv_aload_n hx hb dX6_make_39 rfl (lv_at hl 1 rfl) ?_
        refine gC_X6_start F hK hP (hts _ mw_221) dX6_make_40 ?_
        refine lv_iload_n hx hb dX6_make_43 rfl (lv_at hl 0 rfl) ?_
        refine lv_aload_n hx hb dX6_make_44 rfl (lv_at hl 1 rfl) ?_
        refine gC_X6_cells F hK hP (hts _ mw_78) dX6_make_45 ?_
        refine jvi (y := (gS σ 13)) (by simp only [gS_sS, gS_sA, gS_sL, gS_fA, gS_fL, gA_sS, gA_sA, gA_sL, gA_fA, gA_fL, gL_sS, gL_sA, gL_sL, gL_fA, gL_fL, reduceIte, Nat.reduceEqDiff]) ?_
        obtain ⟨i_7, hw⟩ := hw
        refine sC_X6_start F hK hP hDs hS i_7 dX6_make_48 (fun H locs hP hS => ?_)
        refine lv_aload_n hx hb dX6_make_49 rfl (lv_at hl 1 rfl) ?_
        refine gC_X6_size F hK hP (hts _ mw_222) dX6_make_50 ?_
        refine lv_iload_n hx hb dX6_make_53 rfl (lv_at hl 0 rfl) ?_
        refine lv_iload_n hx hb dX6_make_54 rfl (lv_at hl 2 rfl) ?_
        obtain ⟨i_6, hw⟩ := hw
        refine sC_X6_size F hK hP hDs hS i_6 dX6_make_55 (fun H locs hP hS => ?_)
        refine lv_iconst (v := 0) hx hb dX6_make_56 (by decide) ?_
        refine lv_istore_n (lv' := [(3, .int 0), (2, .int (gS σ 12)), (0, .ref (ad 3)), (1, .int a1)]) hx hb dX6_make_57 rfl hl (by decide) rfl (fun ls hl => ?_)
        obtain ⟨n_5, hw⟩ := hw
        exact lab_58 n_5 _ _ _ _ _ _ _ hw hP hS (lv_sub hl [2, 3, 1, 0] rfl)
      · have hw := hw.2 c_8
        refine lv_iconst (v := (-1)) hx hb dX6_make_22 (by decide) ?_
        exact rtI F hr hlocks hK hw hP hS dX6_make_23
  exact key s.heap [] hP hS

abbrev rm_X8_ofRow : Room := { frames := 0, cells := 0, slots := 0, locals := 0 }
set_option maxHeartbeats 4000000 in
set_option maxRecDepth 100000 in
theorem c_X8_ofRow (l : Launch) (D : va_G) (ad : Nat → Nat) (cI cJ : ClassId) (hap : apart ad 42) (sz : Nat) (σ : St) (a1 : Int32) (K : Int64 → St → Prop) (hw : w_X8_ofRow σ a1 K) : Met l yX8_ofRow wU_X8_ofRow rm_X8_ofRow (va_Pc [.int a1] (fun U => U.heap.size = sz ∧ inW D (wdC ad cI cJ) [(cI, .int), (cJ, .long)] σ U)) (va_Ql K (inW D (wdC ad cI cJ) [(cI, .int), (cJ, .long)]) (AW ad 42 sz)) 0 0 (AW ad 42 sz) := by
  refine Met.ofW (cc := cX8_ofRow) (maxL := 1) (ret := (some .long)) (by decide) rfl ?_
  intro p e s m args below meth c s₁ B hml hv
  obtain ⟨rfl, hsz, ⟨hP, hK⟩⟩ := hv
  have F : CallFix p m c cX8_ofRow 1 s ([.int a1] : List Value).toArray lw_U RX8 := ⟨B.exec, B.bytes, hml, findClass_of_methodNamed B.named, fun w h => atoms_spec (ws := wU_X8_ofRow) B.pre w (List.mem_cons_of_mem _ h)⟩
  have hx := F.1
  have hb := F.2.1
  have hown := F.2.2.2.1
  have hts := F.2.2.2.2
  have hr := B.returns
  have hlocks := B.notSynchronized
  subst hsz
  have hDs : ∀ σ, va_D (AW ad 42 s.heap.size) ((wdC ad cI cJ) σ) := fun σ => wdC_D hap σ
  have hS : va_S (AW ad 42 s.heap.size) s.heap s.heap [] := va_S.rf
  have hl := lv_entry ([.int a1]) (n := 1) (Nat.le_of_ble_eq_true rfl)
  rw [lg_entry_eq]
  generalize (lg_sl ([.int a1]) ++ List.replicate (1 - (lg_sl ([.int a1])).length) Slot.unset).toArray = ls at hl ⊢
  have hl : lv_has ls 1 [(0, .int a1)] := hl
  have key : ∀ (H : Heap) (locs : List Loc), va_P D vwCl ((wdC ad cI cJ) σ) H → va_S (AW ad 42 s.heap.size) s.heap H locs → W p l e (headSpec wU_X8_ofRow rm_X8_ofRow).room s m ([.int a1] : List Value).toArray below meth c H locs 0 0 (MQ below (va_Ql K (inW D (wdC ad cI cJ) [(cI, .int), (cJ, .long)]) (AW ad 42 s.heap.size)) ([.int a1] : List Value).toArray s 0 0 (AW ad 42 s.heap.size)) (F0 m 0 ls []) := by
    intro H locs hP hS
    unfold w_X8_ofRow at hw
    refine lv_ldc2 (v := 2199023255552) hx hb hown (hts _ mw_223) dX8_ofRow_0 ?_
    refine lv_iload_n hx hb dX8_ofRow_3 rfl (lv_at hl 0 rfl) ?_
    refine lv_i2l hx hb dX8_ofRow_4 rfl ?_
    refine lv_ldc2 (v := 4294967295) hx hb hown (hts _ mw_81) dX8_ofRow_5 ?_
    refine lv_land hx hb dX8_ofRow_8 ?_
    refine lv_lor hx hb dX8_ofRow_9 ?_
    exact rtL F hr hlocks hK hw hP hS dX8_ofRow_10
  exact key s.heap [] hP hS

abbrev rm_X4_goMake : Room := { frames := 3, cells := 0, slots := 0, locals := 79 }
set_option maxHeartbeats 4000000 in
set_option maxRecDepth 100000 in
theorem c_X4_goMake (l : Launch) (D : va_G) (ad : Nat → Nat) (cI cJ : ClassId) (hap : apart ad 42) (sz : Nat) (σ : St) (a1 : Int32) (a2 : Int32) (a3 : Int64) (K : St → Prop) (hw : w_X4_goMake σ a1 a2 a3 K) : Met l yX4_goMake wU_X4_goMake rm_X4_goMake (va_Pc [.ref (ad 2), .int a1, .int a2, .long a3] (fun U => U.heap.size = sz ∧ inW D (wdC ad cI cJ) [(cI, .int), (cJ, .long)] σ U)) (va_Qv K (inW D (wdC ad cI cJ) [(cI, .int), (cJ, .long)]) (AW ad 42 sz)) 0 0 (AW ad 42 sz) := by
  refine Met.ofW (cc := cX4_goMake) (maxL := 9) (ret := none) (by decide) rfl ?_
  intro p e s m args below meth c s₁ B hml hv
  obtain ⟨rfl, hsz, ⟨hP, hK⟩⟩ := hv
  have F : CallFix p m c cX4_goMake 9 s ([.ref (ad 2), .int a1, .int a2, .long a3] : List Value).toArray lw_U RX4 := ⟨B.exec, B.bytes, hml, findClass_of_methodNamed B.named, fun w h => atoms_spec (ws := wU_X4_goMake) B.pre w (List.mem_cons_of_mem _ h)⟩
  have hx := F.1
  have hb := F.2.1
  have hown := F.2.2.2.1
  have hts := F.2.2.2.2
  have hr := B.returns
  have hlocks := B.notSynchronized
  subst hsz
  have hDs : ∀ σ, va_D (AW ad 42 s.heap.size) ((wdC ad cI cJ) σ) := fun σ => wdC_D hap σ
  have hS : va_S (AW ad 42 s.heap.size) s.heap s.heap [] := va_S.rf
  have lab_41 : ∀ (σ : St) (x1 : Int32) (x2 : Int32) (x5 : Int64) (x7 : Int32) (H : Heap) (locs : List Loc) (ls : Array Slot), b_X4_goMake_41 K σ x1 x2 x5 x7 → va_P D vwCl ((wdC ad cI cJ) σ) H → va_S (AW ad 42 s.heap.size) s.heap H locs → lv_has ls 9 [(0, .ref (ad 2)), (1, .int x1), (2, .int x2), (5, .long x5), (7, .int x7)] → W p l e (headSpec wU_X4_goMake rm_X4_goMake).room s m ([.ref (ad 2), .int a1, .int a2, .long a3] : List Value).toArray below meth c H locs 0 0 (MQ below (va_Qv K (inW D (wdC ad cI cJ) [(cI, .int), (cJ, .long)]) (AW ad 42 s.heap.size)) ([.ref (ad 2), .int a1, .int a2, .long a3] : List Value).toArray s 0 0 (AW ad 42 s.heap.size)) (F0 m 41 ls []) := by
    intro σ x1 x2 x5 x7 H locs ls hw hP hS hl
    unfold b_X4_goMake_41 at hw
    refine lv_lload hx hb dX4_goMake_41 (lv_at hl 3 rfl) ?_
    refine lv_lconst (v := 0) hx hb dX4_goMake_43 (by decide) ?_
    refine W.lcmp hx hb dX4_goMake_44 ?_
    refine lv_if_eq (tgt := 58) hx hb dX4_goMake_45 (by decide) (fun c_16 => ?_) (fun c_16 => ?_)
    · have hw := hw.1 c_16
      refine lv_aload_n hx hb dX4_goMake_58 rfl (lv_at hl 0 rfl) ?_
      refine gC_X4_store F hK hP (hts _ mw_142) dX4_goMake_59 ?_
      refine lv_iload hx hb dX4_goMake_62 (lv_at hl 4 rfl) ?_
      refine cvI (As := [.int x7]) (rest := []) F hK hP hS (c_X6_make l D ad cI cJ hap H.size _ _ _ hw) (cwV 1 hts gU_X4_264 rfl rfl rfl (by decide +kernel) ⟨Nat.le_of_ble_eq_true rfl, Nat.le_of_ble_eq_true rfl⟩) (va_recv hK hP (ci := 5) (q0 := 3) rfl rfl) rfl hl.1 rfl (Nat.le_of_ble_eq_true rfl) dX4_goMake_64 ⟨Nat.zero_le _, Nat.zero_le _⟩ (fun r_2 u_1 H locs hw hP hS => ?_)
      refine lv_istore (lv' := [(8, .int r_2), (0, .ref (ad 2)), (1, .int x1), (2, .int x2), (5, .long x5), (7, .int x7)]) hx hb dX4_goMake_67 hl (by decide) rfl (fun ls hl => ?_)
      refine lv_iload hx hb dX4_goMake_69 (lv_at hl 0 rfl) ?_
      refine lv_iconst (v := (-1)) hx hb dX4_goMake_71 (by decide) ?_
      refine lv_icmp_ne (tgt := 81) hx hb dX4_goMake_72 (by decide) (fun c_13 => ?_) (fun c_13 => ?_)
      · have hw := hw.1 c_13
        refine lv_iload_n hx hb dX4_goMake_81 rfl (lv_at hl 3 rfl) ?_
        refine lv_if_ne (tgt := 96) hx hb dX4_goMake_82 (by decide) (fun c_12 => ?_) (fun c_12 => ?_)
        · have hw := hw.1 c_12
          refine lv_aload_n hx hb dX4_goMake_96 rfl (lv_at hl 1 rfl) ?_
          refine lv_iload_n hx hb dX4_goMake_97 rfl (lv_at hl 2 rfl) ?_
          refine lv_iconst (v := 0) hx hb dX4_goMake_98 (by decide) ?_
          refine lv_iload_n hx hb dX4_goMake_99 rfl (lv_at hl 3 rfl) ?_
          refine lv_iload hx hb dX4_goMake_100 (lv_at hl 0 rfl) ?_
          refine csL (As := [.int r_2]) (rest := [.int x2, .int 0, .int x1, .ref (ad 2)]) F hK hP hS (c_X8_ofRow l D ad cI cJ hap H.size _ _ _ hw) (va_cwS 1 hts gU_X4_124 rfl rfl rfl (by decide +kernel) ⟨Nat.le_of_ble_eq_true rfl, Nat.le_of_ble_eq_true rfl⟩) rfl hl.1 rfl (Nat.le_of_ble_eq_true rfl) dX4_goMake_102 ⟨Nat.zero_le _, Nat.zero_le _⟩ (fun r_4 u_3 H locs hw hP hS => ?_)
          refine cvV (As := [.int x1, .int 0, .int x2, .long r_4]) (rest := []) F hK hP hS (c_X4_give l D ad cI cJ hap H.size _ _ _ _ _ _ hw) (cwV 4 hts gU_X4_192 rfl rfl rfl (by decide +kernel) ⟨Nat.le_of_ble_eq_true rfl, Nat.le_of_ble_eq_true rfl⟩) (va_recv hK hP (ci := 3) (q0 := 2) rfl rfl) rfl hl.1 rfl (Nat.le_of_ble_eq_true rfl) dX4_goMake_105 ⟨Nat.zero_le _, Nat.zero_le _⟩ (fun u_5 H locs hw hP hS => ?_)
          exact rtV F hr hlocks hK hw hP hS dX4_goMake_108
        · have hw := hw.2 c_12
          refine lv_aload_n hx hb dX4_goMake_85 rfl (lv_at hl 1 rfl) ?_
          refine gC_X4_store F hK hP (hts _ mw_142) dX4_goMake_86 ?_
          refine gC_X6_rowOfAct F hK hP (hts _ mw_231) dX4_goMake_89 ?_
          refine lv_iload_n hx hb dX4_goMake_92 rfl (lv_at hl 2 rfl) ?_
          refine lv_iload hx hb dX4_goMake_93 (lv_at hl 0 rfl) ?_
          obtain ⟨i_11, hw⟩ := hw
          refine sC_X6_rowOfAct F hK hP hDs hS i_11 dX4_goMake_95 (fun H locs hP hS => ?_)
          refine lv_aload_n hx hb dX4_goMake_96 rfl (lv_at hl 1 rfl) ?_
          refine lv_iload_n hx hb dX4_goMake_97 rfl (lv_at hl 2 rfl) ?_
          refine lv_iconst (v := 0) hx hb dX4_goMake_98 (by decide) ?_
          refine lv_iload_n hx hb dX4_goMake_99 rfl (lv_at hl 3 rfl) ?_
          refine lv_iload hx hb dX4_goMake_100 (lv_at hl 0 rfl) ?_
          refine csL (As := [.int r_2]) (rest := [.int x2, .int 0, .int x1, .ref (ad 2)]) F hK hP hS (c_X8_ofRow l D ad cI cJ hap H.size _ _ _ hw) (va_cwS 1 hts gU_X4_124 rfl rfl rfl (by decide +kernel) ⟨Nat.le_of_ble_eq_true rfl, Nat.le_of_ble_eq_true rfl⟩) rfl hl.1 rfl (Nat.le_of_ble_eq_true rfl) dX4_goMake_102 ⟨Nat.zero_le _, Nat.zero_le _⟩ (fun r_8 u_7 H locs hw hP hS => ?_)
          refine cvV (As := [.int x1, .int 0, .int x2, .long r_8]) (rest := []) F hK hP hS (c_X4_give l D ad cI cJ hap H.size _ _ _ _ _ _ hw) (cwV 4 hts gU_X4_192 rfl rfl rfl (by decide +kernel) ⟨Nat.le_of_ble_eq_true rfl, Nat.le_of_ble_eq_true rfl⟩) (va_recv hK hP (ci := 3) (q0 := 2) rfl rfl) rfl hl.1 rfl (Nat.le_of_ble_eq_true rfl) dX4_goMake_105 ⟨Nat.zero_le _, Nat.zero_le _⟩ (fun u_9 H locs hw hP hS => ?_)
          exact rtV F hr hlocks hK hw hP hS dX4_goMake_108
      · have hw := hw.2 c_13
        refine lv_aload_n hx hb dX4_goMake_75 rfl (lv_at hl 1 rfl) ?_
        refine lv_iconst (v := 2) hx hb dX4_goMake_76 (by decide) ?_
        refine pC_X4_how F hK hP hDs hS (hts _ mw_83) dX4_goMake_77 (fun H locs hP hS => ?_)
        exact rtV F hr hlocks hK hw hP hS dX4_goMake_80
    · have hw := hw.2 c_16
      refine lv_aload_n hx hb dX4_goMake_48 rfl (lv_at hl 0 rfl) ?_
      refine lv_iload_n hx hb dX4_goMake_49 rfl (lv_at hl 1 rfl) ?_
      refine lv_iconst (v := 0) hx hb dX4_goMake_50 (by decide) ?_
      refine lv_iload_n hx hb dX4_goMake_51 rfl (lv_at hl 2 rfl) ?_
      refine lv_lload hx hb dX4_goMake_52 (lv_at hl 3 rfl) ?_
      refine cvV (As := [.int x1, .int 0, .int x2, .long x5]) (rest := []) F hK hP hS (c_X4_give l D ad cI cJ hap H.size _ _ _ _ _ _ hw) (cwV 4 hts gU_X4_192 rfl rfl rfl (by decide +kernel) ⟨Nat.le_of_ble_eq_true rfl, Nat.le_of_ble_eq_true rfl⟩) (va_recv hK hP (ci := 3) (q0 := 2) rfl rfl) rfl hl.1 rfl (Nat.le_of_ble_eq_true rfl) dX4_goMake_54 ⟨Nat.zero_le _, Nat.zero_le _⟩ (fun u_14 H locs hw hP hS => ?_)
      exact rtV F hr hlocks hK hw hP hS dX4_goMake_57
  have hl := lv_entry ([.ref (ad 2), .int a1, .int a2, .long a3]) (n := 9) (Nat.le_of_ble_eq_true rfl)
  rw [lg_entry_eq]
  generalize (lg_sl ([.ref (ad 2), .int a1, .int a2, .long a3]) ++ List.replicate (9 - (lg_sl ([.ref (ad 2), .int a1, .int a2, .long a3])).length) Slot.unset).toArray = ls at hl ⊢
  have hl : lv_has ls 9 [(0, .ref (ad 2)), (1, .int a1), (2, .int a2), (3, .long a3)] := hl
  have key : ∀ (H : Heap) (locs : List Loc), va_P D vwCl ((wdC ad cI cJ) σ) H → va_S (AW ad 42 s.heap.size) s.heap H locs → W p l e (headSpec wU_X4_goMake rm_X4_goMake).room s m ([.ref (ad 2), .int a1, .int a2, .long a3] : List Value).toArray below meth c H locs 0 0 (MQ below (va_Qv K (inW D (wdC ad cI cJ) [(cI, .int), (cJ, .long)]) (AW ad 42 s.heap.size)) ([.ref (ad 2), .int a1, .int a2, .long a3] : List Value).toArray s 0 0 (AW ad 42 s.heap.size)) (F0 m 0 ls []) := by
    intro H locs hP hS
    unfold w_X4_goMake at hw
    refine lv_iload_n hx hb dX4_goMake_0 rfl (lv_at hl 1 rfl) ?_
    refine lv_lload_n hx hb dX4_goMake_1 rfl (lv_at hl 3 rfl) ?_
    refine lv_iconst (v := 1) hx hb dX4_goMake_2 (by decide) ?_
    refine csL (As := [.int a1, .long a3, .int 1]) (rest := []) F hK hP hS (c_X8_refuse l D ad cI cJ hap H.size _ _ _ _ _ hw) (va_cwS 3 hts gU_X4_229 rfl rfl rfl (by decide +kernel) ⟨Nat.le_of_ble_eq_true rfl, Nat.le_of_ble_eq_true rfl⟩) rfl hl.1 rfl (Nat.le_of_ble_eq_true rfl) dX4_goMake_3 ⟨Nat.zero_le _, Nat.zero_le _⟩ (fun r_18 u_17 H locs hw hP hS => ?_)
    refine lv_lstore (lv' := [(5, .long r_18), (0, .ref (ad 2)), (1, .int a1), (2, .int a2), (3, .long a3)]) hx hb dX4_goMake_6 hl (by decide) rfl (fun ls hl => ?_)
    refine lv_lload_n hx hb dX4_goMake_8 rfl (lv_at hl 4 rfl) ?_
    refine csI (As := [.long a3]) (rest := []) F hK hP hS (c_X8_contentOf l D ad cI cJ hap H.size _ _ _ hw) (va_cwS 1 hts gU_X4_111 rfl rfl rfl (by decide +kernel) ⟨Nat.le_of_ble_eq_true rfl, Nat.le_of_ble_eq_true rfl⟩) rfl hl.1 rfl (Nat.le_of_ble_eq_true rfl) dX4_goMake_9 ⟨Nat.zero_le _, Nat.zero_le _⟩ (fun r_20 u_19 H locs hw hP hS => ?_)
    refine lv_istore (lv' := [(7, .int r_20), (5, .long r_18), (0, .ref (ad 2)), (1, .int a1), (2, .int a2), (3, .long a3)]) hx hb dX4_goMake_12 hl (by decide) rfl (fun ls hl => ?_)
    refine lv_lload hx hb dX4_goMake_14 (lv_at hl 1 rfl) ?_
    refine lv_lconst (v := 0) hx hb dX4_goMake_16 (by decide) ?_
    refine W.lcmp hx hb dX4_goMake_17 ?_
    refine lv_if_ne (tgt := 41) hx hb dX4_goMake_18 (by decide) (fun c_27 => ?_) (fun c_27 => ?_)
    · have hw := hw.1 c_27
      exact lab_41 _ _ _ _ _ _ _ _ hw hP hS (lv_sub hl [2, 3, 4, 1, 0] rfl)
    · have hw := hw.2 c_27
      refine lv_iload hx hb dX4_goMake_21 (lv_at hl 0 rfl) ?_
      refine lv_if_lt (tgt := 34) hx hb dX4_goMake_23 (by decide) (fun c_26 => ?_) (fun c_26 => ?_)
      · have hw := hw.1 c_26
        refine lv_iconst (v := 3) hx hb dX4_goMake_34 (by decide) ?_
        refine lv_iload_n hx hb dX4_goMake_35 rfl (lv_at hl 3 rfl) ?_
        refine csL (As := [.int 3, .int a1]) (rest := []) F hK hP hS (c_X8_ofFault l D ad cI cJ hap H.size _ _ _ _ hw) (va_cwS 2 hts gU_X4_241 rfl rfl rfl (by decide +kernel) ⟨Nat.le_of_ble_eq_true rfl, Nat.le_of_ble_eq_true rfl⟩) rfl hl.1 rfl (Nat.le_of_ble_eq_true rfl) dX4_goMake_36 ⟨Nat.zero_le _, Nat.zero_le _⟩ (fun r_22 u_21 H locs hw hP hS => ?_)
        refine lv_lstore (lv' := [(5, .long r_22), (7, .int r_20), (0, .ref (ad 2)), (1, .int a1), (2, .int a2), (3, .long a3)]) hx hb dX4_goMake_39 hl (by decide) rfl (fun ls hl => ?_)
        exact lab_41 _ _ _ _ _ _ _ _ hw hP hS (lv_sub hl [2, 3, 4, 0, 1] rfl)
      · have hw := hw.2 c_26
        refine lv_iload hx hb dX4_goMake_26 (lv_at hl 0 rfl) ?_
        refine lv_sipush (v := 200) hx hb dX4_goMake_28 (by decide) ?_
        refine lv_icmp_le (tgt := 41) hx hb dX4_goMake_31 (by decide) (fun c_25 => ?_) (fun c_25 => ?_)
        · have hw := hw.1 c_25
          exact lab_41 _ _ _ _ _ _ _ _ hw hP hS (lv_sub hl [2, 3, 4, 1, 0] rfl)
        · have hw := hw.2 c_25
          refine lv_iconst (v := 3) hx hb dX4_goMake_34 (by decide) ?_
          refine lv_iload_n hx hb dX4_goMake_35 rfl (lv_at hl 3 rfl) ?_
          refine csL (As := [.int 3, .int a1]) (rest := []) F hK hP hS (c_X8_ofFault l D ad cI cJ hap H.size _ _ _ _ hw) (va_cwS 2 hts gU_X4_241 rfl rfl rfl (by decide +kernel) ⟨Nat.le_of_ble_eq_true rfl, Nat.le_of_ble_eq_true rfl⟩) rfl hl.1 rfl (Nat.le_of_ble_eq_true rfl) dX4_goMake_36 ⟨Nat.zero_le _, Nat.zero_le _⟩ (fun r_24 u_23 H locs hw hP hS => ?_)
          refine lv_lstore (lv' := [(5, .long r_24), (7, .int r_20), (0, .ref (ad 2)), (1, .int a1), (2, .int a2), (3, .long a3)]) hx hb dX4_goMake_39 hl (by decide) rfl (fun ls hl => ?_)
          exact lab_41 _ _ _ _ _ _ _ _ hw hP hS (lv_sub hl [2, 3, 4, 0, 1] rfl)
  exact key s.heap [] hP hS

abbrev rm_X6_sizeOf : Room := { frames := 0, cells := 0, slots := 0, locals := 0 }
set_option maxHeartbeats 4000000 in
set_option maxRecDepth 100000 in
theorem c_X6_sizeOf (l : Launch) (D : va_G) (ad : Nat → Nat) (cI cJ : ClassId) (hap : apart ad 42) (sz : Nat) (σ : St) (a1 : Int32) (K : Int32 → St → Prop) (hw : w_X6_sizeOf σ a1 K) : Met l yX6_sizeOf wU_X6_sizeOf rm_X6_sizeOf (va_Pc [.ref (ad 3), .int a1] (fun U => U.heap.size = sz ∧ inW D (wdC ad cI cJ) [(cI, .int), (cJ, .long)] σ U)) (va_Qi K (inW D (wdC ad cI cJ) [(cI, .int), (cJ, .long)]) (AW ad 42 sz)) 0 0 (AW ad 42 sz) := by
  refine Met.ofW (cc := cX6_sizeOf) (maxL := 2) (ret := (some .int)) (by decide) rfl ?_
  intro p e s m args below meth c s₁ B hml hv
  obtain ⟨rfl, hsz, ⟨hP, hK⟩⟩ := hv
  have F : CallFix p m c cX6_sizeOf 2 s ([.ref (ad 3), .int a1] : List Value).toArray lw_U RX6 := ⟨B.exec, B.bytes, hml, findClass_of_methodNamed B.named, fun w h => atoms_spec (ws := wU_X6_sizeOf) B.pre w (List.mem_cons_of_mem _ h)⟩
  have hx := F.1
  have hb := F.2.1
  have hown := F.2.2.2.1
  have hts := F.2.2.2.2
  have hr := B.returns
  have hlocks := B.notSynchronized
  subst hsz
  have hDs : ∀ σ, va_D (AW ad 42 s.heap.size) ((wdC ad cI cJ) σ) := fun σ => wdC_D hap σ
  have hS : va_S (AW ad 42 s.heap.size) s.heap s.heap [] := va_S.rf
  have hl := lv_entry ([.ref (ad 3), .int a1]) (n := 2) (Nat.le_of_ble_eq_true rfl)
  rw [lg_entry_eq]
  generalize (lg_sl ([.ref (ad 3), .int a1]) ++ List.replicate (2 - (lg_sl ([.ref (ad 3), .int a1])).length) Slot.unset).toArray = ls at hl ⊢
  have hl : lv_has ls 2 [(0, .ref (ad 3)), (1, .int a1)] := hl
  have key : ∀ (H : Heap) (locs : List Loc), va_P D vwCl ((wdC ad cI cJ) σ) H → va_S (AW ad 42 s.heap.size) s.heap H locs → W p l e (headSpec wU_X6_sizeOf rm_X6_sizeOf).room s m ([.ref (ad 3), .int a1] : List Value).toArray below meth c H locs 0 0 (MQ below (va_Qi K (inW D (wdC ad cI cJ) [(cI, .int), (cJ, .long)]) (AW ad 42 s.heap.size)) ([.ref (ad 3), .int a1] : List Value).toArray s 0 0 (AW ad 42 s.heap.size)) (F0 m 0 ls []) := by
    intro H locs hP hS
    unfold w_X6_sizeOf at hw
    refine lv_iload_n hx hb dX6_sizeOf_0 rfl (lv_at hl 1 rfl) ?_
    refine lv_if_lt (tgt := 21) hx hb dX6_sizeOf_1 (by decide) (fun c_3 => ?_) (fun c_3 => ?_)
    · have hw := hw.1 c_3
      refine lv_iconst (v := 0) hx hb dX6_sizeOf_21 (by decide) ?_
      exact rtI F hr hlocks hK hw hP hS dX6_sizeOf_22
    · have hw := hw.2 c_3
      refine lv_iload_n hx hb dX6_sizeOf_4 rfl (lv_at hl 1 rfl) ?_
      refine lv_aload_n hx hb dX6_sizeOf_5 rfl (lv_at hl 0 rfl) ?_
      refine gC_X6_rows F hK hP (hts _ mw_77) dX6_sizeOf_6 ?_
      refine lv_icmp_ge (tgt := 21) hx hb dX6_sizeOf_9 (by decide) (fun c_2 => ?_) (fun c_2 => ?_)
      · have hw := hw.1 c_2
        refine lv_iconst (v := 0) hx hb dX6_sizeOf_21 (by decide) ?_
        exact rtI F hr hlocks hK hw hP hS dX6_sizeOf_22
      · have hw := hw.2 c_2
        refine lv_aload_n hx hb dX6_sizeOf_12 rfl (lv_at hl 0 rfl) ?_
        refine gC_X6_size F hK hP (hts _ mw_222) dX6_sizeOf_13 ?_
        refine lv_iload_n hx hb dX6_sizeOf_16 rfl (lv_at hl 1 rfl) ?_
        obtain ⟨i_1, hw⟩ := hw
        refine lC_X6_size F hK hP i_1 dX6_sizeOf_17 ?_
        refine lv_goto (tgt := 22) hx hb dX6_sizeOf_18 (by decide) ?_
        exact rtI F hr hlocks hK hw hP hS dX6_sizeOf_22
  exact key s.heap [] hP hS
