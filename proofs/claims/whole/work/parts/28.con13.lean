abbrev rm_X10_stepped : Room := { frames := 8, cells := 0, slots := 0, locals := 197 }
set_option maxHeartbeats 4000000 in
set_option maxRecDepth 100000 in
theorem c_X10_stepped (l : Launch) (D : va_G) (ad : Nat → Nat) (cI : ClassId) (hap : apart ad 40) (sz : Nat) (σ : St) (a1 : Int32) (K : St → Prop) (hw : w_X10_stepped σ a1 K) : Met l yX10_stepped wU_X10_stepped rm_X10_stepped (va_Pc [.ref (ad 0), .int a1] (fun U => U.heap.size = sz ∧ inW D (wdM ad cI) [(cI, .int)] σ U)) (va_Qv K (inW D (wdM ad cI) [(cI, .int)]) (AW ad 40 sz)) 0 0 (AW ad 40 sz) := by
  refine Met.ofW (cc := cX10_stepped) (maxL := 4) (ret := none) (by decide) rfl ?_
  intro p e s m args below meth c s₁ B hml hv
  obtain ⟨rfl, hsz, ⟨hP, hK⟩⟩ := hv
  have F : CallFix p m c cX10_stepped 4 s ([.ref (ad 0), .int a1] : List Value).toArray lw_U RX10 := ⟨B.exec, B.bytes, hml, findClass_of_methodNamed B.named, fun w h => atoms_spec (ws := wU_X10_stepped) B.pre w (List.mem_cons_of_mem _ h)⟩
  have hx := F.1
  have hb := F.2.1
  have hown := F.2.2.2.1
  have hts := F.2.2.2.2
  have hr := B.returns
  have hlocks := B.notSynchronized
  subst hsz
  have hDs : ∀ σ, va_D (AW ad 40 s.heap.size) ((wdM ad cI) σ) := fun σ => wdM_D hap σ
  have hS : va_S (AW ad 40 s.heap.size) s.heap s.heap [] := va_S.rf
  have lab_11 : ∀ (n : Nat), ∀ (σ : St) (x2 : Int32) (x3 : Int32) (H : Heap) (locs : List Loc) (ls : Array Slot), w_X10_stepped_11 K n σ x2 x3 → va_P D vwCl ((wdM ad cI) σ) H → va_S (AW ad 40 s.heap.size) s.heap H locs → lv_has ls 4 [(0, .ref (ad 0)), (2, .int x2), (3, .int x3)] → W p l e (headSpec wU_X10_stepped rm_X10_stepped).room s m ([.ref (ad 0), .int a1] : List Value).toArray below meth c H locs 0 0 (MQ below (va_Qv K (inW D (wdM ad cI) [(cI, .int)]) (AW ad 40 s.heap.size)) ([.ref (ad 0), .int a1] : List Value).toArray s 0 0 (AW ad 40 s.heap.size)) (F0 m 11 ls []) := by
    intro n
    induction n with
    | zero =>
      intro σ x2 x3 H locs ls hw
      exact hw.elim
    | succ n hL11 =>
      intro σ x2 x3 H locs ls hw hP hS hl
      have hw : b_X10_stepped_11 (w_X10_stepped_11 K n) K σ x2 x3 := hw
      unfold b_X10_stepped_11 at hw
      generalize w_X10_stepped_11 K n = L11 at hw hL11
      refine lv_iload_n hx hb dX10_stepped_11 rfl (lv_at hl 2 rfl) ?_
      refine lv_aload_n hx hb dX10_stepped_12 rfl (lv_at hl 0 rfl) ?_
      refine gM_X10_readyMany F hK hP (hts _ mw_486) dX10_stepped_13 ?_
      refine lv_icmp_ge (tgt := 39) hx hb dX10_stepped_16 (by decide) (fun c_9 => ?_) (fun c_9 => ?_)
      · have hw := hw.1 c_9
        refine lv_aload_n hx hb dX10_stepped_39 rfl (lv_at hl 0 rfl) ?_
        refine lv_dup hx hb dX10_stepped_40 rfl ?_
        refine gM_X10_readyMany F hK hP (hts _ mw_486) dX10_stepped_41 ?_
        refine lv_iconst (v := 1) hx hb dX10_stepped_44 (by decide) ?_
        refine lv_isub hx hb dX10_stepped_45 ?_
        refine pM_X10_readyMany F hK hP hDs hS (hts _ mw_486) dX10_stepped_46 (fun H locs hP hS => ?_)
        refine lv_aload_n hx hb dX10_stepped_49 rfl (lv_at hl 0 rfl) ?_
        refine gM_X10_pHow F hK hP (hts _ mw_475) dX10_stepped_50 ?_
        refine lv_iload_n hx hb dX10_stepped_53 rfl (lv_at hl 1 rfl) ?_
        refine lv_iconst (v := 2) hx hb dX10_stepped_54 (by decide) ?_
        obtain ⟨i_6, hw⟩ := hw
        refine sM_X10_pHow F hK hP hDs hS i_6 dX10_stepped_55 (fun H locs hP hS => ?_)
        refine lv_aload_n hx hb dX10_stepped_56 rfl (lv_at hl 0 rfl) ?_
        refine lv_dup hx hb dX10_stepped_57 rfl ?_
        refine gM_X10_steps F hK hP (hts _ mw_573) dX10_stepped_58 ?_
        refine jvi (y := (gS σ 6)) (by simp only [gS_sS, gS_sA, gS_sL, gS_fA, gS_fL, gA_sS, gA_sA, gA_sL, gA_fA, gA_fL, gL_sS, gL_sA, gL_sL, gL_fA, gL_fL, reduceIte, Nat.reduceEqDiff]) ?_
        refine lv_iconst (v := 1) hx hb dX10_stepped_61 (by decide) ?_
        refine lv_iadd hx hb dX10_stepped_62 ?_
        refine pM_X10_steps F hK hP hDs hS (hts _ mw_573) dX10_stepped_63 (fun H locs hP hS => ?_)
        refine lv_aload_n hx hb dX10_stepped_66 rfl (lv_at hl 0 rfl) ?_
        refine gM_X10_fired F hK hP (hts _ mw_572) dX10_stepped_67 ?_
        refine lv_aload_n hx hb dX10_stepped_70 rfl (lv_at hl 0 rfl) ?_
        refine gM_X10_pAct F hK hP (hts _ mw_472) dX10_stepped_71 ?_
        refine lv_iload_n hx hb dX10_stepped_74 rfl (lv_at hl 1 rfl) ?_
        obtain ⟨i_5, hw⟩ := hw
        refine lM_X10_pAct F hK hP i_5 dX10_stepped_75 ?_
        refine jvi (y := (gA σ 14 (x2).toNatClampNeg)) (by simp only [gS_sS, gS_sA, gS_sL, gS_fA, gS_fL, gA_sS, gA_sA, gA_sL, gA_fA, gA_fL, gL_sS, gL_sA, gL_sL, gL_fA, gL_fL, reduceIte, Nat.reduceEqDiff]) ?_
        refine lv_dup2_11 hx hb dX10_stepped_76 rfl rfl ?_
        obtain ⟨i_4, hw⟩ := hw
        refine lM_X10_fired F hK hP i_4 dX10_stepped_77 ?_
        refine jvi (y := (gA σ 23 ((gA σ 14 (x2).toNatClampNeg)).toNatClampNeg)) (by simp only [gS_sS, gS_sA, gS_sL, gS_fA, gS_fL, gA_sS, gA_sA, gA_sL, gA_fA, gA_fL, gL_sS, gL_sA, gL_sL, gL_fA, gL_fL, reduceIte, Nat.reduceEqDiff]) ?_
        refine lv_iconst (v := 1) hx hb dX10_stepped_78 (by decide) ?_
        refine lv_iadd hx hb dX10_stepped_79 ?_
        obtain ⟨i_3, hw⟩ := hw
        refine sM_X10_fired F hK hP hDs hS i_3 dX10_stepped_80 (fun H locs hP hS => ?_)
        refine lv_aload_n hx hb dX10_stepped_81 rfl (lv_at hl 0 rfl) ?_
        refine lv_iload_n hx hb dX10_stepped_82 rfl (lv_at hl 1 rfl) ?_
        refine cvI (As := [.int x2]) (rest := []) F hK hP hS (c_X10_goesOff l D ad cI hap H.size _ _ _ hw) (cwV 1 hts gU_X10_254 rfl rfl rfl (by decide +kernel) ⟨Nat.le_of_ble_eq_true rfl, Nat.le_of_ble_eq_true rfl⟩) (va_recv hK hP (ci := 7) (q0 := 0) rfl rfl) rfl hl.1 rfl (Nat.le_of_ble_eq_true rfl) dX10_stepped_83 ⟨Nat.zero_le _, Nat.zero_le _⟩ (fun r_2 u_1 H locs hw hP hS => ?_)
        obtain ⟨zr_2, hw⟩ := hw
        refine lv_pop hx hb dX10_stepped_86 rfl ?_
        exact rtV F hr hlocks hK hw hP hS dX10_stepped_87
      · have hw := hw.2 c_9
        refine lv_aload_n hx hb dX10_stepped_19 rfl (lv_at hl 0 rfl) ?_
        refine gM_X10_ready F hK hP (hts _ mw_485) dX10_stepped_20 ?_
        refine lv_iload_n hx hb dX10_stepped_23 rfl (lv_at hl 2 rfl) ?_
        refine lv_iconst (v := 1) hx hb dX10_stepped_24 (by decide) ?_
        refine lv_isub hx hb dX10_stepped_25 ?_
        refine lv_aload_n hx hb dX10_stepped_26 rfl (lv_at hl 0 rfl) ?_
        refine gM_X10_ready F hK hP (hts _ mw_485) dX10_stepped_27 ?_
        refine lv_iload_n hx hb dX10_stepped_30 rfl (lv_at hl 2 rfl) ?_
        obtain ⟨i_8, hw⟩ := hw
        refine lM_X10_ready F hK hP i_8 dX10_stepped_31 ?_
        obtain ⟨i_7, hw⟩ := hw
        refine sM_X10_ready F hK hP hDs hS i_7 dX10_stepped_32 (fun H locs hP hS => ?_)
        refine lv_iinc (v := (x3 + 1)) (lv' := [(3, .int (x3 + 1)), (0, .ref (ad 0)), (2, .int x2)]) hx hb dX10_stepped_33 hl (k := 2) rfl rfl (by decide) rfl (fun ls hl => ?_)
        refine lv_goto (tgt := 11) hx hb dX10_stepped_36 (by decide) ?_
        exact hL11 _ _ _ _ _ _ hw hP hS (lv_sub hl [1, 2, 0] rfl)
  have hl := lv_entry ([.ref (ad 0), .int a1]) (n := 4) (Nat.le_of_ble_eq_true rfl)
  rw [lg_entry_eq]
  generalize (lg_sl ([.ref (ad 0), .int a1]) ++ List.replicate (4 - (lg_sl ([.ref (ad 0), .int a1])).length) Slot.unset).toArray = ls at hl ⊢
  have hl : lv_has ls 4 [(0, .ref (ad 0)), (1, .int a1)] := hl
  have key : ∀ (H : Heap) (locs : List Loc), va_P D vwCl ((wdM ad cI) σ) H → va_S (AW ad 40 s.heap.size) s.heap H locs → W p l e (headSpec wU_X10_stepped rm_X10_stepped).room s m ([.ref (ad 0), .int a1] : List Value).toArray below meth c H locs 0 0 (MQ below (va_Qv K (inW D (wdM ad cI) [(cI, .int)]) (AW ad 40 s.heap.size)) ([.ref (ad 0), .int a1] : List Value).toArray s 0 0 (AW ad 40 s.heap.size)) (F0 m 0 ls []) := by
    intro H locs hP hS
    unfold w_X10_stepped at hw
    refine lv_aload_n hx hb dX10_stepped_0 rfl (lv_at hl 0 rfl) ?_
    refine gM_X10_ready F hK hP (hts _ mw_485) dX10_stepped_1 ?_
    refine lv_iload_n hx hb dX10_stepped_4 rfl (lv_at hl 1 rfl) ?_
    obtain ⟨i_11, hw⟩ := hw
    refine lM_X10_ready F hK hP i_11 dX10_stepped_5 ?_
    refine lv_istore_n (lv' := [(2, .int (gA σ 24 (a1).toNatClampNeg)), (0, .ref (ad 0)), (1, .int a1)]) hx hb dX10_stepped_6 rfl hl (by decide) rfl (fun ls hl => ?_)
    refine lv_iload_n hx hb dX10_stepped_7 rfl (lv_at hl 2 rfl) ?_
    refine lv_iconst (v := 1) hx hb dX10_stepped_8 (by decide) ?_
    refine lv_iadd hx hb dX10_stepped_9 ?_
    refine lv_istore_n (lv' := [(3, .int (a1 + 1)), (2, .int (gA σ 24 (a1).toNatClampNeg)), (0, .ref (ad 0)), (1, .int a1)]) hx hb dX10_stepped_10 rfl hl (by decide) rfl (fun ls hl => ?_)
    obtain ⟨n_10, hw⟩ := hw
    exact lab_11 n_10 _ _ _ _ _ _ hw hP hS (lv_sub hl [2, 1, 0] rfl)
  exact key s.heap [] hP hS

abbrev rm_X10_run : Room := { frames := 9, cells := 0, slots := 0, locals := 220 }
set_option maxHeartbeats 4000000 in
set_option maxRecDepth 100000 in
theorem c_X10_run (l : Launch) (D : va_G) (ad : Nat → Nat) (cI : ClassId) (hap : apart ad 40) (sz : Nat) (σ : St) (a1 : Int32) (a2 : Int32) (K : Int32 → St → Prop) (hw : w_X10_run σ a1 a2 K) : Met l yX10_run wU_X10_run rm_X10_run (va_Pc [.ref (ad 0), .int a1, .int a2] (fun U => U.heap.size = sz ∧ inW D (wdM ad cI) [(cI, .int)] σ U)) (va_Qi K (inW D (wdM ad cI) [(cI, .int)]) (AW ad 40 sz)) 0 0 (AW ad 40 sz) := by
  refine Met.ofW (cc := cX10_run) (maxL := 4) (ret := (some .int)) (by decide) rfl ?_
  intro p e s m args below meth c s₁ B hml hv
  obtain ⟨rfl, hsz, ⟨hP, hK⟩⟩ := hv
  have F : CallFix p m c cX10_run 4 s ([.ref (ad 0), .int a1, .int a2] : List Value).toArray lw_U RX10 := ⟨B.exec, B.bytes, hml, findClass_of_methodNamed B.named, fun w h => atoms_spec (ws := wU_X10_run) B.pre w (List.mem_cons_of_mem _ h)⟩
  have hx := F.1
  have hb := F.2.1
  have hown := F.2.2.2.1
  have hts := F.2.2.2.2
  have hr := B.returns
  have hlocks := B.notSynchronized
  subst hsz
  have hDs : ∀ σ, va_D (AW ad 40 s.heap.size) ((wdM ad cI) σ) := fun σ => wdM_D hap σ
  have hS : va_S (AW ad 40 s.heap.size) s.heap s.heap [] := va_S.rf
  have lab_19 : ∀ (n : Nat), ∀ (σ : St) (x2 : Int32) (x3 : Int32) (H : Heap) (locs : List Loc) (ls : Array Slot), w_X10_run_19 K n σ x2 x3 → va_P D vwCl ((wdM ad cI) σ) H → va_S (AW ad 40 s.heap.size) s.heap H locs → lv_has ls 4 [(0, .ref (ad 0)), (2, .int x2), (3, .int x3)] → W p l e (headSpec wU_X10_run rm_X10_run).room s m ([.ref (ad 0), .int a1, .int a2] : List Value).toArray below meth c H locs 0 0 (MQ below (va_Qi K (inW D (wdM ad cI) [(cI, .int)]) (AW ad 40 s.heap.size)) ([.ref (ad 0), .int a1, .int a2] : List Value).toArray s 0 0 (AW ad 40 s.heap.size)) (F0 m 19 ls []) := by
    intro n
    induction n with
    | zero =>
      intro σ x2 x3 H locs ls hw
      exact hw.elim
    | succ n hL19 =>
      intro σ x2 x3 H locs ls hw hP hS hl
      have hw : b_X10_run_19 (w_X10_run_19 K n) K σ x2 x3 := hw
      unfold b_X10_run_19 at hw
      generalize w_X10_run_19 K n = L19 at hw hL19
      refine lv_aload_n hx hb dX10_run_19 rfl (lv_at hl 0 rfl) ?_
      refine gM_X10_isStopped F hK hP (hts _ mw_461) dX10_run_20 ?_
      refine lv_if_ne (tgt := 82) hx hb dX10_run_23 (by decide) (fun c_8 => ?_) (fun c_8 => ?_)
      · have hw := hw.1 c_8
        refine lv_aload_n hx hb dX10_run_82 rfl (lv_at hl 0 rfl) ?_
        refine gM_X10_how F hK hP (hts _ mw_459) dX10_run_83 ?_
        exact rtI F hr hlocks hK hw hP hS dX10_run_86
      · have hw := hw.2 c_8
        refine lv_aload_n hx hb dX10_run_26 rfl (lv_at hl 0 rfl) ?_
        refine gM_X10_readyMany F hK hP (hts _ mw_486) dX10_run_27 ?_
        refine lv_if_le (tgt := 82) hx hb dX10_run_30 (by decide) (fun c_7 => ?_) (fun c_7 => ?_)
        · have hw := hw.1 c_7
          refine lv_aload_n hx hb dX10_run_82 rfl (lv_at hl 0 rfl) ?_
          refine gM_X10_how F hK hP (hts _ mw_459) dX10_run_83 ?_
          exact rtI F hr hlocks hK hw hP hS dX10_run_86
        · have hw := hw.2 c_7
          refine lv_aload_n hx hb dX10_run_33 rfl (lv_at hl 0 rfl) ?_
          refine gM_X10_steps F hK hP (hts _ mw_573) dX10_run_34 ?_
          refine lv_iload_n hx hb dX10_run_37 rfl (lv_at hl 1 rfl) ?_
          refine lv_icmp_ne (tgt := 51) hx hb dX10_run_38 (by decide) (fun c_6 => ?_) (fun c_6 => ?_)
          · have hw := hw.1 c_6
            refine lv_ldcw (v := 1103515245) hx hb hown (hts _ mw_584) dX10_run_51 ?_
            refine lv_iload_n hx hb dX10_run_54 rfl (lv_at hl 2 rfl) ?_
            refine lv_imul hx hb dX10_run_55 ?_
            refine lv_sipush (v := 12345) hx hb dX10_run_56 (by decide) ?_
            refine lv_iadd hx hb dX10_run_59 ?_
            refine lv_istore_n (lv' := [(3, .int ((1103515245 * x3) + 12345)), (0, .ref (ad 0)), (2, .int x2)]) hx hb dX10_run_60 rfl hl (by decide) rfl (fun ls hl => ?_)
            refine lv_aload_n hx hb dX10_run_61 rfl (lv_at hl 1 rfl) ?_
            refine lv_iconst (v := 1) hx hb dX10_run_62 (by decide) ?_
            refine pM_X10_most F hK hP hDs hS (hts _ mw_575) dX10_run_63 (fun H locs hP hS => ?_)
            refine lv_aload_n hx hb dX10_run_66 rfl (lv_at hl 1 rfl) ?_
            refine lv_iload_n hx hb dX10_run_67 rfl (lv_at hl 0 rfl) ?_
            refine lv_bipush (v := 16) hx hb dX10_run_68 (by decide) ?_
            refine lv_iushr hx hb dX10_run_70 rfl ?_
            refine lv_aload_n hx hb dX10_run_71 rfl (lv_at hl 1 rfl) ?_
            refine gM_X10_readyMany F hK hP (hts _ mw_486) dX10_run_72 ?_
            refine jvi (y := (gS σ 14)) (by simp only [gS_sS, gS_sA, gS_sL, gS_fA, gS_fL, gA_sS, gA_sA, gA_sL, gA_fA, gA_fL, gL_sS, gL_sA, gL_sL, gL_fA, gL_fL, reduceIte, Nat.reduceEqDiff]) ?_
            obtain ⟨h_3, hw⟩ := hw
            refine lv_irem hx hb dX10_run_75 h_3 ?_
            refine cvV (As := [.int (((((1103515245 * x3) + 12345).toUInt32 >>> ((16 : Int32).toUInt32 &&& Int32.toUInt32 31)).toInt32) - ((((1103515245 * x3) + 12345).toUInt32 >>> ((16 : Int32).toUInt32 &&& Int32.toUInt32 31)).toInt32) / (gS σ 14) * (gS σ 14))]) (rest := []) F hK hP hS (c_X10_stepped l D ad cI hap H.size _ _ _ hw) (cwV 1 hts gU_X10_261 rfl rfl rfl (by decide +kernel) ⟨Nat.le_of_ble_eq_true rfl, Nat.le_of_ble_eq_true rfl⟩) (va_recv hK hP (ci := 7) (q0 := 0) rfl rfl) rfl hl.1 rfl (Nat.le_of_ble_eq_true rfl) dX10_run_76 ⟨Nat.zero_le _, Nat.zero_le _⟩ (fun u_1 H locs hw hP hS => ?_)
            refine lv_goto (tgt := 19) hx hb dX10_run_79 (by decide) ?_
            exact hL19 _ _ _ _ _ _ hw hP hS (lv_sub hl [1, 2, 0] rfl)
          · have hw := hw.2 c_6
            refine lv_aload_n hx hb dX10_run_41 rfl (lv_at hl 0 rfl) ?_
            refine lv_iconst (v := 3) hx hb dX10_run_42 (by decide) ?_
            refine lv_iconst (v := (-1)) hx hb dX10_run_43 (by decide) ?_
            refine cvI (As := [.int 3, .int (-1)]) (rest := []) F hK hP hS (c_X10_stops l D ad cI hap H.size _ _ _ _ hw) (cwV 2 hts gU_X10_165 rfl rfl rfl (by decide +kernel) ⟨Nat.le_of_ble_eq_true rfl, Nat.le_of_ble_eq_true rfl⟩) (va_recv hK hP (ci := 7) (q0 := 0) rfl rfl) rfl hl.1 rfl (Nat.le_of_ble_eq_true rfl) dX10_run_44 ⟨Nat.zero_le _, Nat.zero_le _⟩ (fun r_5 u_4 H locs hw hP hS => ?_)
            obtain ⟨zr_5, hw⟩ := hw
            refine lv_pop hx hb dX10_run_47 rfl ?_
            refine lv_goto (tgt := 19) hx hb dX10_run_48 (by decide) ?_
            exact hL19 _ _ _ _ _ _ hw hP hS (lv_sub hl [0, 1, 2] rfl)
  have hl := lv_entry ([.ref (ad 0), .int a1, .int a2]) (n := 4) (Nat.le_of_ble_eq_true rfl)
  rw [lg_entry_eq]
  generalize (lg_sl ([.ref (ad 0), .int a1, .int a2]) ++ List.replicate (4 - (lg_sl ([.ref (ad 0), .int a1, .int a2])).length) Slot.unset).toArray = ls at hl ⊢
  have hl : lv_has ls 4 [(0, .ref (ad 0)), (1, .int a1), (2, .int a2)] := hl
  have key : ∀ (H : Heap) (locs : List Loc), va_P D vwCl ((wdM ad cI) σ) H → va_S (AW ad 40 s.heap.size) s.heap H locs → W p l e (headSpec wU_X10_run rm_X10_run).room s m ([.ref (ad 0), .int a1, .int a2] : List Value).toArray below meth c H locs 0 0 (MQ below (va_Qi K (inW D (wdM ad cI) [(cI, .int)]) (AW ad 40 s.heap.size)) ([.ref (ad 0), .int a1, .int a2] : List Value).toArray s 0 0 (AW ad 40 s.heap.size)) (F0 m 0 ls []) := by
    intro H locs hP hS
    unfold w_X10_run at hw
    refine lv_iload_n hx hb dX10_run_0 rfl (lv_at hl 2 rfl) ?_
    refine lv_iconst (v := 0) hx hb dX10_run_1 (by decide) ?_
    refine lv_sipush (v := 4000) hx hb dX10_run_2 (by decide) ?_
    refine csI (As := [.int a2, .int 0, .int 4000]) (rest := []) F hK hP hS (c_X10_in l D ad cI hap H.size _ _ _ _ _ hw) (va_cwS 3 hts gU_X10_131 rfl rfl rfl (by decide +kernel) ⟨Nat.le_of_ble_eq_true rfl, Nat.le_of_ble_eq_true rfl⟩) rfl hl.1 rfl (Nat.le_of_ble_eq_true rfl) dX10_run_5 ⟨Nat.zero_le _, Nat.zero_le _⟩ (fun r_10 u_9 H locs hw hP hS => ?_)
    obtain ⟨zr_10, hw⟩ := hw
    refine lv_if_ne (tgt := 13) hx hb dX10_run_8 (by decide) (fun c_14 => ?_) (fun c_14 => ?_)
    · have hw := hw.1 c_14
      refine lv_aload_n hx hb dX10_run_13 rfl (lv_at hl 0 rfl) ?_
      refine cvV (As := []) (rest := []) F hK hP hS (c_X10_begins l D ad cI hap H.size _ _ hw) (cwV 0 hts gU_X10_257 rfl rfl rfl (by decide +kernel) ⟨Nat.le_of_ble_eq_true rfl, Nat.le_of_ble_eq_true rfl⟩) (va_recv hK hP (ci := 7) (q0 := 0) rfl rfl) rfl hl.1 rfl (Nat.le_of_ble_eq_true rfl) dX10_run_14 ⟨Nat.zero_le _, Nat.zero_le _⟩ (fun u_11 H locs hw hP hS => ?_)
      refine lv_iload_n hx hb dX10_run_17 rfl (lv_at hl 1 rfl) ?_
      refine lv_istore_n (lv' := [(3, .int a1), (0, .ref (ad 0)), (1, .int a1), (2, .int a2)]) hx hb dX10_run_18 rfl hl (by decide) rfl (fun ls hl => ?_)
      obtain ⟨n_13, hw⟩ := hw
      exact lab_19 n_13 _ _ _ _ _ _ hw hP hS (lv_sub hl [1, 3, 0] rfl)
    · have hw := hw.2 c_14
      refine lv_iconst (v := (-1)) hx hb dX10_run_11 (by decide) ?_
      exact rtI F hr hlocks hK hw hP hS dX10_run_12
  exact key s.heap [] hP hS

abbrev rm_X10_ticks : Room := { frames := 9, cells := 0, slots := 0, locals := 220 }
set_option maxHeartbeats 4000000 in
set_option maxRecDepth 100000 in
theorem c_X10_ticks (l : Launch) (D : va_G) (ad : Nat → Nat) (cI : ClassId) (hap : apart ad 40) (sz : Nat) (σ : St) (a1 : Int32) (K : Int32 → St → Prop) (hw : w_X10_ticks σ a1 K) : Met l yX10_ticks wU_X10_ticks rm_X10_ticks (va_Pc [.ref (ad 0), .int a1] (fun U => U.heap.size = sz ∧ inW D (wdM ad cI) [(cI, .int)] σ U)) (va_Qi K (inW D (wdM ad cI) [(cI, .int)]) (AW ad 40 sz)) 0 0 (AW ad 40 sz) := by
  refine Met.ofW (cc := cX10_ticks) (maxL := 5) (ret := (some .int)) (by decide) rfl ?_
  intro p e s m args below meth c s₁ B hml hv
  obtain ⟨rfl, hsz, ⟨hP, hK⟩⟩ := hv
  have F : CallFix p m c cX10_ticks 5 s ([.ref (ad 0), .int a1] : List Value).toArray lw_U RX10 := ⟨B.exec, B.bytes, hml, findClass_of_methodNamed B.named, fun w h => atoms_spec (ws := wU_X10_ticks) B.pre w (List.mem_cons_of_mem _ h)⟩
  have hx := F.1
  have hb := F.2.1
  have hown := F.2.2.2.1
  have hts := F.2.2.2.2
  have hr := B.returns
  have hlocks := B.notSynchronized
  subst hsz
  have hDs : ∀ σ, va_D (AW ad 40 s.heap.size) ((wdM ad cI) σ) := fun σ => wdM_D hap σ
  have hS : va_S (AW ad 40 s.heap.size) s.heap s.heap [] := va_S.rf
  have lab_114 : ∀ (L17 : St → Int32 → Prop) (hL17 : ∀ (σ : St) (x1 : Int32) (H : Heap) (locs : List Loc) (ls : Array Slot), L17 σ x1 → va_P D vwCl ((wdM ad cI) σ) H → va_S (AW ad 40 s.heap.size) s.heap H locs → lv_has ls 5 [(0, .ref (ad 0)), (1, .int x1)] → W p l e (headSpec wU_X10_ticks rm_X10_ticks).room s m ([.ref (ad 0), .int a1] : List Value).toArray below meth c H locs 0 0 (MQ below (va_Qi K (inW D (wdM ad cI) [(cI, .int)]) (AW ad 40 s.heap.size)) ([.ref (ad 0), .int a1] : List Value).toArray s 0 0 (AW ad 40 s.heap.size)) (F0 m 17 ls [])), ∀ (σ : St) (x1 : Int32) (x3 : Int32) (H : Heap) (locs : List Loc) (ls : Array Slot), b_X10_ticks_114 L17 K σ x1 x3 → va_P D vwCl ((wdM ad cI) σ) H → va_S (AW ad 40 s.heap.size) s.heap H locs → lv_has ls 5 [(0, .ref (ad 0)), (1, .int x1), (3, .int x3)] → W p l e (headSpec wU_X10_ticks rm_X10_ticks).room s m ([.ref (ad 0), .int a1] : List Value).toArray below meth c H locs 0 0 (MQ below (va_Qi K (inW D (wdM ad cI) [(cI, .int)]) (AW ad 40 s.heap.size)) ([.ref (ad 0), .int a1] : List Value).toArray s 0 0 (AW ad 40 s.heap.size)) (F0 m 114 ls []) := by
    intro L17 hL17
    intro σ x1 x3 H locs ls hw hP hS hl
    unfold b_X10_ticks_114 at hw
    refine lv_aload_n hx hb dX10_ticks_114 rfl (lv_at hl 0 rfl) ?_
    refine lv_iload_n hx hb dX10_ticks_115 rfl (lv_at hl 2 rfl) ?_
    refine lv_aload_n hx hb dX10_ticks_116 rfl (lv_at hl 0 rfl) ?_
    refine gM_X10_most F hK hP (hts _ mw_575) dX10_ticks_117 ?_
    refine lv_icmp_le (tgt := 127) hx hb dX10_ticks_120 (by decide) (fun c_1 => ?_) (fun c_1 => ?_)
    · have hw := hw.1 c_1
      refine lv_aload_n hx hb dX10_ticks_127 rfl (lv_at hl 0 rfl) ?_
      refine gM_X10_most F hK hP (hts _ mw_575) dX10_ticks_128 ?_
      refine pM_X10_most F hK hP hDs hS (hts _ mw_575) dX10_ticks_131 (fun H locs hP hS => ?_)
      refine lv_goto (tgt := 17) hx hb dX10_ticks_134 (by decide) ?_
      exact hL17 _ _ _ _ _ hw hP hS (lv_sub hl [0, 1] rfl)
    · have hw := hw.2 c_1
      refine lv_iload_n hx hb dX10_ticks_123 rfl (lv_at hl 2 rfl) ?_
      refine lv_goto (tgt := 131) hx hb dX10_ticks_124 (by decide) ?_
      refine pM_X10_most F hK hP hDs hS (hts _ mw_575) dX10_ticks_131 (fun H locs hP hS => ?_)
      refine lv_goto (tgt := 17) hx hb dX10_ticks_134 (by decide) ?_
      exact hL17 _ _ _ _ _ hw hP hS (lv_sub hl [0, 1] rfl)
  have lab_69 : ∀ (L17 : St → Int32 → Prop) (hL17 : ∀ (σ : St) (x1 : Int32) (H : Heap) (locs : List Loc) (ls : Array Slot), L17 σ x1 → va_P D vwCl ((wdM ad cI) σ) H → va_S (AW ad 40 s.heap.size) s.heap H locs → lv_has ls 5 [(0, .ref (ad 0)), (1, .int x1)] → W p l e (headSpec wU_X10_ticks rm_X10_ticks).room s m ([.ref (ad 0), .int a1] : List Value).toArray below meth c H locs 0 0 (MQ below (va_Qi K (inW D (wdM ad cI) [(cI, .int)]) (AW ad 40 s.heap.size)) ([.ref (ad 0), .int a1] : List Value).toArray s 0 0 (AW ad 40 s.heap.size)) (F0 m 17 ls [])) (n : Nat), ∀ (σ : St) (x1 : Int32) (x2 : Int32) (x3 : Int32) (x4 : Int32) (H : Heap) (locs : List Loc) (ls : Array Slot), w_X10_ticks_69 L17 K n σ x1 x2 x3 x4 → va_P D vwCl ((wdM ad cI) σ) H → va_S (AW ad 40 s.heap.size) s.heap H locs → lv_has ls 5 [(0, .ref (ad 0)), (1, .int x1), (2, .int x2), (3, .int x3), (4, .int x4)] → W p l e (headSpec wU_X10_ticks rm_X10_ticks).room s m ([.ref (ad 0), .int a1] : List Value).toArray below meth c H locs 0 0 (MQ below (va_Qi K (inW D (wdM ad cI) [(cI, .int)]) (AW ad 40 s.heap.size)) ([.ref (ad 0), .int a1] : List Value).toArray s 0 0 (AW ad 40 s.heap.size)) (F0 m 69 ls []) := by
    intro L17 hL17
    intro n
    induction n with
    | zero =>
      intro σ x1 x2 x3 x4 H locs ls hw
      exact hw.elim
    | succ n hL69 =>
      intro σ x1 x2 x3 x4 H locs ls hw hP hS hl
      have hw : b_X10_ticks_69 L17 (w_X10_ticks_69 L17 K n) K σ x1 x2 x3 x4 := hw
      unfold b_X10_ticks_69 at hw
      generalize w_X10_ticks_69 L17 K n = L69 at hw hL69
      refine lv_iload hx hb dX10_ticks_69 (lv_at hl 4 rfl) ?_
      refine lv_iload_n hx hb dX10_ticks_71 rfl (lv_at hl 2 rfl) ?_
      refine lv_icmp_ge (tgt := 114) hx hb dX10_ticks_72 (by decide) (fun c_8 => ?_) (fun c_8 => ?_)
      · have hw := hw.1 c_8
        exact lab_114 L17 hL17 _ _ _ _ _ _ hw hP hS (lv_sub hl [0, 1, 3] rfl)
      · have hw := hw.2 c_8
        refine lv_aload_n hx hb dX10_ticks_75 rfl (lv_at hl 0 rfl) ?_
        refine gM_X10_isStopped F hK hP (hts _ mw_461) dX10_ticks_76 ?_
        refine lv_if_ne (tgt := 114) hx hb dX10_ticks_79 (by decide) (fun c_7 => ?_) (fun c_7 => ?_)
        · have hw := hw.1 c_7
          exact lab_114 L17 hL17 _ _ _ _ _ _ hw hP hS (lv_sub hl [0, 1, 3] rfl)
        · have hw := hw.2 c_7
          refine lv_aload_n hx hb dX10_ticks_82 rfl (lv_at hl 0 rfl) ?_
          refine gM_X10_steps F hK hP (hts _ mw_573) dX10_ticks_83 ?_
          refine lv_iload_n hx hb dX10_ticks_86 rfl (lv_at hl 1 rfl) ?_
          refine lv_icmp_ne (tgt := 100) hx hb dX10_ticks_87 (by decide) (fun c_6 => ?_) (fun c_6 => ?_)
          · have hw := hw.1 c_6
            refine lv_aload_n hx hb dX10_ticks_100 rfl (lv_at hl 0 rfl) ?_
            refine lv_iconst (v := 0) hx hb dX10_ticks_101 (by decide) ?_
            refine cvV (As := [.int 0]) (rest := []) F hK hP hS (c_X10_stepped l D ad cI hap H.size _ _ _ hw) (cwV 1 hts gU_X10_261 rfl rfl rfl (by decide +kernel) ⟨Nat.le_of_ble_eq_true rfl, Nat.le_of_ble_eq_true rfl⟩) (va_recv hK hP (ci := 7) (q0 := 0) rfl rfl) rfl hl.1 rfl (Nat.le_of_ble_eq_true rfl) dX10_ticks_102 ⟨Nat.zero_le _, Nat.zero_le _⟩ (fun u_2 H locs hw hP hS => ?_)
            refine lv_iinc (v := (x3 + 1)) (lv' := [(3, .int (x3 + 1)), (0, .ref (ad 0)), (1, .int x1), (2, .int x2), (4, .int x4)]) hx hb dX10_ticks_105 hl (k := 3) rfl rfl (by decide) rfl (fun ls hl => ?_)
            refine lv_iinc (v := (x4 + 1)) (lv' := [(4, .int (x4 + 1)), (3, .int (x3 + 1)), (0, .ref (ad 0)), (1, .int x1), (2, .int x2)]) hx hb dX10_ticks_108 hl (k := 4) rfl rfl (by decide) rfl (fun ls hl => ?_)
            refine lv_goto (tgt := 69) hx hb dX10_ticks_111 (by decide) ?_
            exact hL69 _ _ _ _ _ _ _ _ hw hP hS (lv_sub hl [2, 3, 4, 1, 0] rfl)
          · have hw := hw.2 c_6
            refine lv_aload_n hx hb dX10_ticks_90 rfl (lv_at hl 0 rfl) ?_
            refine lv_iconst (v := 3) hx hb dX10_ticks_91 (by decide) ?_
            refine lv_iconst (v := (-1)) hx hb dX10_ticks_92 (by decide) ?_
            refine cvI (As := [.int 3, .int (-1)]) (rest := []) F hK hP hS (c_X10_stops l D ad cI hap H.size _ _ _ _ hw) (cwV 2 hts gU_X10_165 rfl rfl rfl (by decide +kernel) ⟨Nat.le_of_ble_eq_true rfl, Nat.le_of_ble_eq_true rfl⟩) (va_recv hK hP (ci := 7) (q0 := 0) rfl rfl) rfl hl.1 rfl (Nat.le_of_ble_eq_true rfl) dX10_ticks_93 ⟨Nat.zero_le _, Nat.zero_le _⟩ (fun r_5 u_4 H locs hw hP hS => ?_)
            obtain ⟨zr_5, hw⟩ := hw
            refine lv_pop hx hb dX10_ticks_96 rfl ?_
            refine lv_goto (tgt := 108) hx hb dX10_ticks_97 (by decide) ?_
            refine lv_iinc (v := (x4 + 1)) (lv' := [(4, .int (x4 + 1)), (0, .ref (ad 0)), (1, .int x1), (2, .int x2), (3, .int x3)]) hx hb dX10_ticks_108 hl (k := 4) rfl rfl (by decide) rfl (fun ls hl => ?_)
            refine lv_goto (tgt := 69) hx hb dX10_ticks_111 (by decide) ?_
            exact hL69 _ _ _ _ _ _ _ _ hw hP hS (lv_sub hl [1, 2, 3, 4, 0] rfl)
  have lab_17 : ∀ (n : Nat), ∀ (σ : St) (x1 : Int32) (H : Heap) (locs : List Loc) (ls : Array Slot), w_X10_ticks_17 K n σ x1 → va_P D vwCl ((wdM ad cI) σ) H → va_S (AW ad 40 s.heap.size) s.heap H locs → lv_has ls 5 [(0, .ref (ad 0)), (1, .int x1)] → W p l e (headSpec wU_X10_ticks rm_X10_ticks).room s m ([.ref (ad 0), .int a1] : List Value).toArray below meth c H locs 0 0 (MQ below (va_Qi K (inW D (wdM ad cI) [(cI, .int)]) (AW ad 40 s.heap.size)) ([.ref (ad 0), .int a1] : List Value).toArray s 0 0 (AW ad 40 s.heap.size)) (F0 m 17 ls []) := by
    intro n
    induction n with
    | zero =>
      intro σ x1 H locs ls hw
      exact hw.elim
    | succ n hL17 =>
      intro σ x1 H locs ls hw hP hS hl
      have hw : b_X10_ticks_17 (w_X10_ticks_17 K n) K σ x1 := hw
      unfold b_X10_ticks_17 at hw
      generalize w_X10_ticks_17 K n = L17 at hw hL17
      refine lv_aload_n hx hb dX10_ticks_17 rfl (lv_at hl 0 rfl) ?_
      refine gM_X10_isStopped F hK hP (hts _ mw_461) dX10_ticks_18 ?_
      refine lv_if_ne (tgt := 137) hx hb dX10_ticks_21 (by decide) (fun c_14 => ?_) (fun c_14 => ?_)
      · have hw := hw.1 c_14
        refine lv_aload_n hx hb dX10_ticks_137 rfl (lv_at hl 0 rfl) ?_
        refine gM_X10_how F hK hP (hts _ mw_459) dX10_ticks_138 ?_
        exact rtI F hr hlocks hK hw hP hS dX10_ticks_141
      · have hw := hw.2 c_14
        refine lv_aload_n hx hb dX10_ticks_24 rfl (lv_at hl 0 rfl) ?_
        refine gM_X10_readyMany F hK hP (hts _ mw_486) dX10_ticks_25 ?_
        refine lv_if_le (tgt := 137) hx hb dX10_ticks_28 (by decide) (fun c_13 => ?_) (fun c_13 => ?_)
        · have hw := hw.1 c_13
          refine lv_aload_n hx hb dX10_ticks_137 rfl (lv_at hl 0 rfl) ?_
          refine gM_X10_how F hK hP (hts _ mw_459) dX10_ticks_138 ?_
          exact rtI F hr hlocks hK hw hP hS dX10_ticks_141
        · have hw := hw.2 c_13
          refine lv_aload_n hx hb dX10_ticks_31 rfl (lv_at hl 0 rfl) ?_
          refine gM_X10_steps F hK hP (hts _ mw_573) dX10_ticks_32 ?_
          refine lv_iload_n hx hb dX10_ticks_35 rfl (lv_at hl 1 rfl) ?_
          refine lv_icmp_ne (tgt := 49) hx hb dX10_ticks_36 (by decide) (fun c_12 => ?_) (fun c_12 => ?_)
          · have hw := hw.1 c_12
            refine lv_aload_n hx hb dX10_ticks_49 rfl (lv_at hl 0 rfl) ?_
            refine lv_dup hx hb dX10_ticks_50 rfl ?_
            refine gM_X10_ticked F hK hP (hts _ mw_574) dX10_ticks_51 ?_
            refine lv_iconst (v := 1) hx hb dX10_ticks_54 (by decide) ?_
            refine lv_iadd hx hb dX10_ticks_55 ?_
            refine pM_X10_ticked F hK hP hDs hS (hts _ mw_574) dX10_ticks_56 (fun H locs hP hS => ?_)
            refine lv_aload_n hx hb dX10_ticks_59 rfl (lv_at hl 0 rfl) ?_
            refine gM_X10_readyMany F hK hP (hts _ mw_486) dX10_ticks_60 ?_
            refine jvi (y := (gS σ 14)) (by simp only [gS_sS, gS_sA, gS_sL, gS_fA, gS_fL, gA_sS, gA_sA, gA_sL, gA_fA, gA_fL, gL_sS, gL_sA, gL_sL, gL_fA, gL_fL, reduceIte, Nat.reduceEqDiff]) ?_
            refine lv_istore_n (lv' := [(2, .int (gS σ 14)), (0, .ref (ad 0)), (1, .int x1)]) hx hb dX10_ticks_63 rfl hl (by decide) rfl (fun ls hl => ?_)
            refine lv_iconst (v := 0) hx hb dX10_ticks_64 (by decide) ?_
            refine lv_istore_n (lv' := [(3, .int 0), (2, .int (gS σ 14)), (0, .ref (ad 0)), (1, .int x1)]) hx hb dX10_ticks_65 rfl hl (by decide) rfl (fun ls hl => ?_)
            refine lv_iconst (v := 0) hx hb dX10_ticks_66 (by decide) ?_
            refine lv_istore (lv' := [(4, .int 0), (3, .int 0), (2, .int (gS σ 14)), (0, .ref (ad 0)), (1, .int x1)]) hx hb dX10_ticks_67 hl (by decide) rfl (fun ls hl => ?_)
            obtain ⟨n_9, hw⟩ := hw
            exact lab_69 L17 hL17 n_9 _ _ _ _ _ _ _ _ hw hP hS (lv_sub hl [3, 4, 2, 1, 0] rfl)
          · have hw := hw.2 c_12
            refine lv_aload_n hx hb dX10_ticks_39 rfl (lv_at hl 0 rfl) ?_
            refine lv_iconst (v := 3) hx hb dX10_ticks_40 (by decide) ?_
            refine lv_iconst (v := (-1)) hx hb dX10_ticks_41 (by decide) ?_
            refine cvI (As := [.int 3, .int (-1)]) (rest := []) F hK hP hS (c_X10_stops l D ad cI hap H.size _ _ _ _ hw) (cwV 2 hts gU_X10_165 rfl rfl rfl (by decide +kernel) ⟨Nat.le_of_ble_eq_true rfl, Nat.le_of_ble_eq_true rfl⟩) (va_recv hK hP (ci := 7) (q0 := 0) rfl rfl) rfl hl.1 rfl (Nat.le_of_ble_eq_true rfl) dX10_ticks_42 ⟨Nat.zero_le _, Nat.zero_le _⟩ (fun r_11 u_10 H locs hw hP hS => ?_)
            obtain ⟨zr_11, hw⟩ := hw
            refine lv_pop hx hb dX10_ticks_45 rfl ?_
            refine lv_goto (tgt := 17) hx hb dX10_ticks_46 (by decide) ?_
            exact hL17 _ _ _ _ _ hw hP hS (lv_sub hl [0, 1] rfl)
  have hl := lv_entry ([.ref (ad 0), .int a1]) (n := 5) (Nat.le_of_ble_eq_true rfl)
  rw [lg_entry_eq]
  generalize (lg_sl ([.ref (ad 0), .int a1]) ++ List.replicate (5 - (lg_sl ([.ref (ad 0), .int a1])).length) Slot.unset).toArray = ls at hl ⊢
  have hl : lv_has ls 5 [(0, .ref (ad 0)), (1, .int a1)] := hl
  have key : ∀ (H : Heap) (locs : List Loc), va_P D vwCl ((wdM ad cI) σ) H → va_S (AW ad 40 s.heap.size) s.heap H locs → W p l e (headSpec wU_X10_ticks rm_X10_ticks).room s m ([.ref (ad 0), .int a1] : List Value).toArray below meth c H locs 0 0 (MQ below (va_Qi K (inW D (wdM ad cI) [(cI, .int)]) (AW ad 40 s.heap.size)) ([.ref (ad 0), .int a1] : List Value).toArray s 0 0 (AW ad 40 s.heap.size)) (F0 m 0 ls []) := by
    intro H locs hP hS
    unfold w_X10_ticks at hw
    refine lv_iload_n hx hb dX10_ticks_0 rfl (lv_at hl 1 rfl) ?_
    refine lv_iconst (v := 0) hx hb dX10_ticks_1 (by decide) ?_
    refine lv_sipush (v := 4000) hx hb dX10_ticks_2 (by decide) ?_
    refine csI (As := [.int a1, .int 0, .int 4000]) (rest := []) F hK hP hS (c_X10_in l D ad cI hap H.size _ _ _ _ _ hw) (va_cwS 3 hts gU_X10_131 rfl rfl rfl (by decide +kernel) ⟨Nat.le_of_ble_eq_true rfl, Nat.le_of_ble_eq_true rfl⟩) rfl hl.1 rfl (Nat.le_of_ble_eq_true rfl) dX10_ticks_5 ⟨Nat.zero_le _, Nat.zero_le _⟩ (fun r_16 u_15 H locs hw hP hS => ?_)
    obtain ⟨zr_16, hw⟩ := hw
    refine lv_if_ne (tgt := 13) hx hb dX10_ticks_8 (by decide) (fun c_20 => ?_) (fun c_20 => ?_)
    · have hw := hw.1 c_20
      refine lv_aload_n hx hb dX10_ticks_13 rfl (lv_at hl 0 rfl) ?_
      refine cvV (As := []) (rest := []) F hK hP hS (c_X10_begins l D ad cI hap H.size _ _ hw) (cwV 0 hts gU_X10_257 rfl rfl rfl (by decide +kernel) ⟨Nat.le_of_ble_eq_true rfl, Nat.le_of_ble_eq_true rfl⟩) (va_recv hK hP (ci := 7) (q0 := 0) rfl rfl) rfl hl.1 rfl (Nat.le_of_ble_eq_true rfl) dX10_ticks_14 ⟨Nat.zero_le _, Nat.zero_le _⟩ (fun u_17 H locs hw hP hS => ?_)
      obtain ⟨n_19, hw⟩ := hw
      exact lab_17 n_19 _ _ _ _ _ hw hP hS (lv_sub hl [0, 1] rfl)
    · have hw := hw.2 c_20
      refine lv_iconst (v := (-1)) hx hb dX10_ticks_11 (by decide) ?_
      exact rtI F hr hlocks hK hw hP hS dX10_ticks_12
  exact key s.heap [] hP hS

abbrev rm_X10_left : Room := { frames := 0, cells := 0, slots := 0, locals := 0 }
set_option maxHeartbeats 4000000 in
set_option maxRecDepth 100000 in
theorem c_X10_left (l : Launch) (D : va_G) (ad : Nat → Nat) (cI : ClassId) (hap : apart ad 40) (sz : Nat) (σ : St) (K : Int32 → St → Prop) (hw : w_X10_left σ K) : Met l yX10_left wU_X10_left rm_X10_left (va_Pc [.ref (ad 0)] (fun U => U.heap.size = sz ∧ inW D (wdM ad cI) [(cI, .int)] σ U)) (va_Qi K (inW D (wdM ad cI) [(cI, .int)]) (AW ad 40 sz)) 0 0 (AW ad 40 sz) := by
  refine Met.ofW (cc := cX10_left) (maxL := 4) (ret := (some .int)) (by decide) rfl ?_
  intro p e s m args below meth c s₁ B hml hv
  obtain ⟨rfl, hsz, ⟨hP, hK⟩⟩ := hv
  have F : CallFix p m c cX10_left 4 s ([.ref (ad 0)] : List Value).toArray lw_U RX10 := ⟨B.exec, B.bytes, hml, findClass_of_methodNamed B.named, fun w h => atoms_spec (ws := wU_X10_left) B.pre w (List.mem_cons_of_mem _ h)⟩
  have hx := F.1
  have hb := F.2.1
  have hown := F.2.2.2.1
  have hts := F.2.2.2.2
  have hr := B.returns
  have hlocks := B.notSynchronized
  subst hsz
  have hDs : ∀ σ, va_D (AW ad 40 s.heap.size) ((wdM ad cI) σ) := fun σ => wdM_D hap σ
  have hS : va_S (AW ad 40 s.heap.size) s.heap s.heap [] := va_S.rf
  have lab_14 : ∀ (L4 : St → Int32 → Int32 → Prop) (hL4 : ∀ (σ : St) (x1 : Int32) (x2 : Int32) (H : Heap) (locs : List Loc) (ls : Array Slot), L4 σ x1 x2 → va_P D vwCl ((wdM ad cI) σ) H → va_S (AW ad 40 s.heap.size) s.heap H locs → lv_has ls 4 [(0, .ref (ad 0)), (1, .int x1), (2, .int x2)] → W p l e (headSpec wU_X10_left rm_X10_left).room s m ([.ref (ad 0)] : List Value).toArray below meth c H locs 0 0 (MQ below (va_Qi K (inW D (wdM ad cI) [(cI, .int)]) (AW ad 40 s.heap.size)) ([.ref (ad 0)] : List Value).toArray s 0 0 (AW ad 40 s.heap.size)) (F0 m 4 ls [])) (n : Nat), ∀ (σ : St) (x1 : Int32) (x2 : Int32) (x3 : Int32) (H : Heap) (locs : List Loc) (ls : Array Slot), w_X10_left_14 L4 K n σ x1 x2 x3 → va_P D vwCl ((wdM ad cI) σ) H → va_S (AW ad 40 s.heap.size) s.heap H locs → lv_has ls 4 [(0, .ref (ad 0)), (1, .int x1), (2, .int x2), (3, .int x3)] → W p l e (headSpec wU_X10_left rm_X10_left).room s m ([.ref (ad 0)] : List Value).toArray below meth c H locs 0 0 (MQ below (va_Qi K (inW D (wdM ad cI) [(cI, .int)]) (AW ad 40 s.heap.size)) ([.ref (ad 0)] : List Value).toArray s 0 0 (AW ad 40 s.heap.size)) (F0 m 14 ls []) := by
    intro L4 hL4
    intro n
    induction n with
    | zero =>
      intro σ x1 x2 x3 H locs ls hw
      exact hw.elim
    | succ n hL14 =>
      intro σ x1 x2 x3 H locs ls hw hP hS hl
      have hw : b_X10_left_14 L4 (w_X10_left_14 L4 K n) K σ x1 x2 x3 := hw
      unfold b_X10_left_14 at hw
      generalize w_X10_left_14 L4 K n = L14 at hw hL14
      refine lv_iload_n hx hb dX10_left_14 rfl (lv_at hl 3 rfl) ?_
      refine lv_iconst (v := 3) hx hb dX10_left_15 (by decide) ?_
      refine lv_icmp_ge (tgt := 47) hx hb dX10_left_16 (by decide) (fun c_5 => ?_) (fun c_5 => ?_)
      · have hw := hw.1 c_5
        refine lv_iinc (v := (x2 + 1)) (lv' := [(2, .int (x2 + 1)), (0, .ref (ad 0)), (1, .int x1), (3, .int x3)]) hx hb dX10_left_47 hl (k := 2) rfl rfl (by decide) rfl (fun ls hl => ?_)
        refine lv_goto (tgt := 4) hx hb dX10_left_50 (by decide) ?_
        exact hL4 _ _ _ _ _ _ hw hP hS (lv_sub hl [1, 2, 0] rfl)
      · have hw := hw.2 c_5
        refine lv_aload_n hx hb dX10_left_19 rfl (lv_at hl 0 rfl) ?_
        refine gM_X10_pHow F hK hP (hts _ mw_475) dX10_left_20 ?_
        refine lv_iload_n hx hb dX10_left_23 rfl (lv_at hl 2 rfl) ?_
        obtain ⟨i_4, hw⟩ := hw
        refine lM_X10_pHow F hK hP i_4 dX10_left_24 ?_
        refine lv_if_ne (tgt := 47) hx hb dX10_left_25 (by decide) (fun c_3 => ?_) (fun c_3 => ?_)
        · have hw := hw.1 c_3
          refine lv_iinc (v := (x2 + 1)) (lv' := [(2, .int (x2 + 1)), (0, .ref (ad 0)), (1, .int x1), (3, .int x3)]) hx hb dX10_left_47 hl (k := 2) rfl rfl (by decide) rfl (fun ls hl => ?_)
          refine lv_goto (tgt := 4) hx hb dX10_left_50 (by decide) ?_
          exact hL4 _ _ _ _ _ _ hw hP hS (lv_sub hl [1, 2, 0] rfl)
        · have hw := hw.2 c_3
          refine lv_iload_n hx hb dX10_left_28 rfl (lv_at hl 1 rfl) ?_
          refine lv_aload_n hx hb dX10_left_29 rfl (lv_at hl 0 rfl) ?_
          refine gM_X10_pHas F hK hP (hts _ mw_474) dX10_left_30 ?_
          refine lv_iload_n hx hb dX10_left_33 rfl (lv_at hl 2 rfl) ?_
          obtain ⟨i_2, hw⟩ := hw
          refine lM_X10_pHas F hK hP i_2 dX10_left_34 ?_
          refine lv_iload_n hx hb dX10_left_35 rfl (lv_at hl 3 rfl) ?_
          refine lv_ishr hx hb dX10_left_36 ?_
          refine lv_iconst (v := 1) hx hb dX10_left_37 (by decide) ?_
          refine lv_iand hx hb dX10_left_38 ?_
          refine lv_iadd hx hb dX10_left_39 ?_
          refine lv_topi (fun x_1 ex_1 => ?_)
          have hw := hw x_1 ex_1
          refine lv_istore_n (lv' := [(1, .int x_1), (0, .ref (ad 0)), (2, .int x2), (3, .int x3)]) hx hb dX10_left_40 rfl hl (by decide) rfl (fun ls hl => ?_)
          refine lv_iinc (v := (x3 + 1)) (lv' := [(3, .int (x3 + 1)), (1, .int x_1), (0, .ref (ad 0)), (2, .int x2)]) hx hb dX10_left_41 hl (k := 3) rfl rfl (by decide) rfl (fun ls hl => ?_)
          refine lv_goto (tgt := 14) hx hb dX10_left_44 (by decide) ?_
          exact hL14 _ _ _ _ _ _ _ hw hP hS (lv_sub hl [2, 1, 3, 0] rfl)
  have lab_4 : ∀ (n : Nat), ∀ (σ : St) (x1 : Int32) (x2 : Int32) (H : Heap) (locs : List Loc) (ls : Array Slot), w_X10_left_4 K n σ x1 x2 → va_P D vwCl ((wdM ad cI) σ) H → va_S (AW ad 40 s.heap.size) s.heap H locs → lv_has ls 4 [(0, .ref (ad 0)), (1, .int x1), (2, .int x2)] → W p l e (headSpec wU_X10_left rm_X10_left).room s m ([.ref (ad 0)] : List Value).toArray below meth c H locs 0 0 (MQ below (va_Qi K (inW D (wdM ad cI) [(cI, .int)]) (AW ad 40 s.heap.size)) ([.ref (ad 0)] : List Value).toArray s 0 0 (AW ad 40 s.heap.size)) (F0 m 4 ls []) := by
    intro n
    induction n with
    | zero =>
      intro σ x1 x2 H locs ls hw
      exact hw.elim
    | succ n hL4 =>
      intro σ x1 x2 H locs ls hw hP hS hl
      have hw : b_X10_left_4 (w_X10_left_4 K n) K σ x1 x2 := hw
      unfold b_X10_left_4 at hw
      generalize w_X10_left_4 K n = L4 at hw hL4
      refine lv_iload_n hx hb dX10_left_4 rfl (lv_at hl 2 rfl) ?_
      refine lv_aload_n hx hb dX10_left_5 rfl (lv_at hl 0 rfl) ?_
      refine gM_X10_pairs F hK hP (hts _ mw_471) dX10_left_6 ?_
      refine lv_icmp_ge (tgt := 53) hx hb dX10_left_9 (by decide) (fun c_7 => ?_) (fun c_7 => ?_)
      · have hw := hw.1 c_7
        refine lv_iload_n hx hb dX10_left_53 rfl (lv_at hl 1 rfl) ?_
        exact rtI F hr hlocks hK hw hP hS dX10_left_54
      · have hw := hw.2 c_7
        refine lv_iconst (v := 0) hx hb dX10_left_12 (by decide) ?_
        refine lv_istore_n (lv' := [(3, .int 0), (0, .ref (ad 0)), (1, .int x1), (2, .int x2)]) hx hb dX10_left_13 rfl hl (by decide) rfl (fun ls hl => ?_)
        obtain ⟨n_6, hw⟩ := hw
        exact lab_14 L4 hL4 n_6 _ _ _ _ _ _ _ hw hP hS (lv_sub hl [1, 2, 3, 0] rfl)
  have hl := lv_entry ([.ref (ad 0)]) (n := 4) (Nat.le_of_ble_eq_true rfl)
  rw [lg_entry_eq]
  generalize (lg_sl ([.ref (ad 0)]) ++ List.replicate (4 - (lg_sl ([.ref (ad 0)])).length) Slot.unset).toArray = ls at hl ⊢
  have hl : lv_has ls 4 [(0, .ref (ad 0))] := hl
  have key : ∀ (H : Heap) (locs : List Loc), va_P D vwCl ((wdM ad cI) σ) H → va_S (AW ad 40 s.heap.size) s.heap H locs → W p l e (headSpec wU_X10_left rm_X10_left).room s m ([.ref (ad 0)] : List Value).toArray below meth c H locs 0 0 (MQ below (va_Qi K (inW D (wdM ad cI) [(cI, .int)]) (AW ad 40 s.heap.size)) ([.ref (ad 0)] : List Value).toArray s 0 0 (AW ad 40 s.heap.size)) (F0 m 0 ls []) := by
    intro H locs hP hS
    unfold w_X10_left at hw
    refine lv_iconst (v := 0) hx hb dX10_left_0 (by decide) ?_
    refine lv_istore_n (lv' := [(1, .int 0), (0, .ref (ad 0))]) hx hb dX10_left_1 rfl hl (by decide) rfl (fun ls hl => ?_)
    refine lv_iconst (v := 0) hx hb dX10_left_2 (by decide) ?_
    refine lv_istore_n (lv' := [(2, .int 0), (1, .int 0), (0, .ref (ad 0))]) hx hb dX10_left_3 rfl hl (by decide) rfl (fun ls hl => ?_)
    obtain ⟨n_8, hw⟩ := hw
    exact lab_4 n_8 _ _ _ _ _ _ hw hP hS (lv_sub hl [2, 1, 0] rfl)
  exact key s.heap [] hP hS

abbrev rm_X10_waiting : Room := { frames := 0, cells := 0, slots := 0, locals := 0 }
set_option maxHeartbeats 4000000 in
set_option maxRecDepth 100000 in
theorem c_X10_waiting (l : Launch) (D : va_G) (ad : Nat → Nat) (cI : ClassId) (hap : apart ad 40) (sz : Nat) (σ : St) (K : Int32 → St → Prop) (hw : w_X10_waiting σ K) : Met l yX10_waiting wU_X10_waiting rm_X10_waiting (va_Pc [.ref (ad 0)] (fun U => U.heap.size = sz ∧ inW D (wdM ad cI) [(cI, .int)] σ U)) (va_Qi K (inW D (wdM ad cI) [(cI, .int)]) (AW ad 40 sz)) 0 0 (AW ad 40 sz) := by
  refine Met.ofW (cc := cX10_waiting) (maxL := 3) (ret := (some .int)) (by decide) rfl ?_
  intro p e s m args below meth c s₁ B hml hv
  obtain ⟨rfl, hsz, ⟨hP, hK⟩⟩ := hv
  have F : CallFix p m c cX10_waiting 3 s ([.ref (ad 0)] : List Value).toArray lw_U RX10 := ⟨B.exec, B.bytes, hml, findClass_of_methodNamed B.named, fun w h => atoms_spec (ws := wU_X10_waiting) B.pre w (List.mem_cons_of_mem _ h)⟩
  have hx := F.1
  have hb := F.2.1
  have hown := F.2.2.2.1
  have hts := F.2.2.2.2
  have hr := B.returns
  have hlocks := B.notSynchronized
  subst hsz
  have hDs : ∀ σ, va_D (AW ad 40 s.heap.size) ((wdM ad cI) σ) := fun σ => wdM_D hap σ
  have hS : va_S (AW ad 40 s.heap.size) s.heap s.heap [] := va_S.rf
  have lab_4 : ∀ (n : Nat), ∀ (σ : St) (x1 : Int32) (x2 : Int32) (H : Heap) (locs : List Loc) (ls : Array Slot), w_X10_waiting_4 K n σ x1 x2 → va_P D vwCl ((wdM ad cI) σ) H → va_S (AW ad 40 s.heap.size) s.heap H locs → lv_has ls 3 [(0, .ref (ad 0)), (1, .int x1), (2, .int x2)] → W p l e (headSpec wU_X10_waiting rm_X10_waiting).room s m ([.ref (ad 0)] : List Value).toArray below meth c H locs 0 0 (MQ below (va_Qi K (inW D (wdM ad cI) [(cI, .int)]) (AW ad 40 s.heap.size)) ([.ref (ad 0)] : List Value).toArray s 0 0 (AW ad 40 s.heap.size)) (F0 m 4 ls []) := by
    intro n
    induction n with
    | zero =>
      intro σ x1 x2 H locs ls hw
      exact hw.elim
    | succ n hL4 =>
      intro σ x1 x2 H locs ls hw hP hS hl
      have hw : b_X10_waiting_4 (w_X10_waiting_4 K n) K σ x1 x2 := hw
      unfold b_X10_waiting_4 at hw
      generalize w_X10_waiting_4 K n = L4 at hw hL4
      refine lv_iload_n hx hb dX10_waiting_4 rfl (lv_at hl 2 rfl) ?_
      refine lv_aload_n hx hb dX10_waiting_5 rfl (lv_at hl 0 rfl) ?_
      refine gM_X10_readers F hK hP (hts _ mw_535) dX10_waiting_6 ?_
      refine lv_icmp_ge (tgt := 35) hx hb dX10_waiting_9 (by decide) (fun c_3 => ?_) (fun c_3 => ?_)
      · have hw := hw.1 c_3
        refine lv_iload_n hx hb dX10_waiting_35 rfl (lv_at hl 1 rfl) ?_
        exact rtI F hr hlocks hK hw hP hS dX10_waiting_36
      · have hw := hw.2 c_3
        refine lv_iload_n hx hb dX10_waiting_12 rfl (lv_at hl 1 rfl) ?_
        refine lv_aload_n hx hb dX10_waiting_13 rfl (lv_at hl 0 rfl) ?_
        refine gM_X10_readCell F hK hP (hts _ mw_538) dX10_waiting_14 ?_
        refine lv_iload_n hx hb dX10_waiting_17 rfl (lv_at hl 2 rfl) ?_
        obtain ⟨i_2, hw⟩ := hw
        refine lM_X10_readCell F hK hP i_2 dX10_waiting_18 ?_
        refine lv_if_lt (tgt := 26) hx hb dX10_waiting_19 (by decide) (fun c_1 => ?_) (fun c_1 => ?_)
        · have hw := hw.1 c_1
          refine lv_iconst (v := 0) hx hb dX10_waiting_26 (by decide) ?_
          refine lv_iadd hx hb dX10_waiting_27 ?_
          refine lv_istore_n (lv' := [(1, .int (x1 + 0)), (0, .ref (ad 0)), (2, .int x2)]) hx hb dX10_waiting_28 rfl hl (by decide) rfl (fun ls hl => ?_)
          refine lv_iinc (v := (x2 + 1)) (lv' := [(2, .int (x2 + 1)), (1, .int (x1 + 0)), (0, .ref (ad 0))]) hx hb dX10_waiting_29 hl (k := 2) rfl rfl (by decide) rfl (fun ls hl => ?_)
          refine lv_goto (tgt := 4) hx hb dX10_waiting_32 (by decide) ?_
          exact hL4 _ _ _ _ _ _ hw hP hS (lv_sub hl [2, 1, 0] rfl)
        · have hw := hw.2 c_1
          refine lv_iconst (v := 1) hx hb dX10_waiting_22 (by decide) ?_
          refine lv_goto (tgt := 27) hx hb dX10_waiting_23 (by decide) ?_
          refine lv_iadd hx hb dX10_waiting_27 ?_
          refine lv_istore_n (lv' := [(1, .int (x1 + 1)), (0, .ref (ad 0)), (2, .int x2)]) hx hb dX10_waiting_28 rfl hl (by decide) rfl (fun ls hl => ?_)
          refine lv_iinc (v := (x2 + 1)) (lv' := [(2, .int (x2 + 1)), (1, .int (x1 + 1)), (0, .ref (ad 0))]) hx hb dX10_waiting_29 hl (k := 2) rfl rfl (by decide) rfl (fun ls hl => ?_)
          refine lv_goto (tgt := 4) hx hb dX10_waiting_32 (by decide) ?_
          exact hL4 _ _ _ _ _ _ hw hP hS (lv_sub hl [2, 1, 0] rfl)
  have hl := lv_entry ([.ref (ad 0)]) (n := 3) (Nat.le_of_ble_eq_true rfl)
  rw [lg_entry_eq]
  generalize (lg_sl ([.ref (ad 0)]) ++ List.replicate (3 - (lg_sl ([.ref (ad 0)])).length) Slot.unset).toArray = ls at hl ⊢
  have hl : lv_has ls 3 [(0, .ref (ad 0))] := hl
  have key : ∀ (H : Heap) (locs : List Loc), va_P D vwCl ((wdM ad cI) σ) H → va_S (AW ad 40 s.heap.size) s.heap H locs → W p l e (headSpec wU_X10_waiting rm_X10_waiting).room s m ([.ref (ad 0)] : List Value).toArray below meth c H locs 0 0 (MQ below (va_Qi K (inW D (wdM ad cI) [(cI, .int)]) (AW ad 40 s.heap.size)) ([.ref (ad 0)] : List Value).toArray s 0 0 (AW ad 40 s.heap.size)) (F0 m 0 ls []) := by
    intro H locs hP hS
    unfold w_X10_waiting at hw
    refine lv_iconst (v := 0) hx hb dX10_waiting_0 (by decide) ?_
    refine lv_istore_n (lv' := [(1, .int 0), (0, .ref (ad 0))]) hx hb dX10_waiting_1 rfl hl (by decide) rfl (fun ls hl => ?_)
    refine lv_iconst (v := 0) hx hb dX10_waiting_2 (by decide) ?_
    refine lv_istore_n (lv' := [(2, .int 0), (1, .int 0), (0, .ref (ad 0))]) hx hb dX10_waiting_3 rfl hl (by decide) rfl (fun ls hl => ?_)
    obtain ⟨n_4, hw⟩ := hw
    exact lab_4 n_4 _ _ _ _ _ _ hw hP hS (lv_sub hl [2, 1, 0] rfl)
  exact key s.heap [] hP hS

abbrev rm_X10_about : Room := { frames := 1, cells := 0, slots := 0, locals := 23 }
set_option maxHeartbeats 4000000 in
set_option maxRecDepth 100000 in
theorem c_X10_about (l : Launch) (D : va_G) (ad : Nat → Nat) (cI : ClassId) (hap : apart ad 40) (sz : Nat) (σ : St) (a1 : Int32) (K : Int32 → St → Prop) (hw : w_X10_about σ a1 K) : Met l yX10_about wU_X10_about rm_X10_about (va_Pc [.ref (ad 0), .int a1] (fun U => U.heap.size = sz ∧ inW D (wdM ad cI) [(cI, .int)] σ U)) (va_Qi K (inW D (wdM ad cI) [(cI, .int)]) (AW ad 40 sz)) 0 0 (AW ad 40 sz) := by
  refine Met.ofW (cc := cX10_about) (maxL := 2) (ret := (some .int)) (by decide) rfl ?_
  intro p e s m args below meth c s₁ B hml hv
  obtain ⟨rfl, hsz, ⟨hP, hK⟩⟩ := hv
  have F : CallFix p m c cX10_about 2 s ([.ref (ad 0), .int a1] : List Value).toArray lw_U RX10 := ⟨B.exec, B.bytes, hml, findClass_of_methodNamed B.named, fun w h => atoms_spec (ws := wU_X10_about) B.pre w (List.mem_cons_of_mem _ h)⟩
  have hx := F.1
  have hb := F.2.1
  have hown := F.2.2.2.1
  have hts := F.2.2.2.2
  have hr := B.returns
  have hlocks := B.notSynchronized
  subst hsz
  have hDs : ∀ σ, va_D (AW ad 40 s.heap.size) ((wdM ad cI) σ) := fun σ => wdM_D hap σ
  have hS : va_S (AW ad 40 s.heap.size) s.heap s.heap [] := va_S.rf
  have hl := lv_entry ([.ref (ad 0), .int a1]) (n := 2) (Nat.le_of_ble_eq_true rfl)
  rw [lg_entry_eq]
  generalize (lg_sl ([.ref (ad 0), .int a1]) ++ List.replicate (2 - (lg_sl ([.ref (ad 0), .int a1])).length) Slot.unset).toArray = ls at hl ⊢
  have hl : lv_has ls 2 [(0, .ref (ad 0)), (1, .int a1)] := hl
  have key : ∀ (H : Heap) (locs : List Loc), va_P D vwCl ((wdM ad cI) σ) H → va_S (AW ad 40 s.heap.size) s.heap H locs → W p l e (headSpec wU_X10_about rm_X10_about).room s m ([.ref (ad 0), .int a1] : List Value).toArray below meth c H locs 0 0 (MQ below (va_Qi K (inW D (wdM ad cI) [(cI, .int)]) (AW ad 40 s.heap.size)) ([.ref (ad 0), .int a1] : List Value).toArray s 0 0 (AW ad 40 s.heap.size)) (F0 m 0 ls []) := by
    intro H locs hP hS
    unfold w_X10_about at hw
    refine lv_aload_n hx hb dX10_about_0 rfl (lv_at hl 0 rfl) ?_
    refine gM_X10_isRun F hK hP (hts _ mw_458) dX10_about_1 ?_
    refine lv_if_ne (tgt := 9) hx hb dX10_about_4 (by decide) (fun c_39 => ?_) (fun c_39 => ?_)
    · have hw := hw.1 c_39
      refine lv_iload_n hx hb dX10_about_9 rfl (lv_at hl 1 rfl) ?_
      by_cases k_1 : a1 = 0
      · have hw := hw.1 k_1
        refine sw_in 0 (tgt := 68) F dX10_about_10 k_1 (by decide) (by decide) rfl (by decide) ?_
        refine lv_aload_n hx hb dX10_about_68 rfl (lv_at hl 0 rfl) ?_
        refine gM_X10_how F hK hP (hts _ mw_459) dX10_about_69 ?_
        exact rtI F hr hlocks hK hw hP hS dX10_about_72
      · have hw := hw.2 k_1
        by_cases k_2 : a1 = 1
        · have hw := hw.1 k_2
          refine sw_in 1 (tgt := 73) F dX10_about_10 k_2 (by decide) (by decide) rfl (by decide) ?_
          refine lv_aload_n hx hb dX10_about_73 rfl (lv_at hl 0 rfl) ?_
          refine gM_X10_steps F hK hP (hts _ mw_573) dX10_about_74 ?_
          exact rtI F hr hlocks hK hw hP hS dX10_about_77
        · have hw := hw.2 k_2
          by_cases k_3 : a1 = 2
          · have hw := hw.1 k_3
            refine sw_in 2 (tgt := 78) F dX10_about_10 k_3 (by decide) (by decide) rfl (by decide) ?_
            refine lv_aload_n hx hb dX10_about_78 rfl (lv_at hl 0 rfl) ?_
            refine gM_X10_ticked F hK hP (hts _ mw_574) dX10_about_79 ?_
            exact rtI F hr hlocks hK hw hP hS dX10_about_82
          · have hw := hw.2 k_3
            by_cases k_4 : a1 = 3
            · have hw := hw.1 k_4
              refine sw_in 3 (tgt := 83) F dX10_about_10 k_4 (by decide) (by decide) rfl (by decide) ?_
              refine lv_aload_n hx hb dX10_about_83 rfl (lv_at hl 0 rfl) ?_
              refine gM_X10_most F hK hP (hts _ mw_575) dX10_about_84 ?_
              exact rtI F hr hlocks hK hw hP hS dX10_about_87
            · have hw := hw.2 k_4
              by_cases k_5 : a1 = 4
              · have hw := hw.1 k_5
                refine sw_in 4 (tgt := 88) F dX10_about_10 k_5 (by decide) (by decide) rfl (by decide) ?_
                refine lv_aload_n hx hb dX10_about_88 rfl (lv_at hl 0 rfl) ?_
                refine cvI (As := []) (rest := []) F hK hP hS (c_X10_left l D ad cI hap H.size _ _ hw) (cwV 0 hts gU_X10_265 rfl rfl rfl (by decide +kernel) ⟨Nat.le_of_ble_eq_true rfl, Nat.le_of_ble_eq_true rfl⟩) (va_recv hK hP (ci := 7) (q0 := 0) rfl rfl) rfl hl.1 rfl (Nat.le_of_ble_eq_true rfl) dX10_about_89 ⟨Nat.zero_le _, Nat.zero_le _⟩ (fun r_7 u_6 H locs hw hP hS => ?_)
                exact rtI F hr hlocks hK hw hP hS dX10_about_92
              · have hw := hw.2 k_5
                by_cases k_8 : a1 = 5
                · have hw := hw.1 k_8
                  refine sw_in 5 (tgt := 93) F dX10_about_10 k_8 (by decide) (by decide) rfl (by decide) ?_
                  refine lv_aload_n hx hb dX10_about_93 rfl (lv_at hl 0 rfl) ?_
                  refine cvI (As := []) (rest := []) F hK hP hS (c_X10_waiting l D ad cI hap H.size _ _ hw) (cwV 0 hts gU_X10_269 rfl rfl rfl (by decide +kernel) ⟨Nat.le_of_ble_eq_true rfl, Nat.le_of_ble_eq_true rfl⟩) (va_recv hK hP (ci := 7) (q0 := 0) rfl rfl) rfl hl.1 rfl (Nat.le_of_ble_eq_true rfl) dX10_about_94 ⟨Nat.zero_le _, Nat.zero_le _⟩ (fun r_10 u_9 H locs hw hP hS => ?_)
                  exact rtI F hr hlocks hK hw hP hS dX10_about_97
                · have hw := hw.2 k_8
                  by_cases k_11 : a1 = 6
                  · have hw := hw.1 k_11
                    refine sw_in 6 (tgt := 98) F dX10_about_10 k_11 (by decide) (by decide) rfl (by decide) ?_
                    refine lv_aload_n hx hb dX10_about_98 rfl (lv_at hl 0 rfl) ?_
                    refine gM_X10_lost F hK hP (hts _ mw_507) dX10_about_99 ?_
                    exact rtI F hr hlocks hK hw hP hS dX10_about_102
                  · have hw := hw.2 k_11
                    by_cases k_12 : a1 = 7
                    · have hw := hw.1 k_12
                      refine sw_in 7 (tgt := 103) F dX10_about_10 k_12 (by decide) (by decide) rfl (by decide) ?_
                      refine lv_aload_n hx hb dX10_about_103 rfl (lv_at hl 0 rfl) ?_
                      refine gM_X10_strays F hK hP (hts _ mw_519) dX10_about_104 ?_
                      exact rtI F hr hlocks hK hw hP hS dX10_about_107
                    · have hw := hw.2 k_12
                      by_cases k_13 : a1 = 8
                      · have hw := hw.1 k_13
                        refine sw_in 8 (tgt := 108) F dX10_about_10 k_13 (by decide) (by decide) rfl (by decide) ?_
                        refine lv_aload_n hx hb dX10_about_108 rfl (lv_at hl 0 rfl) ?_
                        refine gM_X10_colours F hK hP (hts _ mw_462) dX10_about_109 ?_
                        exact rtI F hr hlocks hK hw hP hS dX10_about_112
                      · have hw := hw.2 k_13
                        by_cases k_14 : a1 = 9
                        · have hw := hw.1 k_14
                          refine sw_in 9 (tgt := 113) F dX10_about_10 k_14 (by decide) (by decide) rfl (by decide) ?_
                          refine lv_aload_n hx hb dX10_about_113 rfl (lv_at hl 0 rfl) ?_
                          refine gM_X10_clash F hK hP (hts _ mw_460) dX10_about_114 ?_
                          exact rtI F hr hlocks hK hw hP hS dX10_about_117
                        · have hw := hw.2 k_14
                          by_cases k_15 : a1 = 10
                          · have hw := hw.1 k_15
                            refine sw_in 10 (tgt := 118) F dX10_about_10 k_15 (by decide) (by decide) rfl (by decide) ?_
                            refine lv_aload_n hx hb dX10_about_118 rfl (lv_at hl 0 rfl) ?_
                            refine gM_X10_readyMany F hK hP (hts _ mw_486) dX10_about_119 ?_
                            exact rtI F hr hlocks hK hw hP hS dX10_about_122
                          · have hw := hw.2 k_15
                            have z_16 : ¬ a1.toInt = 0 := lv_neT (fun z => k_1 z) (k := 0) (by decide)
                            have z_17 : ¬ a1.toInt = 1 := lv_neT (fun z => k_2 z) (k := 1) (by decide)
                            have z_18 : ¬ a1.toInt = 2 := lv_neT (fun z => k_3 z) (k := 2) (by decide)
                            have z_19 : ¬ a1.toInt = 3 := lv_neT (fun z => k_4 z) (k := 3) (by decide)
                            have z_20 : ¬ a1.toInt = 4 := lv_neT (fun z => k_5 z) (k := 4) (by decide)
                            have z_21 : ¬ a1.toInt = 5 := lv_neT (fun z => k_8 z) (k := 5) (by decide)
                            have z_22 : ¬ a1.toInt = 6 := lv_neT (fun z => k_11 z) (k := 6) (by decide)
                            have z_23 : ¬ a1.toInt = 7 := lv_neT (fun z => k_12 z) (k := 7) (by decide)
                            have z_24 : ¬ a1.toInt = 8 := lv_neT (fun z => k_13 z) (k := 8) (by decide)
                            have z_25 : ¬ a1.toInt = 9 := lv_neT (fun z => k_14 z) (k := 9) (by decide)
                            have z_26 : ¬ a1.toInt = 10 := lv_neT (fun z => k_15 z) (k := 10) (by decide)
                            have kd : W p l e (headSpec wU_X10_about rm_X10_about).room s m ([.ref (ad 0), .int a1] : List Value).toArray below meth c H locs 0 0 (MQ below (va_Qi K (inW D (wdM ad cI) [(cI, .int)]) (AW ad 40 s.heap.size)) ([.ref (ad 0), .int a1] : List Value).toArray s 0 0 (AW ad 40 s.heap.size)) (F0 m 123 ls []) := by
                              refine lv_iconst (v := (-1)) hx hb dX10_about_123 (by decide) ?_
                              exact rtI F hr hlocks hK hw hP hS dX10_about_124
                            rcases (show (a1.toInt < 0 ∨ 10 < a1.toInt) by omega) with o_27
                            · exact lv_tableOut (tgt := 123) hx hb dX10_about_10 o_27 (by decide) kd
    · have hw := hw.2 c_39
      refine lv_iconst (v := (-1)) hx hb dX10_about_7 (by decide) ?_
      exact rtI F hr hlocks hK hw hP hS dX10_about_8
  exact key s.heap [] hP hS

abbrev rm_X10_told1 : Room := { frames := 0, cells := 0, slots := 0, locals := 0 }
set_option maxHeartbeats 4000000 in
set_option maxRecDepth 100000 in
theorem c_X10_told1 (l : Launch) (D : va_G) (ad : Nat → Nat) (cI : ClassId) (hap : apart ad 40) (sz : Nat) (σ : St) (a1 : Int32) (a2 : Int32) (a3 : Int32) (a4 : Int32) (K : Int32 → St → Prop) (hw : w_X10_told1 σ a1 a2 a3 a4 K) : Met l yX10_told1 wU_X10_told1 rm_X10_told1 (va_Pc [.ref (ad 0), .int a1, .int a2, .int a3, .int a4] (fun U => U.heap.size = sz ∧ inW D (wdM ad cI) [(cI, .int)] σ U)) (va_Qi K (inW D (wdM ad cI) [(cI, .int)]) (AW ad 40 sz)) 0 0 (AW ad 40 sz) := by
  refine Met.ofW (cc := cX10_told1) (maxL := 5) (ret := (some .int)) (by decide) rfl ?_
  intro p e s m args below meth c s₁ B hml hv
  obtain ⟨rfl, hsz, ⟨hP, hK⟩⟩ := hv
  have F : CallFix p m c cX10_told1 5 s ([.ref (ad 0), .int a1, .int a2, .int a3, .int a4] : List Value).toArray lw_U RX10 := ⟨B.exec, B.bytes, hml, findClass_of_methodNamed B.named, fun w h => atoms_spec (ws := wU_X10_told1) B.pre w (List.mem_cons_of_mem _ h)⟩
  have hx := F.1
  have hb := F.2.1
  have hown := F.2.2.2.1
  have hts := F.2.2.2.2
  have hr := B.returns
  have hlocks := B.notSynchronized
  subst hsz
  have hDs : ∀ σ, va_D (AW ad 40 s.heap.size) ((wdM ad cI) σ) := fun σ => wdM_D hap σ
  have hS : va_S (AW ad 40 s.heap.size) s.heap s.heap [] := va_S.rf
  have hl := lv_entry ([.ref (ad 0), .int a1, .int a2, .int a3, .int a4]) (n := 5) (Nat.le_of_ble_eq_true rfl)
  rw [lg_entry_eq]
  generalize (lg_sl ([.ref (ad 0), .int a1, .int a2, .int a3, .int a4]) ++ List.replicate (5 - (lg_sl ([.ref (ad 0), .int a1, .int a2, .int a3, .int a4])).length) Slot.unset).toArray = ls at hl ⊢
  have hl : lv_has ls 5 [(0, .ref (ad 0)), (1, .int a1), (2, .int a2), (3, .int a3), (4, .int a4)] := hl
  have key : ∀ (H : Heap) (locs : List Loc), va_P D vwCl ((wdM ad cI) σ) H → va_S (AW ad 40 s.heap.size) s.heap H locs → W p l e (headSpec wU_X10_told1 rm_X10_told1).room s m ([.ref (ad 0), .int a1, .int a2, .int a3, .int a4] : List Value).toArray below meth c H locs 0 0 (MQ below (va_Qi K (inW D (wdM ad cI) [(cI, .int)]) (AW ad 40 s.heap.size)) ([.ref (ad 0), .int a1, .int a2, .int a3, .int a4] : List Value).toArray s 0 0 (AW ad 40 s.heap.size)) (F0 m 0 ls []) := by
    intro H locs hP hS
    unfold w_X10_told1 at hw
    refine lv_iload hx hb dX10_told1_0 (lv_at hl 4 rfl) ?_
    refine lv_if_ne (tgt := 7) hx hb dX10_told1_2 (by decide) (fun c_6 => ?_) (fun c_6 => ?_)
    · have hw := hw.1 c_6
      refine lv_iload hx hb dX10_told1_7 (lv_at hl 4 rfl) ?_
      refine lv_iconst (v := 1) hx hb dX10_told1_9 (by decide) ?_
      refine lv_icmp_ne (tgt := 37) hx hb dX10_told1_10 (by decide) (fun c_5 => ?_) (fun c_5 => ?_)
      · have hw := hw.1 c_5
        refine lv_iload_n hx hb dX10_told1_37 rfl (lv_at hl 1 rfl) ?_
        refine lv_iconst (v := 3) hx hb dX10_told1_38 (by decide) ?_
        refine lv_icmp_ne (tgt := 46) hx hb dX10_told1_39 (by decide) (fun c_1 => ?_) (fun c_1 => ?_)
        · have hw := hw.1 c_1
          refine lv_iconst (v := (-1)) hx hb dX10_told1_46 (by decide) ?_
          exact rtI F hr hlocks hK hw hP hS dX10_told1_47
        · have hw := hw.2 c_1
          refine lv_iload_n hx hb dX10_told1_42 rfl (lv_at hl 3 rfl) ?_
          refine lv_goto (tgt := 47) hx hb dX10_told1_43 (by decide) ?_
          exact rtI F hr hlocks hK hw hP hS dX10_told1_47
      · have hw := hw.2 c_5
        refine lv_iload_n hx hb dX10_told1_13 rfl (lv_at hl 1 rfl) ?_
        refine lv_if_ne (tgt := 21) hx hb dX10_told1_14 (by decide) (fun c_4 => ?_) (fun c_4 => ?_)
        · have hw := hw.1 c_4
          refine lv_iload_n hx hb dX10_told1_21 rfl (lv_at hl 1 rfl) ?_
          refine lv_iconst (v := 2) hx hb dX10_told1_22 (by decide) ?_
          refine lv_icmp_ne (tgt := 35) hx hb dX10_told1_23 (by decide) (fun c_3 => ?_) (fun c_3 => ?_)
          · have hw := hw.1 c_3
            refine lv_iload_n hx hb dX10_told1_35 rfl (lv_at hl 2 rfl) ?_
            exact rtI F hr hlocks hK hw hP hS dX10_told1_36
          · have hw := hw.2 c_3
            refine lv_aload_n hx hb dX10_told1_26 rfl (lv_at hl 0 rfl) ?_
            refine gM_X10_rSize F hK hP (hts _ mw_524) dX10_told1_27 ?_
            refine lv_iload_n hx hb dX10_told1_30 rfl (lv_at hl 2 rfl) ?_
            obtain ⟨i_2, hw⟩ := hw
            refine lM_X10_rSize F hK hP i_2 dX10_told1_31 ?_
            refine lv_goto (tgt := 36) hx hb dX10_told1_32 (by decide) ?_
            exact rtI F hr hlocks hK hw hP hS dX10_told1_36
        · have hw := hw.2 c_4
          refine lv_iconst (v := (-1)) hx hb dX10_told1_17 (by decide) ?_
          refine lv_goto (tgt := 36) hx hb dX10_told1_18 (by decide) ?_
          exact rtI F hr hlocks hK hw hP hS dX10_told1_36
    · have hw := hw.2 c_6
      refine lv_iload_n hx hb dX10_told1_5 rfl (lv_at hl 1 rfl) ?_
      exact rtI F hr hlocks hK hw hP hS dX10_told1_6
  exact key s.heap [] hP hS

abbrev rm_X10_end : Room := { frames := 1, cells := 0, slots := 0, locals := 24 }
set_option maxHeartbeats 4000000 in
set_option maxRecDepth 100000 in
theorem c_X10_end (l : Launch) (D : va_G) (ad : Nat → Nat) (cI : ClassId) (hap : apart ad 40) (sz : Nat) (σ : St) (a1 : Int32) (a2 : Int32) (K : Int32 → St → Prop) (hw : w_X10_end σ a1 a2 K) : Met l yX10_end wU_X10_end rm_X10_end (va_Pc [.ref (ad 0), .int a1, .int a2] (fun U => U.heap.size = sz ∧ inW D (wdM ad cI) [(cI, .int)] σ U)) (va_Qi K (inW D (wdM ad cI) [(cI, .int)]) (AW ad 40 sz)) 0 0 (AW ad 40 sz) := by
  refine Met.ofW (cc := cX10_end) (maxL := 3) (ret := (some .int)) (by decide) rfl ?_
  intro p e s m args below meth c s₁ B hml hv
  obtain ⟨rfl, hsz, ⟨hP, hK⟩⟩ := hv
  have F : CallFix p m c cX10_end 3 s ([.ref (ad 0), .int a1, .int a2] : List Value).toArray lw_U RX10 := ⟨B.exec, B.bytes, hml, findClass_of_methodNamed B.named, fun w h => atoms_spec (ws := wU_X10_end) B.pre w (List.mem_cons_of_mem _ h)⟩
  have hx := F.1
  have hb := F.2.1
  have hown := F.2.2.2.1
  have hts := F.2.2.2.2
  have hr := B.returns
  have hlocks := B.notSynchronized
  subst hsz
  have hDs : ∀ σ, va_D (AW ad 40 s.heap.size) ((wdM ad cI) σ) := fun σ => wdM_D hap σ
  have hS : va_S (AW ad 40 s.heap.size) s.heap s.heap [] := va_S.rf
  have hl := lv_entry ([.ref (ad 0), .int a1, .int a2]) (n := 3) (Nat.le_of_ble_eq_true rfl)
  rw [lg_entry_eq]
  generalize (lg_sl ([.ref (ad 0), .int a1, .int a2]) ++ List.replicate (3 - (lg_sl ([.ref (ad 0), .int a1, .int a2])).length) Slot.unset).toArray = ls at hl ⊢
  have hl : lv_has ls 3 [(0, .ref (ad 0)), (1, .int a1), (2, .int a2)] := hl
  have key : ∀ (H : Heap) (locs : List Loc), va_P D vwCl ((wdM ad cI) σ) H → va_S (AW ad 40 s.heap.size) s.heap H locs → W p l e (headSpec wU_X10_end rm_X10_end).room s m ([.ref (ad 0), .int a1, .int a2] : List Value).toArray below meth c H locs 0 0 (MQ below (va_Qi K (inW D (wdM ad cI) [(cI, .int)]) (AW ad 40 s.heap.size)) ([.ref (ad 0), .int a1, .int a2] : List Value).toArray s 0 0 (AW ad 40 s.heap.size)) (F0 m 0 ls []) := by
    intro H locs hP hS
    unfold w_X10_end at hw
    refine lv_aload_n hx hb dX10_end_0 rfl (lv_at hl 0 rfl) ?_
    refine gM_X10_isRun F hK hP (hts _ mw_458) dX10_end_1 ?_
    refine lv_if_eq (tgt := 52) hx hb dX10_end_4 (by decide) (fun c_12 => ?_) (fun c_12 => ?_)
    · have hw := hw.1 c_12
      refine lv_iconst (v := (-1)) hx hb dX10_end_52 (by decide) ?_
      exact rtI F hr hlocks hK hw hP hS dX10_end_53
    · have hw := hw.2 c_12
      refine lv_iload_n hx hb dX10_end_7 rfl (lv_at hl 1 rfl) ?_
      refine lv_iconst (v := 0) hx hb dX10_end_8 (by decide) ?_
      refine lv_bipush (v := 9) hx hb dX10_end_9 (by decide) ?_
      refine csI (As := [.int a1, .int 0, .int 9]) (rest := []) F hK hP hS (c_X10_in l D ad cI hap H.size _ _ _ _ _ hw) (va_cwS 3 hts gU_X10_131 rfl rfl rfl (by decide +kernel) ⟨Nat.le_of_ble_eq_true rfl, Nat.le_of_ble_eq_true rfl⟩) rfl hl.1 rfl (Nat.le_of_ble_eq_true rfl) dX10_end_11 ⟨Nat.zero_le _, Nat.zero_le _⟩ (fun r_2 u_1 H locs hw hP hS => ?_)
      obtain ⟨zr_2, hw⟩ := hw
      refine lv_if_eq (tgt := 52) hx hb dX10_end_14 (by decide) (fun c_11 => ?_) (fun c_11 => ?_)
      · have hw := hw.1 c_11
        refine lv_iconst (v := (-1)) hx hb dX10_end_52 (by decide) ?_
        exact rtI F hr hlocks hK hw hP hS dX10_end_53
      · have hw := hw.2 c_11
        refine lv_iload_n hx hb dX10_end_17 rfl (lv_at hl 2 rfl) ?_
        refine lv_iconst (v := 0) hx hb dX10_end_18 (by decide) ?_
        refine lv_iconst (v := 2) hx hb dX10_end_19 (by decide) ?_
        refine csI (As := [.int a2, .int 0, .int 2]) (rest := []) F hK hP hS (c_X10_in l D ad cI hap H.size _ _ _ _ _ hw) (va_cwS 3 hts gU_X10_131 rfl rfl rfl (by decide +kernel) ⟨Nat.le_of_ble_eq_true rfl, Nat.le_of_ble_eq_true rfl⟩) rfl hl.1 rfl (Nat.le_of_ble_eq_true rfl) dX10_end_20 ⟨Nat.zero_le _, Nat.zero_le _⟩ (fun r_4 u_3 H locs hw hP hS => ?_)
        obtain ⟨zr_4, hw⟩ := hw
        refine lv_if_eq (tgt := 52) hx hb dX10_end_23 (by decide) (fun c_10 => ?_) (fun c_10 => ?_)
        · have hw := hw.1 c_10
          refine lv_iconst (v := (-1)) hx hb dX10_end_52 (by decide) ?_
          exact rtI F hr hlocks hK hw hP hS dX10_end_53
        · have hw := hw.2 c_10
          refine lv_aload_n hx hb dX10_end_26 rfl (lv_at hl 0 rfl) ?_
          refine lv_aload_n hx hb dX10_end_27 rfl (lv_at hl 0 rfl) ?_
          refine gM_X10_endKind F hK hP (hts _ mw_516) dX10_end_28 ?_
          refine lv_iload_n hx hb dX10_end_31 rfl (lv_at hl 1 rfl) ?_
          obtain ⟨i_9, hw⟩ := hw
          refine lM_X10_endKind F hK hP i_9 dX10_end_32 ?_
          refine lv_aload_n hx hb dX10_end_33 rfl (lv_at hl 0 rfl) ?_
          refine gM_X10_endValue F hK hP (hts _ mw_517) dX10_end_34 ?_
          refine lv_iload_n hx hb dX10_end_37 rfl (lv_at hl 1 rfl) ?_
          obtain ⟨i_8, hw⟩ := hw
          refine lM_X10_endValue F hK hP i_8 dX10_end_38 ?_
          refine lv_aload_n hx hb dX10_end_39 rfl (lv_at hl 0 rfl) ?_
          refine gM_X10_endOf F hK hP (hts _ mw_518) dX10_end_40 ?_
          refine lv_iload_n hx hb dX10_end_43 rfl (lv_at hl 1 rfl) ?_
          obtain ⟨i_7, hw⟩ := hw
          refine lM_X10_endOf F hK hP i_7 dX10_end_44 ?_
          refine lv_iload_n hx hb dX10_end_45 rfl (lv_at hl 2 rfl) ?_
          refine cvI (As := [.int (gA u_3 34 (a1).toNatClampNeg), .int (gA u_3 35 (a1).toNatClampNeg), .int (gA u_3 36 (a1).toNatClampNeg), .int a2]) (rest := []) F hK hP hS (c_X10_told1 l D ad cI hap H.size _ _ _ _ _ _ hw) (cwV 4 hts gU_X10_272 rfl rfl rfl (by decide +kernel) ⟨Nat.le_of_ble_eq_true rfl, Nat.le_of_ble_eq_true rfl⟩) (va_recv hK hP (ci := 7) (q0 := 0) rfl rfl) rfl hl.1 rfl (Nat.le_of_ble_eq_true rfl) dX10_end_46 ⟨Nat.zero_le _, Nat.zero_le _⟩ (fun r_6 u_5 H locs hw hP hS => ?_)
          refine lv_goto (tgt := 53) hx hb dX10_end_49 (by decide) ?_
          exact rtI F hr hlocks hK hw hP hS dX10_end_53
  exact key s.heap [] hP hS

abbrev rm_X10_fired : Room := { frames := 2, cells := 0, slots := 0, locals := 43 }
set_option maxHeartbeats 4000000 in
set_option maxRecDepth 100000 in
theorem c_X10_fired (l : Launch) (D : va_G) (ad : Nat → Nat) (cI : ClassId) (hap : apart ad 40) (sz : Nat) (σ : St) (a1 : Int32) (K : Int32 → St → Prop) (hw : w_X10_fired σ a1 K) : Met l yX10_fired wU_X10_fired rm_X10_fired (va_Pc [.ref (ad 0), .int a1] (fun U => U.heap.size = sz ∧ inW D (wdM ad cI) [(cI, .int)] σ U)) (va_Qi K (inW D (wdM ad cI) [(cI, .int)]) (AW ad 40 sz)) 0 0 (AW ad 40 sz) := by
  refine Met.ofW (cc := cX10_fired) (maxL := 2) (ret := (some .int)) (by decide) rfl ?_
  intro p e s m args below meth c s₁ B hml hv
  obtain ⟨rfl, hsz, ⟨hP, hK⟩⟩ := hv
  have F : CallFix p m c cX10_fired 2 s ([.ref (ad 0), .int a1] : List Value).toArray lw_U RX10 := ⟨B.exec, B.bytes, hml, findClass_of_methodNamed B.named, fun w h => atoms_spec (ws := wU_X10_fired) B.pre w (List.mem_cons_of_mem _ h)⟩
  have hx := F.1
  have hb := F.2.1
  have hown := F.2.2.2.1
  have hts := F.2.2.2.2
  have hr := B.returns
  have hlocks := B.notSynchronized
  subst hsz
  have hDs : ∀ σ, va_D (AW ad 40 s.heap.size) ((wdM ad cI) σ) := fun σ => wdM_D hap σ
  have hS : va_S (AW ad 40 s.heap.size) s.heap s.heap [] := va_S.rf
  have hl := lv_entry ([.ref (ad 0), .int a1]) (n := 2) (Nat.le_of_ble_eq_true rfl)
  rw [lg_entry_eq]
  generalize (lg_sl ([.ref (ad 0), .int a1]) ++ List.replicate (2 - (lg_sl ([.ref (ad 0), .int a1])).length) Slot.unset).toArray = ls at hl ⊢
  have hl : lv_has ls 2 [(0, .ref (ad 0)), (1, .int a1)] := hl
  have key : ∀ (H : Heap) (locs : List Loc), va_P D vwCl ((wdM ad cI) σ) H → va_S (AW ad 40 s.heap.size) s.heap H locs → W p l e (headSpec wU_X10_fired rm_X10_fired).room s m ([.ref (ad 0), .int a1] : List Value).toArray below meth c H locs 0 0 (MQ below (va_Qi K (inW D (wdM ad cI) [(cI, .int)]) (AW ad 40 s.heap.size)) ([.ref (ad 0), .int a1] : List Value).toArray s 0 0 (AW ad 40 s.heap.size)) (F0 m 0 ls []) := by
    intro H locs hP hS
    unfold w_X10_fired at hw
    refine lv_aload_n hx hb dX10_fired_0 rfl (lv_at hl 0 rfl) ?_
    refine gM_X10_isRun F hK hP (hts _ mw_458) dX10_fired_1 ?_
    refine lv_if_eq (tgt := 24) hx hb dX10_fired_4 (by decide) (fun c_5 => ?_) (fun c_5 => ?_)
    · have hw := hw.1 c_5
      refine lv_iconst (v := (-1)) hx hb dX10_fired_24 (by decide) ?_
      exact rtI F hr hlocks hK hw hP hS dX10_fired_25
    · have hw := hw.2 c_5
      refine lv_aload_n hx hb dX10_fired_7 rfl (lv_at hl 0 rfl) ?_
      refine lv_iload_n hx hb dX10_fired_8 rfl (lv_at hl 1 rfl) ?_
      refine cvI (As := [.int a1]) (rest := []) F hK hP hS (c_X10_isAct l D ad cI hap H.size _ _ _ hw) (cwV 1 hts gU_X10_139 rfl rfl rfl (by decide +kernel) ⟨Nat.le_of_ble_eq_true rfl, Nat.le_of_ble_eq_true rfl⟩) (va_recv hK hP (ci := 7) (q0 := 0) rfl rfl) rfl hl.1 rfl (Nat.le_of_ble_eq_true rfl) dX10_fired_9 ⟨Nat.zero_le _, Nat.zero_le _⟩ (fun r_2 u_1 H locs hw hP hS => ?_)
      obtain ⟨zr_2, hw⟩ := hw
      refine lv_if_eq (tgt := 24) hx hb dX10_fired_12 (by decide) (fun c_4 => ?_) (fun c_4 => ?_)
      · have hw := hw.1 c_4
        refine lv_iconst (v := (-1)) hx hb dX10_fired_24 (by decide) ?_
        exact rtI F hr hlocks hK hw hP hS dX10_fired_25
      · have hw := hw.2 c_4
        refine lv_aload_n hx hb dX10_fired_15 rfl (lv_at hl 0 rfl) ?_
        refine gM_X10_fired F hK hP (hts _ mw_572) dX10_fired_16 ?_
        refine lv_iload_n hx hb dX10_fired_19 rfl (lv_at hl 1 rfl) ?_
        obtain ⟨i_3, hw⟩ := hw
        refine lM_X10_fired F hK hP i_3 dX10_fired_20 ?_
        refine lv_goto (tgt := 25) hx hb dX10_fired_21 (by decide) ?_
        exact rtI F hr hlocks hK hw hP hS dX10_fired_25
  exact key s.heap [] hP hS
