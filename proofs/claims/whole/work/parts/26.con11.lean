abbrev rm_X10_calls : Room := { frames := 3, cells := 0, slots := 0, locals := 72 }
set_option maxHeartbeats 4000000 in
set_option maxRecDepth 100000 in
theorem c_X10_calls (l : Launch) (D : va_G) (ad : Nat → Nat) (cI : ClassId) (hap : apart ad 40) (sz : Nat) (σ : St) (a1 : Int32) (K : Int32 → St → Prop) (hw : w_X10_calls σ a1 K) : Met l yX10_calls wU_X10_calls rm_X10_calls (va_Pc [.ref (ad 0), .int a1] (fun U => U.heap.size = sz ∧ inW D (wdM ad cI) [(cI, .int)] σ U)) (va_Qi (fun r u => zb r ∧ K r u) (inW D (wdM ad cI) [(cI, .int)]) (AW ad 40 sz)) 0 0 (AW ad 40 sz) := by
  refine Met.ofW (cc := cX10_calls) (maxL := 6) (ret := (some .boolean)) (by decide) rfl ?_
  intro p e s m args below meth c s₁ B hml hv
  obtain ⟨rfl, hsz, ⟨hP, hK⟩⟩ := hv
  have F : CallFix p m c cX10_calls 6 s ([.ref (ad 0), .int a1] : List Value).toArray lw_U RX10 := ⟨B.exec, B.bytes, hml, findClass_of_methodNamed B.named, fun w h => atoms_spec (ws := wU_X10_calls) B.pre w (List.mem_cons_of_mem _ h)⟩
  have hx := F.1
  have hb := F.2.1
  have hown := F.2.2.2.1
  have hts := F.2.2.2.2
  have hr := B.returns
  have hlocks := B.notSynchronized
  subst hsz
  have hDs : ∀ σ, va_D (AW ad 40 s.heap.size) ((wdM ad cI) σ) := fun σ => wdM_D hap σ
  have hS : va_S (AW ad 40 s.heap.size) s.heap s.heap [] := va_S.rf
  have lab_93 : ∀ (L30 : St → Int32 → Int32 → Int32 → Int32 → Prop) (hL30 : ∀ (σ : St) (x1 : Int32) (x2 : Int32) (x3 : Int32) (x4 : Int32) (H : Heap) (locs : List Loc) (ls : Array Slot), L30 σ x1 x2 x3 x4 → va_P D vwCl ((wdM ad cI) σ) H → va_S (AW ad 40 s.heap.size) s.heap H locs → lv_has ls 6 [(0, .ref (ad 0)), (1, .int x1), (2, .int x2), (3, .int x3), (4, .int x4)] → W p l e (headSpec wU_X10_calls rm_X10_calls).room s m ([.ref (ad 0), .int a1] : List Value).toArray below meth c H locs 0 0 (MQ below (va_Qi (fun r u => zb r ∧ K r u) (inW D (wdM ad cI) [(cI, .int)]) (AW ad 40 s.heap.size)) ([.ref (ad 0), .int a1] : List Value).toArray s 0 0 (AW ad 40 s.heap.size)) (F0 m 30 ls [])), ∀ (σ : St) (x1 : Int32) (x2 : Int32) (x3 : Int32) (x4 : Int32) (x5 : Int32) (H : Heap) (locs : List Loc) (ls : Array Slot), b_X10_calls_93 L30 K σ x1 x2 x3 x4 x5 → va_P D vwCl ((wdM ad cI) σ) H → va_S (AW ad 40 s.heap.size) s.heap H locs → lv_has ls 6 [(0, .ref (ad 0)), (1, .int x1), (2, .int x2), (3, .int x3), (4, .int x4), (5, .int x5)] → W p l e (headSpec wU_X10_calls rm_X10_calls).room s m ([.ref (ad 0), .int a1] : List Value).toArray below meth c H locs 0 0 (MQ below (va_Qi (fun r u => zb r ∧ K r u) (inW D (wdM ad cI) [(cI, .int)]) (AW ad 40 s.heap.size)) ([.ref (ad 0), .int a1] : List Value).toArray s 0 0 (AW ad 40 s.heap.size)) (F0 m 93 ls []) := by
    intro L30 hL30
    intro σ x1 x2 x3 x4 x5 H locs ls hw hP hS hl
    unfold b_X10_calls_93 at hw
    refine lv_iload hx hb dX10_calls_93 (lv_at hl 5 rfl) ?_
    refine lv_aload_n hx hb dX10_calls_95 rfl (lv_at hl 0 rfl) ?_
    refine gM_X10_acts F hK hP (hts _ mw_434) dX10_calls_96 ?_
    refine lv_icmp_ge (tgt := 148) hx hb dX10_calls_99 (by decide) (fun c_7 => ?_) (fun c_7 => ?_)
    · have hw := hw.1 c_7
      refine lv_iinc (v := (x4 + 1)) (lv' := [(4, .int (x4 + 1)), (0, .ref (ad 0)), (1, .int x1), (2, .int x2), (3, .int x3), (5, .int x5)]) hx hb dX10_calls_148 hl (k := 4) rfl rfl (by decide) rfl (fun ls hl => ?_)
      refine lv_goto (tgt := 30) hx hb dX10_calls_151 (by decide) ?_
      exact hL30 _ _ _ _ _ _ _ _ hw hP hS (lv_sub hl [1, 2, 3, 4, 0] rfl)
    · have hw := hw.2 c_7
      refine lv_aload_n hx hb dX10_calls_102 rfl (lv_at hl 0 rfl) ?_
      refine lv_iload hx hb dX10_calls_103 (lv_at hl 5 rfl) ?_
      refine lv_iconst (v := 0) hx hb dX10_calls_105 (by decide) ?_
      refine lv_iload_n hx hb dX10_calls_106 rfl (lv_at hl 3 rfl) ?_
      refine lv_aload_n hx hb dX10_calls_107 rfl (lv_at hl 0 rfl) ?_
      refine gM_X10_pKind F hK hP (hts _ mw_482) dX10_calls_108 ?_
      refine lv_iconst (v := 3) hx hb dX10_calls_111 (by decide) ?_
      refine lv_iload_n hx hb dX10_calls_112 rfl (lv_at hl 1 rfl) ?_
      refine lv_imul hx hb dX10_calls_113 ?_
      refine lv_iload hx hb dX10_calls_114 (lv_at hl 4 rfl) ?_
      refine lv_iadd hx hb dX10_calls_116 ?_
      obtain ⟨i_6, hw⟩ := hw
      refine lM_X10_pKind F hK hP i_6 dX10_calls_117 ?_
      refine lv_aload_n hx hb dX10_calls_118 rfl (lv_at hl 0 rfl) ?_
      refine gM_X10_pValue F hK hP (hts _ mw_483) dX10_calls_119 ?_
      refine lv_iconst (v := 3) hx hb dX10_calls_122 (by decide) ?_
      refine lv_iload_n hx hb dX10_calls_123 rfl (lv_at hl 1 rfl) ?_
      refine lv_imul hx hb dX10_calls_124 ?_
      refine lv_iload hx hb dX10_calls_125 (lv_at hl 4 rfl) ?_
      refine lv_iadd hx hb dX10_calls_127 ?_
      obtain ⟨i_5, hw⟩ := hw
      refine lM_X10_pValue F hK hP i_5 dX10_calls_128 ?_
      refine lv_aload_n hx hb dX10_calls_129 rfl (lv_at hl 0 rfl) ?_
      refine gM_X10_pOf F hK hP (hts _ mw_484) dX10_calls_130 ?_
      refine lv_iconst (v := 3) hx hb dX10_calls_133 (by decide) ?_
      refine lv_iload_n hx hb dX10_calls_134 rfl (lv_at hl 1 rfl) ?_
      refine lv_imul hx hb dX10_calls_135 ?_
      refine lv_iload hx hb dX10_calls_136 (lv_at hl 4 rfl) ?_
      refine lv_iadd hx hb dX10_calls_138 ?_
      obtain ⟨i_4, hw⟩ := hw
      refine lM_X10_pOf F hK hP i_4 dX10_calls_139 ?_
      refine cvI (As := [.int x5, .int 0, .int x3, .int (gA σ 19 (((3 * x1) + x4)).toNatClampNeg), .int (gA σ 20 (((3 * x1) + x4)).toNatClampNeg), .int (gA σ 21 (((3 * x1) + x4)).toNatClampNeg)]) (rest := []) F hK hP hS (c_X10_comes l D ad cI hap H.size _ _ _ _ _ _ _ _ hw) (cwV 6 hts gU_X10_178 rfl rfl rfl (by decide +kernel) ⟨Nat.le_of_ble_eq_true rfl, Nat.le_of_ble_eq_true rfl⟩) (va_recv hK hP (ci := 7) (q0 := 0) rfl rfl) rfl hl.1 rfl (Nat.le_of_ble_eq_true rfl) dX10_calls_140 ⟨Nat.zero_le _, Nat.zero_le _⟩ (fun r_2 u_1 H locs hw hP hS => ?_)
      obtain ⟨zr_2, hw⟩ := hw
      refine lv_if_ne (tgt := 148) hx hb dX10_calls_143 (by decide) (fun c_3 => ?_) (fun c_3 => ?_)
      · have hw := hw.1 c_3
        refine lv_iinc (v := (x4 + 1)) (lv' := [(4, .int (x4 + 1)), (0, .ref (ad 0)), (1, .int x1), (2, .int x2), (3, .int x3), (5, .int x5)]) hx hb dX10_calls_148 hl (k := 4) rfl rfl (by decide) rfl (fun ls hl => ?_)
        refine lv_goto (tgt := 30) hx hb dX10_calls_151 (by decide) ?_
        exact hL30 _ _ _ _ _ _ _ _ hw hP hS (lv_sub hl [1, 2, 3, 4, 0] rfl)
      · have hw := hw.2 c_3
        refine lv_iconst (v := 0) hx hb dX10_calls_146 (by decide) ?_
        exact rtZ F hr hlocks hK hw (Or.inl rfl) hP hS dX10_calls_147
  have lab_44 : ∀ (L30 : St → Int32 → Int32 → Int32 → Int32 → Prop) (hL30 : ∀ (σ : St) (x1 : Int32) (x2 : Int32) (x3 : Int32) (x4 : Int32) (H : Heap) (locs : List Loc) (ls : Array Slot), L30 σ x1 x2 x3 x4 → va_P D vwCl ((wdM ad cI) σ) H → va_S (AW ad 40 s.heap.size) s.heap H locs → lv_has ls 6 [(0, .ref (ad 0)), (1, .int x1), (2, .int x2), (3, .int x3), (4, .int x4)] → W p l e (headSpec wU_X10_calls rm_X10_calls).room s m ([.ref (ad 0), .int a1] : List Value).toArray below meth c H locs 0 0 (MQ below (va_Qi (fun r u => zb r ∧ K r u) (inW D (wdM ad cI) [(cI, .int)]) (AW ad 40 s.heap.size)) ([.ref (ad 0), .int a1] : List Value).toArray s 0 0 (AW ad 40 s.heap.size)) (F0 m 30 ls [])) (n : Nat), ∀ (σ : St) (x1 : Int32) (x2 : Int32) (x3 : Int32) (x4 : Int32) (x5 : Int32) (H : Heap) (locs : List Loc) (ls : Array Slot), w_X10_calls_44 L30 K n σ x1 x2 x3 x4 x5 → va_P D vwCl ((wdM ad cI) σ) H → va_S (AW ad 40 s.heap.size) s.heap H locs → lv_has ls 6 [(0, .ref (ad 0)), (1, .int x1), (2, .int x2), (3, .int x3), (4, .int x4), (5, .int x5)] → W p l e (headSpec wU_X10_calls rm_X10_calls).room s m ([.ref (ad 0), .int a1] : List Value).toArray below meth c H locs 0 0 (MQ below (va_Qi (fun r u => zb r ∧ K r u) (inW D (wdM ad cI) [(cI, .int)]) (AW ad 40 s.heap.size)) ([.ref (ad 0), .int a1] : List Value).toArray s 0 0 (AW ad 40 s.heap.size)) (F0 m 44 ls []) := by
    intro L30 hL30
    intro n
    induction n with
    | zero =>
      intro σ x1 x2 x3 x4 x5 H locs ls hw
      exact hw.elim
    | succ n hL44 =>
      intro σ x1 x2 x3 x4 x5 H locs ls hw hP hS hl
      have hw : b_X10_calls_44 L30 (w_X10_calls_44 L30 K n) K σ x1 x2 x3 x4 x5 := hw
      unfold b_X10_calls_44 at hw
      generalize w_X10_calls_44 L30 K n = L44 at hw hL44
      refine lv_iload hx hb dX10_calls_44 (lv_at hl 5 rfl) ?_
      refine lv_aload_n hx hb dX10_calls_46 rfl (lv_at hl 0 rfl) ?_
      refine gM_X10_acts F hK hP (hts _ mw_434) dX10_calls_47 ?_
      refine lv_icmp_ge (tgt := 93) hx hb dX10_calls_50 (by decide) (fun c_13 => ?_) (fun c_13 => ?_)
      · have hw := hw.1 c_13
        exact lab_93 L30 hL30 _ _ _ _ _ _ _ _ _ hw hP hS (lv_sub hl [0, 1, 2, 3, 4, 5] rfl)
      · have hw := hw.2 c_13
        refine lv_aload_n hx hb dX10_calls_53 rfl (lv_at hl 0 rfl) ?_
        refine gM_X10_kind F hK hP (hts _ mw_439) dX10_calls_54 ?_
        refine lv_iload hx hb dX10_calls_57 (lv_at hl 5 rfl) ?_
        obtain ⟨i_12, hw⟩ := hw
        refine lM_X10_kind F hK hP i_12 dX10_calls_59 ?_
        refine lv_bipush (v := 15) hx hb dX10_calls_60 (by decide) ?_
        refine lv_icmp_ne (tgt := 87) hx hb dX10_calls_62 (by decide) (fun c_11 => ?_) (fun c_11 => ?_)
        · have hw := hw.1 c_11
          refine lv_iinc (v := (x5 + 1)) (lv' := [(5, .int (x5 + 1)), (0, .ref (ad 0)), (1, .int x1), (2, .int x2), (3, .int x3), (4, .int x4)]) hx hb dX10_calls_87 hl (k := 5) rfl rfl (by decide) rfl (fun ls hl => ?_)
          refine lv_goto (tgt := 44) hx hb dX10_calls_90 (by decide) ?_
          exact hL44 _ _ _ _ _ _ _ _ _ hw hP hS (lv_sub hl [1, 2, 3, 4, 5, 0] rfl)
        · have hw := hw.2 c_11
          refine lv_aload_n hx hb dX10_calls_65 rfl (lv_at hl 0 rfl) ?_
          refine gM_X10_own F hK hP (hts _ mw_440) dX10_calls_66 ?_
          refine lv_iload hx hb dX10_calls_69 (lv_at hl 5 rfl) ?_
          obtain ⟨i_10, hw⟩ := hw
          refine lM_X10_own F hK hP i_10 dX10_calls_71 ?_
          refine lv_bipush (v := 10) hx hb dX10_calls_72 (by decide) ?_
          refine lv_aload_n hx hb dX10_calls_74 rfl (lv_at hl 0 rfl) ?_
          refine gM_X10_own F hK hP (hts _ mw_440) dX10_calls_75 ?_
          refine lv_iload_n hx hb dX10_calls_78 rfl (lv_at hl 2 rfl) ?_
          obtain ⟨i_9, hw⟩ := hw
          refine lM_X10_own F hK hP i_9 dX10_calls_79 ?_
          refine lv_imul hx hb dX10_calls_80 ?_
          refine lv_iload hx hb dX10_calls_81 (lv_at hl 4 rfl) ?_
          refine lv_iadd hx hb dX10_calls_83 ?_
          refine lv_icmp_eq (tgt := 93) hx hb dX10_calls_84 (by decide) (fun c_8 => ?_) (fun c_8 => ?_)
          · have hw := hw.1 c_8
            exact lab_93 L30 hL30 _ _ _ _ _ _ _ _ _ hw hP hS (lv_sub hl [0, 1, 2, 3, 4, 5] rfl)
          · have hw := hw.2 c_8
            refine lv_iinc (v := (x5 + 1)) (lv' := [(5, .int (x5 + 1)), (0, .ref (ad 0)), (1, .int x1), (2, .int x2), (3, .int x3), (4, .int x4)]) hx hb dX10_calls_87 hl (k := 5) rfl rfl (by decide) rfl (fun ls hl => ?_)
            refine lv_goto (tgt := 44) hx hb dX10_calls_90 (by decide) ?_
            exact hL44 _ _ _ _ _ _ _ _ _ hw hP hS (lv_sub hl [1, 2, 3, 4, 5, 0] rfl)
  have lab_30 : ∀ (n : Nat), ∀ (σ : St) (x1 : Int32) (x2 : Int32) (x3 : Int32) (x4 : Int32) (H : Heap) (locs : List Loc) (ls : Array Slot), w_X10_calls_30 K n σ x1 x2 x3 x4 → va_P D vwCl ((wdM ad cI) σ) H → va_S (AW ad 40 s.heap.size) s.heap H locs → lv_has ls 6 [(0, .ref (ad 0)), (1, .int x1), (2, .int x2), (3, .int x3), (4, .int x4)] → W p l e (headSpec wU_X10_calls rm_X10_calls).room s m ([.ref (ad 0), .int a1] : List Value).toArray below meth c H locs 0 0 (MQ below (va_Qi (fun r u => zb r ∧ K r u) (inW D (wdM ad cI) [(cI, .int)]) (AW ad 40 s.heap.size)) ([.ref (ad 0), .int a1] : List Value).toArray s 0 0 (AW ad 40 s.heap.size)) (F0 m 30 ls []) := by
    intro n
    induction n with
    | zero =>
      intro σ x1 x2 x3 x4 H locs ls hw
      exact hw.elim
    | succ n hL30 =>
      intro σ x1 x2 x3 x4 H locs ls hw hP hS hl
      have hw : b_X10_calls_30 (w_X10_calls_30 K n) K σ x1 x2 x3 x4 := hw
      unfold b_X10_calls_30 at hw
      generalize w_X10_calls_30 K n = L30 at hw hL30
      refine lv_iload hx hb dX10_calls_30 (lv_at hl 4 rfl) ?_
      refine lv_aload_n hx hb dX10_calls_32 rfl (lv_at hl 0 rfl) ?_
      refine gM_X10_ports F hK hP (hts _ mw_441) dX10_calls_33 ?_
      refine lv_iload_n hx hb dX10_calls_36 rfl (lv_at hl 2 rfl) ?_
      obtain ⟨i_16, hw⟩ := hw
      refine lM_X10_ports F hK hP i_16 dX10_calls_37 ?_
      refine lv_icmp_ge (tgt := 154) hx hb dX10_calls_38 (by decide) (fun c_15 => ?_) (fun c_15 => ?_)
      · have hw := hw.1 c_15
        refine lv_iconst (v := 1) hx hb dX10_calls_154 (by decide) ?_
        exact rtZ F hr hlocks hK hw (Or.inr rfl) hP hS dX10_calls_155
      · have hw := hw.2 c_15
        refine lv_iconst (v := 0) hx hb dX10_calls_41 (by decide) ?_
        refine lv_istore (lv' := [(5, .int 0), (0, .ref (ad 0)), (1, .int x1), (2, .int x2), (3, .int x3), (4, .int x4)]) hx hb dX10_calls_42 hl (by decide) rfl (fun ls hl => ?_)
        obtain ⟨n_14, hw⟩ := hw
        exact lab_44 L30 hL30 n_14 _ _ _ _ _ _ _ _ _ hw hP hS (lv_sub hl [1, 2, 3, 4, 5, 0] rfl)
  have hl := lv_entry ([.ref (ad 0), .int a1]) (n := 6) (Nat.le_of_ble_eq_true rfl)
  rw [lg_entry_eq]
  generalize (lg_sl ([.ref (ad 0), .int a1]) ++ List.replicate (6 - (lg_sl ([.ref (ad 0), .int a1])).length) Slot.unset).toArray = ls at hl ⊢
  have hl : lv_has ls 6 [(0, .ref (ad 0)), (1, .int a1)] := hl
  have key : ∀ (H : Heap) (locs : List Loc), va_P D vwCl ((wdM ad cI) σ) H → va_S (AW ad 40 s.heap.size) s.heap H locs → W p l e (headSpec wU_X10_calls rm_X10_calls).room s m ([.ref (ad 0), .int a1] : List Value).toArray below meth c H locs 0 0 (MQ below (va_Qi (fun r u => zb r ∧ K r u) (inW D (wdM ad cI) [(cI, .int)]) (AW ad 40 s.heap.size)) ([.ref (ad 0), .int a1] : List Value).toArray s 0 0 (AW ad 40 s.heap.size)) (F0 m 0 ls []) := by
    intro H locs hP hS
    unfold w_X10_calls at hw
    refine lv_aload_n hx hb dX10_calls_0 rfl (lv_at hl 0 rfl) ?_
    refine gM_X10_pAct F hK hP (hts _ mw_472) dX10_calls_1 ?_
    refine lv_iload_n hx hb dX10_calls_4 rfl (lv_at hl 1 rfl) ?_
    obtain ⟨i_22, hw⟩ := hw
    refine lM_X10_pAct F hK hP i_22 dX10_calls_5 ?_
    refine lv_istore_n (lv' := [(2, .int (gA σ 14 (a1).toNatClampNeg)), (0, .ref (ad 0)), (1, .int a1)]) hx hb dX10_calls_6 rfl hl (by decide) rfl (fun ls hl => ?_)
    refine lv_aload_n hx hb dX10_calls_7 rfl (lv_at hl 1 rfl) ?_
    refine lv_iconst (v := 2) hx hb dX10_calls_8 (by decide) ?_
    refine lv_iload_n hx hb dX10_calls_9 rfl (lv_at hl 0 rfl) ?_
    refine lv_iconst (v := 0) hx hb dX10_calls_10 (by decide) ?_
    refine lv_aload_n hx hb dX10_calls_11 rfl (lv_at hl 1 rfl) ?_
    refine gM_X10_pColour F hK hP (hts _ mw_473) dX10_calls_12 ?_
    refine lv_iload_n hx hb dX10_calls_15 rfl (lv_at hl 2 rfl) ?_
    obtain ⟨i_21, hw⟩ := hw
    refine lM_X10_pColour F hK hP i_21 dX10_calls_16 ?_
    refine cvI (As := [.int 2, .int (gA σ 14 (a1).toNatClampNeg), .int 0, .int (gA σ 15 (a1).toNatClampNeg)]) (rest := []) F hK hP hS (c_X10_colour l D ad cI hap H.size _ _ _ _ _ _ hw) (cwV 4 hts gU_X10_224 rfl rfl rfl (by decide +kernel) ⟨Nat.le_of_ble_eq_true rfl, Nat.le_of_ble_eq_true rfl⟩) (va_recv hK hP (ci := 7) (q0 := 0) rfl rfl) rfl hl.1 rfl (Nat.le_of_ble_eq_true rfl) dX10_calls_17 ⟨Nat.zero_le _, Nat.zero_le _⟩ (fun r_18 u_17 H locs hw hP hS => ?_)
    refine lv_istore_n (lv' := [(3, .int r_18), (2, .int (gA σ 14 (a1).toNatClampNeg)), (0, .ref (ad 0)), (1, .int a1)]) hx hb dX10_calls_20 rfl hl (by decide) rfl (fun ls hl => ?_)
    refine lv_iload_n hx hb dX10_calls_21 rfl (lv_at hl 0 rfl) ?_
    refine lv_if_ge (tgt := 27) hx hb dX10_calls_22 (by decide) (fun c_20 => ?_) (fun c_20 => ?_)
    · have hw := hw.1 c_20
      refine lv_iconst (v := 0) hx hb dX10_calls_27 (by decide) ?_
      refine lv_istore (lv' := [(4, .int 0), (3, .int r_18), (2, .int (gA σ 14 (a1).toNatClampNeg)), (0, .ref (ad 0)), (1, .int a1)]) hx hb dX10_calls_28 hl (by decide) rfl (fun ls hl => ?_)
      obtain ⟨n_19, hw⟩ := hw
      exact lab_30 n_19 _ _ _ _ _ _ _ _ hw hP hS (lv_sub hl [3, 4, 2, 1, 0] rfl)
    · have hw := hw.2 c_20
      refine lv_iconst (v := 0) hx hb dX10_calls_25 (by decide) ?_
      exact rtZ F hr hlocks hK hw (Or.inl rfl) hP hS dX10_calls_26
  exact key s.heap [] hP hS

abbrev rm_X10_returns : Room := { frames := 4, cells := 0, slots := 0, locals := 99 }
set_option maxHeartbeats 4000000 in
set_option maxRecDepth 100000 in
theorem c_X10_returns (l : Launch) (D : va_G) (ad : Nat → Nat) (cI : ClassId) (hap : apart ad 40) (sz : Nat) (σ : St) (a1 : Int32) (K : Int32 → St → Prop) (hw : w_X10_returns σ a1 K) : Met l yX10_returns wU_X10_returns rm_X10_returns (va_Pc [.ref (ad 0), .int a1] (fun U => U.heap.size = sz ∧ inW D (wdM ad cI) [(cI, .int)] σ U)) (va_Qi (fun r u => zb r ∧ K r u) (inW D (wdM ad cI) [(cI, .int)]) (AW ad 40 sz)) 0 0 (AW ad 40 sz) := by
  refine Met.ofW (cc := cX10_returns) (maxL := 3) (ret := (some .boolean)) (by decide) rfl ?_
  intro p e s m args below meth c s₁ B hml hv
  obtain ⟨rfl, hsz, ⟨hP, hK⟩⟩ := hv
  have F : CallFix p m c cX10_returns 3 s ([.ref (ad 0), .int a1] : List Value).toArray lw_U RX10 := ⟨B.exec, B.bytes, hml, findClass_of_methodNamed B.named, fun w h => atoms_spec (ws := wU_X10_returns) B.pre w (List.mem_cons_of_mem _ h)⟩
  have hx := F.1
  have hb := F.2.1
  have hown := F.2.2.2.1
  have hts := F.2.2.2.2
  have hr := B.returns
  have hlocks := B.notSynchronized
  subst hsz
  have hDs : ∀ σ, va_D (AW ad 40 s.heap.size) ((wdM ad cI) σ) := fun σ => wdM_D hap σ
  have hS : va_S (AW ad 40 s.heap.size) s.heap s.heap [] := va_S.rf
  have hl := lv_entry ([.ref (ad 0), .int a1]) (n := 3) (Nat.le_of_ble_eq_true rfl)
  rw [lg_entry_eq]
  generalize (lg_sl ([.ref (ad 0), .int a1]) ++ List.replicate (3 - (lg_sl ([.ref (ad 0), .int a1])).length) Slot.unset).toArray = ls at hl ⊢
  have hl : lv_has ls 3 [(0, .ref (ad 0)), (1, .int a1)] := hl
  have key : ∀ (H : Heap) (locs : List Loc), va_P D vwCl ((wdM ad cI) σ) H → va_S (AW ad 40 s.heap.size) s.heap H locs → W p l e (headSpec wU_X10_returns rm_X10_returns).room s m ([.ref (ad 0), .int a1] : List Value).toArray below meth c H locs 0 0 (MQ below (va_Qi (fun r u => zb r ∧ K r u) (inW D (wdM ad cI) [(cI, .int)]) (AW ad 40 s.heap.size)) ([.ref (ad 0), .int a1] : List Value).toArray s 0 0 (AW ad 40 s.heap.size)) (F0 m 0 ls []) := by
    intro H locs hP hS
    unfold w_X10_returns at hw
    refine lv_aload_n hx hb dX10_returns_0 rfl (lv_at hl 0 rfl) ?_
    refine gM_X10_pColour F hK hP (hts _ mw_473) dX10_returns_1 ?_
    refine lv_iload_n hx hb dX10_returns_4 rfl (lv_at hl 1 rfl) ?_
    obtain ⟨i_10, hw⟩ := hw
    refine lM_X10_pColour F hK hP i_10 dX10_returns_5 ?_
    refine lv_istore_n (lv' := [(2, .int (gA σ 15 (a1).toNatClampNeg)), (0, .ref (ad 0)), (1, .int a1)]) hx hb dX10_returns_6 rfl hl (by decide) rfl (fun ls hl => ?_)
    refine lv_aload_n hx hb dX10_returns_7 rfl (lv_at hl 1 rfl) ?_
    refine gM_X10_cSort F hK hP (hts _ mw_463) dX10_returns_8 ?_
    refine lv_iload_n hx hb dX10_returns_11 rfl (lv_at hl 0 rfl) ?_
    obtain ⟨i_9, hw⟩ := hw
    refine lM_X10_cSort F hK hP i_9 dX10_returns_12 ?_
    refine lv_iconst (v := 2) hx hb dX10_returns_13 (by decide) ?_
    refine lv_icmp_eq (tgt := 29) hx hb dX10_returns_14 (by decide) (fun c_8 => ?_) (fun c_8 => ?_)
    · have hw := hw.1 c_8
      refine lv_aload_n hx hb dX10_returns_29 rfl (lv_at hl 1 rfl) ?_
      refine lv_aload_n hx hb dX10_returns_30 rfl (lv_at hl 1 rfl) ?_
      refine gM_X10_cOf F hK hP (hts _ mw_464) dX10_returns_31 ?_
      refine lv_iload_n hx hb dX10_returns_34 rfl (lv_at hl 0 rfl) ?_
      obtain ⟨i_7, hw⟩ := hw
      refine lM_X10_cOf F hK hP i_7 dX10_returns_35 ?_
      refine lv_iconst (v := 0) hx hb dX10_returns_36 (by decide) ?_
      refine lv_aload_n hx hb dX10_returns_37 rfl (lv_at hl 1 rfl) ?_
      refine gM_X10_cIn F hK hP (hts _ mw_466) dX10_returns_38 ?_
      refine lv_iload_n hx hb dX10_returns_41 rfl (lv_at hl 0 rfl) ?_
      obtain ⟨i_6, hw⟩ := hw
      refine lM_X10_cIn F hK hP i_6 dX10_returns_42 ?_
      refine lv_aload_n hx hb dX10_returns_43 rfl (lv_at hl 1 rfl) ?_
      refine gM_X10_pKind F hK hP (hts _ mw_482) dX10_returns_44 ?_
      refine lv_iconst (v := 3) hx hb dX10_returns_47 (by decide) ?_
      refine lv_iload_n hx hb dX10_returns_48 rfl (lv_at hl 2 rfl) ?_
      refine lv_imul hx hb dX10_returns_49 ?_
      obtain ⟨i_5, hw⟩ := hw
      refine lM_X10_pKind F hK hP i_5 dX10_returns_50 ?_
      refine lv_aload_n hx hb dX10_returns_51 rfl (lv_at hl 1 rfl) ?_
      refine gM_X10_pValue F hK hP (hts _ mw_483) dX10_returns_52 ?_
      refine lv_iconst (v := 3) hx hb dX10_returns_55 (by decide) ?_
      refine lv_iload_n hx hb dX10_returns_56 rfl (lv_at hl 2 rfl) ?_
      refine lv_imul hx hb dX10_returns_57 ?_
      obtain ⟨i_4, hw⟩ := hw
      refine lM_X10_pValue F hK hP i_4 dX10_returns_58 ?_
      refine lv_aload_n hx hb dX10_returns_59 rfl (lv_at hl 1 rfl) ?_
      refine gM_X10_pOf F hK hP (hts _ mw_484) dX10_returns_60 ?_
      refine lv_iconst (v := 3) hx hb dX10_returns_63 (by decide) ?_
      refine lv_iload_n hx hb dX10_returns_64 rfl (lv_at hl 2 rfl) ?_
      refine lv_imul hx hb dX10_returns_65 ?_
      obtain ⟨i_3, hw⟩ := hw
      refine lM_X10_pOf F hK hP i_3 dX10_returns_66 ?_
      refine cvI (As := [.int (gA σ 11 ((gA σ 15 (a1).toNatClampNeg)).toNatClampNeg), .int 0, .int (gA σ 13 ((gA σ 15 (a1).toNatClampNeg)).toNatClampNeg), .int (gA σ 19 ((3 * a1)).toNatClampNeg), .int (gA σ 20 ((3 * a1)).toNatClampNeg), .int (gA σ 21 ((3 * a1)).toNatClampNeg)]) (rest := []) F hK hP hS (c_X10_gives l D ad cI hap H.size _ _ _ _ _ _ _ _ hw) (cwV 6 hts gU_X10_182 rfl rfl rfl (by decide +kernel) ⟨Nat.le_of_ble_eq_true rfl, Nat.le_of_ble_eq_true rfl⟩) (va_recv hK hP (ci := 7) (q0 := 0) rfl rfl) rfl hl.1 rfl (Nat.le_of_ble_eq_true rfl) dX10_returns_67 ⟨Nat.zero_le _, Nat.zero_le _⟩ (fun r_2 u_1 H locs hw hP hS => ?_)
      obtain ⟨zr_2, hw⟩ := hw
      exact rtZ F hr hlocks hK hw zr_2 hP hS dX10_returns_70
    · have hw := hw.2 c_8
      refine lv_aload_n hx hb dX10_returns_17 rfl (lv_at hl 1 rfl) ?_
      refine lv_dup hx hb dX10_returns_18 rfl ?_
      refine gM_X10_lost F hK hP (hts _ mw_507) dX10_returns_19 ?_
      refine lv_iconst (v := 1) hx hb dX10_returns_22 (by decide) ?_
      refine lv_iadd hx hb dX10_returns_23 ?_
      refine pM_X10_lost F hK hP hDs hS (hts _ mw_507) dX10_returns_24 (fun H locs hP hS => ?_)
      refine lv_iconst (v := 1) hx hb dX10_returns_27 (by decide) ?_
      exact rtZ F hr hlocks hK hw (Or.inr rfl) hP hS dX10_returns_28
  exact key s.heap [] hP hS

abbrev rm_X10_ends : Room := { frames := 1, cells := 0, slots := 0, locals := 22 }
set_option maxHeartbeats 4000000 in
set_option maxRecDepth 100000 in
theorem c_X10_ends (l : Launch) (D : va_G) (ad : Nat → Nat) (cI : ClassId) (hap : apart ad 40) (sz : Nat) (σ : St) (a1 : Int32) (K : Int32 → St → Prop) (hw : w_X10_ends σ a1 K) : Met l yX10_ends wU_X10_ends rm_X10_ends (va_Pc [.ref (ad 0), .int a1] (fun U => U.heap.size = sz ∧ inW D (wdM ad cI) [(cI, .int)] σ U)) (va_Qi (fun r u => zb r ∧ K r u) (inW D (wdM ad cI) [(cI, .int)]) (AW ad 40 sz)) 0 0 (AW ad 40 sz) := by
  refine Met.ofW (cc := cX10_ends) (maxL := 3) (ret := (some .boolean)) (by decide) rfl ?_
  intro p e s m args below meth c s₁ B hml hv
  obtain ⟨rfl, hsz, ⟨hP, hK⟩⟩ := hv
  have F : CallFix p m c cX10_ends 3 s ([.ref (ad 0), .int a1] : List Value).toArray lw_U RX10 := ⟨B.exec, B.bytes, hml, findClass_of_methodNamed B.named, fun w h => atoms_spec (ws := wU_X10_ends) B.pre w (List.mem_cons_of_mem _ h)⟩
  have hx := F.1
  have hb := F.2.1
  have hown := F.2.2.2.1
  have hts := F.2.2.2.2
  have hr := B.returns
  have hlocks := B.notSynchronized
  subst hsz
  have hDs : ∀ σ, va_D (AW ad 40 s.heap.size) ((wdM ad cI) σ) := fun σ => wdM_D hap σ
  have hS : va_S (AW ad 40 s.heap.size) s.heap s.heap [] := va_S.rf
  have hl := lv_entry ([.ref (ad 0), .int a1]) (n := 3) (Nat.le_of_ble_eq_true rfl)
  rw [lg_entry_eq]
  generalize (lg_sl ([.ref (ad 0), .int a1]) ++ List.replicate (3 - (lg_sl ([.ref (ad 0), .int a1])).length) Slot.unset).toArray = ls at hl ⊢
  have hl : lv_has ls 3 [(0, .ref (ad 0)), (1, .int a1)] := hl
  have key : ∀ (H : Heap) (locs : List Loc), va_P D vwCl ((wdM ad cI) σ) H → va_S (AW ad 40 s.heap.size) s.heap H locs → W p l e (headSpec wU_X10_ends rm_X10_ends).room s m ([.ref (ad 0), .int a1] : List Value).toArray below meth c H locs 0 0 (MQ below (va_Qi (fun r u => zb r ∧ K r u) (inW D (wdM ad cI) [(cI, .int)]) (AW ad 40 s.heap.size)) ([.ref (ad 0), .int a1] : List Value).toArray s 0 0 (AW ad 40 s.heap.size)) (F0 m 0 ls []) := by
    intro H locs hP hS
    unfold w_X10_ends at hw
    refine lv_aload_n hx hb dX10_ends_0 rfl (lv_at hl 0 rfl) ?_
    refine gM_X10_own F hK hP (hts _ mw_440) dX10_ends_1 ?_
    refine lv_aload_n hx hb dX10_ends_4 rfl (lv_at hl 0 rfl) ?_
    refine gM_X10_pAct F hK hP (hts _ mw_472) dX10_ends_5 ?_
    refine lv_iload_n hx hb dX10_ends_8 rfl (lv_at hl 1 rfl) ?_
    obtain ⟨i_15, hw⟩ := hw
    refine lM_X10_pAct F hK hP i_15 dX10_ends_9 ?_
    obtain ⟨i_14, hw⟩ := hw
    refine lM_X10_own F hK hP i_14 dX10_ends_10 ?_
    refine lv_istore_n (lv' := [(2, .int (gA σ 1 ((gA σ 14 (a1).toNatClampNeg)).toNatClampNeg)), (0, .ref (ad 0)), (1, .int a1)]) hx hb dX10_ends_11 rfl hl (by decide) rfl (fun ls hl => ?_)
    refine lv_aload_n hx hb dX10_ends_12 rfl (lv_at hl 1 rfl) ?_
    refine gM_X10_pColour F hK hP (hts _ mw_473) dX10_ends_13 ?_
    refine lv_iload_n hx hb dX10_ends_16 rfl (lv_at hl 2 rfl) ?_
    obtain ⟨i_13, hw⟩ := hw
    refine lM_X10_pColour F hK hP i_13 dX10_ends_17 ?_
    refine lv_if_eq (tgt := 33) hx hb dX10_ends_18 (by decide) (fun c_12 => ?_) (fun c_12 => ?_)
    · have hw := hw.1 c_12
      refine lv_aload_n hx hb dX10_ends_33 rfl (lv_at hl 1 rfl) ?_
      refine gM_X10_endKind F hK hP (hts _ mw_516) dX10_ends_34 ?_
      refine lv_iload_n hx hb dX10_ends_37 rfl (lv_at hl 0 rfl) ?_
      obtain ⟨i_11, hw⟩ := hw
      refine lM_X10_endKind F hK hP i_11 dX10_ends_38 ?_
      refine lv_if_le (tgt := 54) hx hb dX10_ends_39 (by decide) (fun c_10 => ?_) (fun c_10 => ?_)
      · have hw := hw.1 c_10
        refine lv_aload_n hx hb dX10_ends_54 rfl (lv_at hl 1 rfl) ?_
        refine gM_X10_endKind F hK hP (hts _ mw_516) dX10_ends_55 ?_
        refine lv_iload_n hx hb dX10_ends_58 rfl (lv_at hl 0 rfl) ?_
        refine lv_aload_n hx hb dX10_ends_59 rfl (lv_at hl 1 rfl) ?_
        refine gM_X10_pKind F hK hP (hts _ mw_482) dX10_ends_60 ?_
        refine lv_iconst (v := 3) hx hb dX10_ends_63 (by decide) ?_
        refine lv_iload_n hx hb dX10_ends_64 rfl (lv_at hl 2 rfl) ?_
        refine lv_imul hx hb dX10_ends_65 ?_
        obtain ⟨i_6, hw⟩ := hw
        refine lM_X10_pKind F hK hP i_6 dX10_ends_66 ?_
        obtain ⟨i_5, hw⟩ := hw
        refine sM_X10_endKind F hK hP hDs hS i_5 dX10_ends_67 (fun H locs hP hS => ?_)
        refine lv_aload_n hx hb dX10_ends_68 rfl (lv_at hl 1 rfl) ?_
        refine gM_X10_endValue F hK hP (hts _ mw_517) dX10_ends_69 ?_
        refine lv_iload_n hx hb dX10_ends_72 rfl (lv_at hl 0 rfl) ?_
        refine lv_aload_n hx hb dX10_ends_73 rfl (lv_at hl 1 rfl) ?_
        refine gM_X10_pValue F hK hP (hts _ mw_483) dX10_ends_74 ?_
        refine lv_iconst (v := 3) hx hb dX10_ends_77 (by decide) ?_
        refine lv_iload_n hx hb dX10_ends_78 rfl (lv_at hl 2 rfl) ?_
        refine lv_imul hx hb dX10_ends_79 ?_
        obtain ⟨i_4, hw⟩ := hw
        refine lM_X10_pValue F hK hP i_4 dX10_ends_80 ?_
        refine jvi (y := (gA σ 20 ((3 * a1)).toNatClampNeg)) (by simp only [gS_sS, gS_sA, gS_sL, gS_fA, gS_fL, gA_sS, gA_sA, gA_sL, gA_fA, gA_fL, gL_sS, gL_sA, gL_sL, gL_fA, gL_fL, reduceIte, Nat.reduceEqDiff]) ?_
        obtain ⟨i_3, hw⟩ := hw
        refine sM_X10_endValue F hK hP hDs hS i_3 dX10_ends_81 (fun H locs hP hS => ?_)
        refine lv_aload_n hx hb dX10_ends_82 rfl (lv_at hl 1 rfl) ?_
        refine gM_X10_endOf F hK hP (hts _ mw_518) dX10_ends_83 ?_
        refine lv_iload_n hx hb dX10_ends_86 rfl (lv_at hl 0 rfl) ?_
        refine lv_aload_n hx hb dX10_ends_87 rfl (lv_at hl 1 rfl) ?_
        refine gM_X10_pOf F hK hP (hts _ mw_484) dX10_ends_88 ?_
        refine lv_iconst (v := 3) hx hb dX10_ends_91 (by decide) ?_
        refine lv_iload_n hx hb dX10_ends_92 rfl (lv_at hl 2 rfl) ?_
        refine lv_imul hx hb dX10_ends_93 ?_
        obtain ⟨i_2, hw⟩ := hw
        refine lM_X10_pOf F hK hP i_2 dX10_ends_94 ?_
        refine jvi (y := (gA σ 21 ((3 * a1)).toNatClampNeg)) (by simp only [gS_sS, gS_sA, gS_sL, gS_fA, gS_fL, gA_sS, gA_sA, gA_sL, gA_fA, gA_fL, gL_sS, gL_sA, gL_sL, gL_fA, gL_fL, reduceIte, Nat.reduceEqDiff]) ?_
        obtain ⟨i_1, hw⟩ := hw
        refine sM_X10_endOf F hK hP hDs hS i_1 dX10_ends_95 (fun H locs hP hS => ?_)
        refine lv_iconst (v := 1) hx hb dX10_ends_96 (by decide) ?_
        exact rtZ F hr hlocks hK hw (Or.inr rfl) hP hS dX10_ends_97
      · have hw := hw.2 c_10
        refine lv_aload_n hx hb dX10_ends_42 rfl (lv_at hl 1 rfl) ?_
        refine lv_iconst (v := 1) hx hb dX10_ends_43 (by decide) ?_
        refine lv_aload_n hx hb dX10_ends_44 rfl (lv_at hl 1 rfl) ?_
        refine gM_X10_pAct F hK hP (hts _ mw_472) dX10_ends_45 ?_
        refine lv_iload_n hx hb dX10_ends_48 rfl (lv_at hl 2 rfl) ?_
        obtain ⟨i_9, hw⟩ := hw
        refine lM_X10_pAct F hK hP i_9 dX10_ends_49 ?_
        refine cvI (As := [.int 1, .int (gA σ 14 (a1).toNatClampNeg)]) (rest := []) F hK hP hS (c_X10_stops l D ad cI hap H.size _ _ _ _ hw) (cwV 2 hts gU_X10_165 rfl rfl rfl (by decide +kernel) ⟨Nat.le_of_ble_eq_true rfl, Nat.le_of_ble_eq_true rfl⟩) (va_recv hK hP (ci := 7) (q0 := 0) rfl rfl) rfl hl.1 rfl (Nat.le_of_ble_eq_true rfl) dX10_ends_50 ⟨Nat.zero_le _, Nat.zero_le _⟩ (fun r_8 u_7 H locs hw hP hS => ?_)
        obtain ⟨zr_8, hw⟩ := hw
        exact rtZ F hr hlocks hK hw zr_8 hP hS dX10_ends_53
    · have hw := hw.2 c_12
      refine lv_aload_n hx hb dX10_ends_21 rfl (lv_at hl 1 rfl) ?_
      refine lv_dup hx hb dX10_ends_22 rfl ?_
      refine gM_X10_strays F hK hP (hts _ mw_519) dX10_ends_23 ?_
      refine lv_iconst (v := 1) hx hb dX10_ends_26 (by decide) ?_
      refine lv_iadd hx hb dX10_ends_27 ?_
      refine pM_X10_strays F hK hP hDs hS (hts _ mw_519) dX10_ends_28 (fun H locs hP hS => ?_)
      refine lv_iconst (v := 1) hx hb dX10_ends_31 (by decide) ?_
      exact rtZ F hr hlocks hK hw (Or.inr rfl) hP hS dX10_ends_32
  exact key s.heap [] hP hS

abbrev rm_X10_makes : Room := { frames := 5, cells := 0, slots := 0, locals := 122 }
set_option maxHeartbeats 4000000 in
set_option maxRecDepth 100000 in
theorem c_X10_makes (l : Launch) (D : va_G) (ad : Nat → Nat) (cI : ClassId) (hap : apart ad 40) (sz : Nat) (σ : St) (a1 : Int32) (a2 : Int32) (K : Int32 → St → Prop) (hw : w_X10_makes σ a1 a2 K) : Met l yX10_makes wU_X10_makes rm_X10_makes (va_Pc [.ref (ad 0), .int a1, .int a2] (fun U => U.heap.size = sz ∧ inW D (wdM ad cI) [(cI, .int)] σ U)) (va_Qi (fun r u => zb r ∧ K r u) (inW D (wdM ad cI) [(cI, .int)]) (AW ad 40 sz)) 0 0 (AW ad 40 sz) := by
  refine Met.ofW (cc := cX10_makes) (maxL := 4) (ret := (some .boolean)) (by decide) rfl ?_
  intro p e s m args below meth c s₁ B hml hv
  obtain ⟨rfl, hsz, ⟨hP, hK⟩⟩ := hv
  have F : CallFix p m c cX10_makes 4 s ([.ref (ad 0), .int a1, .int a2] : List Value).toArray lw_U RX10 := ⟨B.exec, B.bytes, hml, findClass_of_methodNamed B.named, fun w h => atoms_spec (ws := wU_X10_makes) B.pre w (List.mem_cons_of_mem _ h)⟩
  have hx := F.1
  have hb := F.2.1
  have hown := F.2.2.2.1
  have hts := F.2.2.2.2
  have hr := B.returns
  have hlocks := B.notSynchronized
  subst hsz
  have hDs : ∀ σ, va_D (AW ad 40 s.heap.size) ((wdM ad cI) σ) := fun σ => wdM_D hap σ
  have hS : va_S (AW ad 40 s.heap.size) s.heap s.heap [] := va_S.rf
  have lab_113 : ∀ (n : Nat), ∀ (σ : St) (x1 : Int32) (x2 : Int32) (x3 : Int32) (H : Heap) (locs : List Loc) (ls : Array Slot), w_X10_makes_113 K n σ x1 x2 x3 → va_P D vwCl ((wdM ad cI) σ) H → va_S (AW ad 40 s.heap.size) s.heap H locs → lv_has ls 4 [(0, .ref (ad 0)), (1, .int x1), (2, .int x2), (3, .int x3)] → W p l e (headSpec wU_X10_makes rm_X10_makes).room s m ([.ref (ad 0), .int a1, .int a2] : List Value).toArray below meth c H locs 0 0 (MQ below (va_Qi (fun r u => zb r ∧ K r u) (inW D (wdM ad cI) [(cI, .int)]) (AW ad 40 s.heap.size)) ([.ref (ad 0), .int a1, .int a2] : List Value).toArray s 0 0 (AW ad 40 s.heap.size)) (F0 m 113 ls []) := by
    intro n
    induction n with
    | zero =>
      intro σ x1 x2 x3 H locs ls hw
      exact hw.elim
    | succ n hL113 =>
      intro σ x1 x2 x3 H locs ls hw hP hS hl
      have hw : b_X10_makes_113 (w_X10_makes_113 K n) K σ x1 x2 x3 := hw
      unfold b_X10_makes_113 at hw
      generalize w_X10_makes_113 K n = L113 at hw hL113
      refine lv_iload_n hx hb dX10_makes_113 rfl (lv_at hl 3 rfl) ?_
      refine lv_iload_n hx hb dX10_makes_114 rfl (lv_at hl 2 rfl) ?_
      refine lv_icmp_ge (tgt := 136) hx hb dX10_makes_115 (by decide) (fun c_6 => ?_) (fun c_6 => ?_)
      · have hw := hw.1 c_6
        refine lv_aload_n hx hb dX10_makes_136 rfl (lv_at hl 0 rfl) ?_
        refine lv_dup hx hb dX10_makes_137 rfl ?_
        refine gM_X10_cells F hK hP (hts _ mw_520) dX10_makes_138 ?_
        refine lv_iload_n hx hb dX10_makes_141 rfl (lv_at hl 2 rfl) ?_
        refine lv_iadd hx hb dX10_makes_142 ?_
        refine pM_X10_cells F hK hP hDs hS (hts _ mw_520) dX10_makes_143 (fun H locs hP hS => ?_)
        refine lv_aload_n hx hb dX10_makes_146 rfl (lv_at hl 0 rfl) ?_
        refine lv_dup hx hb dX10_makes_147 rfl ?_
        refine gM_X10_rows F hK hP (hts _ mw_521) dX10_makes_148 ?_
        refine jvi (y := (gS σ 15)) (by simp only [gS_sS, gS_sA, gS_sL, gS_fA, gS_fL, gA_sS, gA_sA, gA_sL, gA_fA, gA_fL, gL_sS, gL_sA, gL_sL, gL_fA, gL_fL, reduceIte, Nat.reduceEqDiff]) ?_
        refine lv_iconst (v := 1) hx hb dX10_makes_151 (by decide) ?_
        refine lv_iadd hx hb dX10_makes_152 ?_
        refine pM_X10_rows F hK hP hDs hS (hts _ mw_521) dX10_makes_153 (fun H locs hP hS => ?_)
        refine lv_aload_n hx hb dX10_makes_156 rfl (lv_at hl 0 rfl) ?_
        refine lv_aload_n hx hb dX10_makes_157 rfl (lv_at hl 0 rfl) ?_
        refine gM_X10_pAct F hK hP (hts _ mw_472) dX10_makes_158 ?_
        refine lv_iload_n hx hb dX10_makes_161 rfl (lv_at hl 1 rfl) ?_
        obtain ⟨i_4, hw⟩ := hw
        refine lM_X10_pAct F hK hP i_4 dX10_makes_162 ?_
        refine jvi (y := (gA σ 14 (x1).toNatClampNeg)) (by simp only [gS_sS, gS_sA, gS_sL, gS_fA, gS_fL, gA_sS, gA_sA, gA_sL, gA_fA, gA_fL, gL_sS, gL_sA, gL_sL, gL_fA, gL_fL, reduceIte, Nat.reduceEqDiff]) ?_
        refine lv_iconst (v := 0) hx hb dX10_makes_163 (by decide) ?_
        refine lv_aload_n hx hb dX10_makes_164 rfl (lv_at hl 0 rfl) ?_
        refine gM_X10_pColour F hK hP (hts _ mw_473) dX10_makes_165 ?_
        refine lv_iload_n hx hb dX10_makes_168 rfl (lv_at hl 1 rfl) ?_
        obtain ⟨i_3, hw⟩ := hw
        refine lM_X10_pColour F hK hP i_3 dX10_makes_169 ?_
        refine jvi (y := (gA σ 15 (x1).toNatClampNeg)) (by simp only [gS_sS, gS_sA, gS_sL, gS_fA, gS_fL, gA_sS, gA_sA, gA_sL, gA_fA, gA_fL, gL_sS, gL_sA, gL_sL, gL_fA, gL_fL, reduceIte, Nat.reduceEqDiff]) ?_
        refine lv_iconst (v := 2) hx hb dX10_makes_170 (by decide) ?_
        refine lv_aload_n hx hb dX10_makes_171 rfl (lv_at hl 0 rfl) ?_
        refine gM_X10_rows F hK hP (hts _ mw_521) dX10_makes_172 ?_
        refine jvi (y := ((gS σ 15) + 1)) (by simp only [gS_sS, gS_sA, gS_sL, gS_fA, gS_fL, gA_sS, gA_sA, gA_sL, gA_fA, gA_fL, gL_sS, gL_sA, gL_sL, gL_fA, gL_fL, reduceIte, Nat.reduceEqDiff]) ?_
        refine lv_iconst (v := 1) hx hb dX10_makes_175 (by decide) ?_
        refine lv_isub hx hb dX10_makes_176 ?_
        refine lv_iconst (v := (-1)) hx hb dX10_makes_177 (by decide) ?_
        refine cvI (As := [.int (gA σ 14 (x1).toNatClampNeg), .int 0, .int (gA σ 15 (x1).toNatClampNeg), .int 2, .int (((gS σ 15) + 1) - 1), .int (-1)]) (rest := []) F hK hP hS (c_X10_gives l D ad cI hap H.size _ _ _ _ _ _ _ _ hw) (cwV 6 hts gU_X10_182 rfl rfl rfl (by decide +kernel) ⟨Nat.le_of_ble_eq_true rfl, Nat.le_of_ble_eq_true rfl⟩) (va_recv hK hP (ci := 7) (q0 := 0) rfl rfl) rfl hl.1 rfl (Nat.le_of_ble_eq_true rfl) dX10_makes_178 ⟨Nat.zero_le _, Nat.zero_le _⟩ (fun r_2 u_1 H locs hw hP hS => ?_)
        obtain ⟨zr_2, hw⟩ := hw
        exact rtZ F hr hlocks hK hw zr_2 hP hS dX10_makes_181
      · have hw := hw.2 c_6
        refine lv_aload_n hx hb dX10_makes_118 rfl (lv_at hl 0 rfl) ?_
        refine gM_X10_cellKind F hK hP (hts _ mw_522) dX10_makes_119 ?_
        refine lv_aload_n hx hb dX10_makes_122 rfl (lv_at hl 0 rfl) ?_
        refine gM_X10_cells F hK hP (hts _ mw_520) dX10_makes_123 ?_
        refine lv_iload_n hx hb dX10_makes_126 rfl (lv_at hl 3 rfl) ?_
        refine lv_iadd hx hb dX10_makes_127 ?_
        refine lv_iconst (v := 0) hx hb dX10_makes_128 (by decide) ?_
        obtain ⟨i_5, hw⟩ := hw
        refine sM_X10_cellKind F hK hP hDs hS i_5 dX10_makes_129 (fun H locs hP hS => ?_)
        refine lv_iinc (v := (x3 + 1)) (lv' := [(3, .int (x3 + 1)), (0, .ref (ad 0)), (1, .int x1), (2, .int x2)]) hx hb dX10_makes_130 hl (k := 3) rfl rfl (by decide) rfl (fun ls hl => ?_)
        refine lv_goto (tgt := 113) hx hb dX10_makes_133 (by decide) ?_
        exact hL113 _ _ _ _ _ _ _ hw hP hS (lv_sub hl [1, 2, 3, 0] rfl)
  have hl := lv_entry ([.ref (ad 0), .int a1, .int a2]) (n := 4) (Nat.le_of_ble_eq_true rfl)
  rw [lg_entry_eq]
  generalize (lg_sl ([.ref (ad 0), .int a1, .int a2]) ++ List.replicate (4 - (lg_sl ([.ref (ad 0), .int a1, .int a2])).length) Slot.unset).toArray = ls at hl ⊢
  have hl : lv_has ls 4 [(0, .ref (ad 0)), (1, .int a1), (2, .int a2)] := hl
  have key : ∀ (H : Heap) (locs : List Loc), va_P D vwCl ((wdM ad cI) σ) H → va_S (AW ad 40 s.heap.size) s.heap H locs → W p l e (headSpec wU_X10_makes rm_X10_makes).room s m ([.ref (ad 0), .int a1, .int a2] : List Value).toArray below meth c H locs 0 0 (MQ below (va_Qi (fun r u => zb r ∧ K r u) (inW D (wdM ad cI) [(cI, .int)]) (AW ad 40 s.heap.size)) ([.ref (ad 0), .int a1, .int a2] : List Value).toArray s 0 0 (AW ad 40 s.heap.size)) (F0 m 0 ls []) := by
    intro H locs hP hS
    unfold w_X10_makes at hw
    refine lv_iload_n hx hb dX10_makes_0 rfl (lv_at hl 2 rfl) ?_
    refine lv_iconst (v := 0) hx hb dX10_makes_1 (by decide) ?_
    refine lv_sipush (v := 200) hx hb dX10_makes_2 (by decide) ?_
    refine csI (As := [.int a2, .int 0, .int 200]) (rest := []) F hK hP hS (c_X10_in l D ad cI hap H.size _ _ _ _ _ hw) (va_cwS 3 hts gU_X10_131 rfl rfl rfl (by decide +kernel) ⟨Nat.le_of_ble_eq_true rfl, Nat.le_of_ble_eq_true rfl⟩) rfl hl.1 rfl (Nat.le_of_ble_eq_true rfl) dX10_makes_5 ⟨Nat.zero_le _, Nat.zero_le _⟩ (fun r_8 u_7 H locs hw hP hS => ?_)
    obtain ⟨zr_8, hw⟩ := hw
    refine lv_if_ne (tgt := 29) hx hb dX10_makes_8 (by decide) (fun c_26 => ?_) (fun c_26 => ?_)
    · have hw := hw.1 c_26
      refine lv_aload_n hx hb dX10_makes_29 rfl (lv_at hl 0 rfl) ?_
      refine gM_X10_rows F hK hP (hts _ mw_521) dX10_makes_30 ?_
      refine lv_sipush (v := 300) hx hb dX10_makes_33 (by decide) ?_
      refine lv_icmp_eq (tgt := 51) hx hb dX10_makes_36 (by decide) (fun c_21 => ?_) (fun c_21 => ?_)
      · have hw := hw.1 c_21
        refine lv_aload_n hx hb dX10_makes_51 rfl (lv_at hl 0 rfl) ?_
        refine lv_iconst (v := 2) hx hb dX10_makes_52 (by decide) ?_
        refine lv_iconst (v := (-1)) hx hb dX10_makes_53 (by decide) ?_
        refine cvI (As := [.int 2, .int (-1)]) (rest := []) F hK hP hS (c_X10_stops l D ad cI hap H.size _ _ _ _ hw) (cwV 2 hts gU_X10_165 rfl rfl rfl (by decide +kernel) ⟨Nat.le_of_ble_eq_true rfl, Nat.le_of_ble_eq_true rfl⟩) (va_recv hK hP (ci := 7) (q0 := 0) rfl rfl) rfl hl.1 rfl (Nat.le_of_ble_eq_true rfl) dX10_makes_54 ⟨Nat.zero_le _, Nat.zero_le _⟩ (fun r_10 u_9 H locs hw hP hS => ?_)
        obtain ⟨zr_10, hw⟩ := hw
        exact rtZ F hr hlocks hK hw zr_10 hP hS dX10_makes_57
      · have hw := hw.2 c_21
        refine lv_aload_n hx hb dX10_makes_39 rfl (lv_at hl 0 rfl) ?_
        refine gM_X10_cells F hK hP (hts _ mw_520) dX10_makes_40 ?_
        refine lv_iload_n hx hb dX10_makes_43 rfl (lv_at hl 2 rfl) ?_
        refine lv_iadd hx hb dX10_makes_44 ?_
        refine lv_sipush (v := 2000) hx hb dX10_makes_45 (by decide) ?_
        refine lv_icmp_le (tgt := 58) hx hb dX10_makes_48 (by decide) (fun c_20 => ?_) (fun c_20 => ?_)
        · have hw := hw.1 c_20
          refine lv_aload_n hx hb dX10_makes_58 rfl (lv_at hl 0 rfl) ?_
          refine gM_X10_rFrom F hK hP (hts _ mw_523) dX10_makes_59 ?_
          refine lv_aload_n hx hb dX10_makes_62 rfl (lv_at hl 0 rfl) ?_
          refine gM_X10_rows F hK hP (hts _ mw_521) dX10_makes_63 ?_
          refine lv_aload_n hx hb dX10_makes_66 rfl (lv_at hl 0 rfl) ?_
          refine gM_X10_cells F hK hP (hts _ mw_520) dX10_makes_67 ?_
          obtain ⟨i_17, hw⟩ := hw
          refine sM_X10_rFrom F hK hP hDs hS i_17 dX10_makes_70 (fun H locs hP hS => ?_)
          refine lv_aload_n hx hb dX10_makes_71 rfl (lv_at hl 0 rfl) ?_
          refine gM_X10_rSize F hK hP (hts _ mw_524) dX10_makes_72 ?_
          refine lv_aload_n hx hb dX10_makes_75 rfl (lv_at hl 0 rfl) ?_
          refine gM_X10_rows F hK hP (hts _ mw_521) dX10_makes_76 ?_
          refine jvi (y := (gS u_7 15)) (by simp only [gS_sS, gS_sA, gS_sL, gS_fA, gS_fL, gA_sS, gA_sA, gA_sL, gA_fA, gA_fL, gL_sS, gL_sA, gL_sL, gL_fA, gL_fL, reduceIte, Nat.reduceEqDiff]) ?_
          refine lv_iload_n hx hb dX10_makes_79 rfl (lv_at hl 2 rfl) ?_
          obtain ⟨i_16, hw⟩ := hw
          refine sM_X10_rSize F hK hP hDs hS i_16 dX10_makes_80 (fun H locs hP hS => ?_)
          refine lv_aload_n hx hb dX10_makes_81 rfl (lv_at hl 0 rfl) ?_
          refine gM_X10_rAct F hK hP (hts _ mw_525) dX10_makes_82 ?_
          refine lv_aload_n hx hb dX10_makes_85 rfl (lv_at hl 0 rfl) ?_
          refine gM_X10_rows F hK hP (hts _ mw_521) dX10_makes_86 ?_
          refine jvi (y := (gS u_7 15)) (by simp only [gS_sS, gS_sA, gS_sL, gS_fA, gS_fL, gA_sS, gA_sA, gA_sL, gA_fA, gA_fL, gL_sS, gL_sA, gL_sL, gL_fA, gL_fL, reduceIte, Nat.reduceEqDiff]) ?_
          refine lv_aload_n hx hb dX10_makes_89 rfl (lv_at hl 0 rfl) ?_
          refine gM_X10_pAct F hK hP (hts _ mw_472) dX10_makes_90 ?_
          refine lv_iload_n hx hb dX10_makes_93 rfl (lv_at hl 1 rfl) ?_
          obtain ⟨i_15, hw⟩ := hw
          refine lM_X10_pAct F hK hP i_15 dX10_makes_94 ?_
          refine jvi (y := (gA u_7 14 (a1).toNatClampNeg)) (by simp only [gS_sS, gS_sA, gS_sL, gS_fA, gS_fL, gA_sS, gA_sA, gA_sL, gA_fA, gA_fL, gL_sS, gL_sA, gL_sL, gL_fA, gL_fL, reduceIte, Nat.reduceEqDiff]) ?_
          obtain ⟨i_14, hw⟩ := hw
          refine sM_X10_rAct F hK hP hDs hS i_14 dX10_makes_95 (fun H locs hP hS => ?_)
          refine lv_aload_n hx hb dX10_makes_96 rfl (lv_at hl 0 rfl) ?_
          refine gM_X10_rColour F hK hP (hts _ mw_526) dX10_makes_97 ?_
          refine lv_aload_n hx hb dX10_makes_100 rfl (lv_at hl 0 rfl) ?_
          refine gM_X10_rows F hK hP (hts _ mw_521) dX10_makes_101 ?_
          refine jvi (y := (gS u_7 15)) (by simp only [gS_sS, gS_sA, gS_sL, gS_fA, gS_fL, gA_sS, gA_sA, gA_sL, gA_fA, gA_fL, gL_sS, gL_sA, gL_sL, gL_fA, gL_fL, reduceIte, Nat.reduceEqDiff]) ?_
          refine lv_aload_n hx hb dX10_makes_104 rfl (lv_at hl 0 rfl) ?_
          refine gM_X10_pColour F hK hP (hts _ mw_473) dX10_makes_105 ?_
          refine lv_iload_n hx hb dX10_makes_108 rfl (lv_at hl 1 rfl) ?_
          obtain ⟨i_13, hw⟩ := hw
          refine lM_X10_pColour F hK hP i_13 dX10_makes_109 ?_
          refine jvi (y := (gA u_7 15 (a1).toNatClampNeg)) (by simp only [gS_sS, gS_sA, gS_sL, gS_fA, gS_fL, gA_sS, gA_sA, gA_sL, gA_fA, gA_fL, gL_sS, gL_sA, gL_sL, gL_fA, gL_fL, reduceIte, Nat.reduceEqDiff]) ?_
          obtain ⟨i_12, hw⟩ := hw
          refine sM_X10_rColour F hK hP hDs hS i_12 dX10_makes_110 (fun H locs hP hS => ?_)
          refine lv_iconst (v := 0) hx hb dX10_makes_111 (by decide) ?_
          refine lv_istore_n (lv' := [(3, .int 0), (0, .ref (ad 0)), (1, .int a1), (2, .int a2)]) hx hb dX10_makes_112 rfl hl (by decide) rfl (fun ls hl => ?_)
          obtain ⟨n_11, hw⟩ := hw
          exact lab_113 n_11 _ _ _ _ _ _ _ hw hP hS (lv_sub hl [1, 2, 3, 0] rfl)
        · have hw := hw.2 c_20
          refine lv_aload_n hx hb dX10_makes_51 rfl (lv_at hl 0 rfl) ?_
          refine lv_iconst (v := 2) hx hb dX10_makes_52 (by decide) ?_
          refine lv_iconst (v := (-1)) hx hb dX10_makes_53 (by decide) ?_
          refine cvI (As := [.int 2, .int (-1)]) (rest := []) F hK hP hS (c_X10_stops l D ad cI hap H.size _ _ _ _ hw) (cwV 2 hts gU_X10_165 rfl rfl rfl (by decide +kernel) ⟨Nat.le_of_ble_eq_true rfl, Nat.le_of_ble_eq_true rfl⟩) (va_recv hK hP (ci := 7) (q0 := 0) rfl rfl) rfl hl.1 rfl (Nat.le_of_ble_eq_true rfl) dX10_makes_54 ⟨Nat.zero_le _, Nat.zero_le _⟩ (fun r_19 u_18 H locs hw hP hS => ?_)
          obtain ⟨zr_19, hw⟩ := hw
          exact rtZ F hr hlocks hK hw zr_19 hP hS dX10_makes_57
    · have hw := hw.2 c_26
      refine lv_aload_n hx hb dX10_makes_11 rfl (lv_at hl 0 rfl) ?_
      refine lv_aload_n hx hb dX10_makes_12 rfl (lv_at hl 0 rfl) ?_
      refine gM_X10_pAct F hK hP (hts _ mw_472) dX10_makes_13 ?_
      refine lv_iload_n hx hb dX10_makes_16 rfl (lv_at hl 1 rfl) ?_
      obtain ⟨i_25, hw⟩ := hw
      refine lM_X10_pAct F hK hP i_25 dX10_makes_17 ?_
      refine lv_aload_n hx hb dX10_makes_18 rfl (lv_at hl 0 rfl) ?_
      refine gM_X10_pColour F hK hP (hts _ mw_473) dX10_makes_19 ?_
      refine lv_iload_n hx hb dX10_makes_22 rfl (lv_at hl 1 rfl) ?_
      obtain ⟨i_24, hw⟩ := hw
      refine lM_X10_pColour F hK hP i_24 dX10_makes_23 ?_
      refine lv_iconst (v := 3) hx hb dX10_makes_24 (by decide) ?_
      refine cvI (As := [.int (gA u_7 14 (a1).toNatClampNeg), .int (gA u_7 15 (a1).toNatClampNeg), .int 3]) (rest := []) F hK hP hS (c_X10_faults l D ad cI hap H.size _ _ _ _ _ hw) (cwV 3 hts gU_X10_228 rfl rfl rfl (by decide +kernel) ⟨Nat.le_of_ble_eq_true rfl, Nat.le_of_ble_eq_true rfl⟩) (va_recv hK hP (ci := 7) (q0 := 0) rfl rfl) rfl hl.1 rfl (Nat.le_of_ble_eq_true rfl) dX10_makes_25 ⟨Nat.zero_le _, Nat.zero_le _⟩ (fun r_23 u_22 H locs hw hP hS => ?_)
      obtain ⟨zr_23, hw⟩ := hw
      exact rtZ F hr hlocks hK hw zr_23 hP hS dX10_makes_28
  exact key s.heap [] hP hS

abbrev rm_X10_reckons : Room := { frames := 6, cells := 0, slots := 0, locals := 145 }
set_option maxHeartbeats 4000000 in
set_option maxRecDepth 100000 in
theorem c_X10_reckons (l : Launch) (D : va_G) (ad : Nat → Nat) (cI : ClassId) (hap : apart ad 40) (sz : Nat) (σ : St) (a1 : Int32) (a2 : Int32) (K : Int32 → St → Prop) (hw : w_X10_reckons σ a1 a2 K) : Met l yX10_reckons wU_X10_reckons rm_X10_reckons (va_Pc [.ref (ad 0), .int a1, .int a2] (fun U => U.heap.size = sz ∧ inW D (wdM ad cI) [(cI, .int)] σ U)) (va_Qi (fun r u => zb r ∧ K r u) (inW D (wdM ad cI) [(cI, .int)]) (AW ad 40 sz)) 0 0 (AW ad 40 sz) := by
  refine Met.ofW (cc := cX10_reckons) (maxL := 8) (ret := (some .boolean)) (by decide) rfl ?_
  intro p e s m args below meth c s₁ B hml hv
  obtain ⟨rfl, hsz, ⟨hP, hK⟩⟩ := hv
  have F : CallFix p m c cX10_reckons 8 s ([.ref (ad 0), .int a1, .int a2] : List Value).toArray lw_U RX10 := ⟨B.exec, B.bytes, hml, findClass_of_methodNamed B.named, fun w h => atoms_spec (ws := wU_X10_reckons) B.pre w (List.mem_cons_of_mem _ h)⟩
  have hx := F.1
  have hb := F.2.1
  have hown := F.2.2.2.1
  have hts := F.2.2.2.2
  have hr := B.returns
  have hlocks := B.notSynchronized
  subst hsz
  have hDs : ∀ σ, va_D (AW ad 40 s.heap.size) ((wdM ad cI) σ) := fun σ => wdM_D hap σ
  have hS : va_S (AW ad 40 s.heap.size) s.heap s.heap [] := va_S.rf
  have lab_82 : ∀ (n : Nat), ∀ (σ : St) (x1 : Int32) (x2 : Int32) (x3 : Int32) (x4 : Int32) (x5 : Int32) (x6 : Int32) (x7 : Int32) (H : Heap) (locs : List Loc) (ls : Array Slot), w_X10_reckons_82 K n σ x1 x2 x3 x4 x5 x6 x7 → va_P D vwCl ((wdM ad cI) σ) H → va_S (AW ad 40 s.heap.size) s.heap H locs → lv_has ls 8 [(0, .ref (ad 0)), (1, .int x1), (2, .int x2), (3, .int x3), (4, .int x4), (5, .int x5), (6, .int x6), (7, .int x7)] → W p l e (headSpec wU_X10_reckons rm_X10_reckons).room s m ([.ref (ad 0), .int a1, .int a2] : List Value).toArray below meth c H locs 0 0 (MQ below (va_Qi (fun r u => zb r ∧ K r u) (inW D (wdM ad cI) [(cI, .int)]) (AW ad 40 s.heap.size)) ([.ref (ad 0), .int a1, .int a2] : List Value).toArray s 0 0 (AW ad 40 s.heap.size)) (F0 m 82 ls []) := by
    intro n
    induction n with
    | zero =>
      intro σ x1 x2 x3 x4 x5 x6 x7 H locs ls hw
      exact hw.elim
    | succ n hL82 =>
      intro σ x1 x2 x3 x4 x5 x6 x7 H locs ls hw hP hS hl
      have hw : b_X10_reckons_82 (w_X10_reckons_82 K n) K σ x1 x2 x3 x4 x5 x6 x7 := hw
      unfold b_X10_reckons_82 at hw
      generalize w_X10_reckons_82 K n = L82 at hw hL82
      refine lv_iload hx hb dX10_reckons_82 (lv_at hl 7 rfl) ?_
      refine lv_aload_n hx hb dX10_reckons_84 rfl (lv_at hl 0 rfl) ?_
      refine gM_X10_ports F hK hP (hts _ mw_441) dX10_reckons_85 ?_
      refine lv_iload_n hx hb dX10_reckons_88 rfl (lv_at hl 3 rfl) ?_
      obtain ⟨i_59, hw⟩ := hw
      refine lM_X10_ports F hK hP i_59 dX10_reckons_89 ?_
      refine lv_icmp_ge (tgt := 119) hx hb dX10_reckons_90 (by decide) (fun c_58 => ?_) (fun c_58 => ?_)
      · have hw := hw.1 c_58
        refine lv_iload_n hx hb dX10_reckons_119 rfl (lv_at hl 2 rfl) ?_
        by_cases k_1 : x2 = 2
        · have hw := hw.1 k_1
          refine sw_in 2 (tgt := 168) F dX10_reckons_120 k_1 (by decide) (by decide) rfl (by decide) ?_
          refine lv_aload_n hx hb dX10_reckons_168 rfl (lv_at hl 0 rfl) ?_
          refine lv_iload_n hx hb dX10_reckons_169 rfl (lv_at hl 1 rfl) ?_
          refine lv_iload hx hb dX10_reckons_170 (lv_at hl 5 rfl) ?_
          refine lv_iload hx hb dX10_reckons_172 (lv_at hl 6 rfl) ?_
          refine lv_iadd hx hb dX10_reckons_174 ?_
          refine cvI (As := [.int x1, .int (x5 + x6)]) (rest := []) F hK hP hS (c_X10_number l D ad cI hap H.size _ _ _ _ hw) (cwV 2 hts gU_X10_191 rfl rfl rfl (by decide +kernel) ⟨Nat.le_of_ble_eq_true rfl, Nat.le_of_ble_eq_true rfl⟩) (va_recv hK hP (ci := 7) (q0 := 0) rfl rfl) rfl hl.1 rfl (Nat.le_of_ble_eq_true rfl) dX10_reckons_175 ⟨Nat.zero_le _, Nat.zero_le _⟩ (fun r_3 u_2 H locs hw hP hS => ?_)
          obtain ⟨zr_3, hw⟩ := hw
          exact rtZ F hr hlocks hK hw zr_3 hP hS dX10_reckons_178
        · have hw := hw.2 k_1
          by_cases k_4 : x2 = 3
          · have hw := hw.1 k_4
            refine sw_in 3 (tgt := 179) F dX10_reckons_120 k_4 (by decide) (by decide) rfl (by decide) ?_
            refine lv_aload_n hx hb dX10_reckons_179 rfl (lv_at hl 0 rfl) ?_
            refine lv_iload_n hx hb dX10_reckons_180 rfl (lv_at hl 1 rfl) ?_
            refine lv_iload hx hb dX10_reckons_181 (lv_at hl 5 rfl) ?_
            refine lv_iload hx hb dX10_reckons_183 (lv_at hl 6 rfl) ?_
            refine lv_isub hx hb dX10_reckons_185 ?_
            refine cvI (As := [.int x1, .int (x5 - x6)]) (rest := []) F hK hP hS (c_X10_number l D ad cI hap H.size _ _ _ _ hw) (cwV 2 hts gU_X10_191 rfl rfl rfl (by decide +kernel) ⟨Nat.le_of_ble_eq_true rfl, Nat.le_of_ble_eq_true rfl⟩) (va_recv hK hP (ci := 7) (q0 := 0) rfl rfl) rfl hl.1 rfl (Nat.le_of_ble_eq_true rfl) dX10_reckons_186 ⟨Nat.zero_le _, Nat.zero_le _⟩ (fun r_6 u_5 H locs hw hP hS => ?_)
            obtain ⟨zr_6, hw⟩ := hw
            exact rtZ F hr hlocks hK hw zr_6 hP hS dX10_reckons_189
          · have hw := hw.2 k_4
            by_cases k_7 : x2 = 4
            · have hw := hw.1 k_7
              refine sw_in 4 (tgt := 190) F dX10_reckons_120 k_7 (by decide) (by decide) rfl (by decide) ?_
              refine lv_aload_n hx hb dX10_reckons_190 rfl (lv_at hl 0 rfl) ?_
              refine lv_iload_n hx hb dX10_reckons_191 rfl (lv_at hl 1 rfl) ?_
              refine lv_iload hx hb dX10_reckons_192 (lv_at hl 5 rfl) ?_
              refine lv_iload hx hb dX10_reckons_194 (lv_at hl 6 rfl) ?_
              refine lv_imul hx hb dX10_reckons_196 ?_
              refine cvI (As := [.int x1, .int (x5 * x6)]) (rest := []) F hK hP hS (c_X10_number l D ad cI hap H.size _ _ _ _ hw) (cwV 2 hts gU_X10_191 rfl rfl rfl (by decide +kernel) ⟨Nat.le_of_ble_eq_true rfl, Nat.le_of_ble_eq_true rfl⟩) (va_recv hK hP (ci := 7) (q0 := 0) rfl rfl) rfl hl.1 rfl (Nat.le_of_ble_eq_true rfl) dX10_reckons_197 ⟨Nat.zero_le _, Nat.zero_le _⟩ (fun r_9 u_8 H locs hw hP hS => ?_)
              obtain ⟨zr_9, hw⟩ := hw
              exact rtZ F hr hlocks hK hw zr_9 hP hS dX10_reckons_200
            · have hw := hw.2 k_7
              by_cases k_10 : x2 = 5
              · have hw := hw.1 k_10
                refine sw_in 5 (tgt := 201) F dX10_reckons_120 k_10 (by decide) (by decide) rfl (by decide) ?_
                refine lv_iload hx hb dX10_reckons_201 (lv_at hl 6 rfl) ?_
                refine lv_if_ne (tgt := 217) hx hb dX10_reckons_203 (by decide) (fun c_16 => ?_) (fun c_16 => ?_)
                · have hw := hw.1 c_16
                  refine lv_aload_n hx hb dX10_reckons_217 rfl (lv_at hl 0 rfl) ?_
                  refine lv_iload_n hx hb dX10_reckons_218 rfl (lv_at hl 1 rfl) ?_
                  refine lv_iload hx hb dX10_reckons_219 (lv_at hl 5 rfl) ?_
                  refine lv_iload hx hb dX10_reckons_221 (lv_at hl 6 rfl) ?_
                  obtain ⟨h_13, hw⟩ := hw
                  refine lv_idiv hx hb dX10_reckons_223 h_13 ?_
                  refine cvI (As := [.int x1, .int (x5 / x6)]) (rest := []) F hK hP hS (c_X10_number l D ad cI hap H.size _ _ _ _ hw) (cwV 2 hts gU_X10_191 rfl rfl rfl (by decide +kernel) ⟨Nat.le_of_ble_eq_true rfl, Nat.le_of_ble_eq_true rfl⟩) (va_recv hK hP (ci := 7) (q0 := 0) rfl rfl) rfl hl.1 rfl (Nat.le_of_ble_eq_true rfl) dX10_reckons_224 ⟨Nat.zero_le _, Nat.zero_le _⟩ (fun r_12 u_11 H locs hw hP hS => ?_)
                  obtain ⟨zr_12, hw⟩ := hw
                  exact rtZ F hr hlocks hK hw zr_12 hP hS dX10_reckons_227
                · have hw := hw.2 c_16
                  refine lv_aload_n hx hb dX10_reckons_206 rfl (lv_at hl 0 rfl) ?_
                  refine lv_iload_n hx hb dX10_reckons_207 rfl (lv_at hl 3 rfl) ?_
                  refine lv_iload hx hb dX10_reckons_208 (lv_at hl 4 rfl) ?_
                  refine lv_iconst (v := 1) hx hb dX10_reckons_210 (by decide) ?_
                  refine cvI (As := [.int x3, .int x4, .int 1]) (rest := []) F hK hP hS (c_X10_faults l D ad cI hap H.size _ _ _ _ _ hw) (cwV 3 hts gU_X10_228 rfl rfl rfl (by decide +kernel) ⟨Nat.le_of_ble_eq_true rfl, Nat.le_of_ble_eq_true rfl⟩) (va_recv hK hP (ci := 7) (q0 := 0) rfl rfl) rfl hl.1 rfl (Nat.le_of_ble_eq_true rfl) dX10_reckons_211 ⟨Nat.zero_le _, Nat.zero_le _⟩ (fun r_15 u_14 H locs hw hP hS => ?_)
                  obtain ⟨zr_15, hw⟩ := hw
                  refine lv_goto (tgt := 227) hx hb dX10_reckons_214 (by decide) ?_
                  exact rtZ F hr hlocks hK hw zr_15 hP hS dX10_reckons_227
              · have hw := hw.2 k_10
                by_cases k_17 : x2 = 6
                · have hw := hw.1 k_17
                  refine sw_in 6 (tgt := 228) F dX10_reckons_120 k_17 (by decide) (by decide) rfl (by decide) ?_
                  refine lv_iload hx hb dX10_reckons_228 (lv_at hl 6 rfl) ?_
                  refine lv_if_ne (tgt := 244) hx hb dX10_reckons_230 (by decide) (fun c_23 => ?_) (fun c_23 => ?_)
                  · have hw := hw.1 c_23
                    refine lv_aload_n hx hb dX10_reckons_244 rfl (lv_at hl 0 rfl) ?_
                    refine lv_iload_n hx hb dX10_reckons_245 rfl (lv_at hl 1 rfl) ?_
                    refine lv_iload hx hb dX10_reckons_246 (lv_at hl 5 rfl) ?_
                    refine lv_iload hx hb dX10_reckons_248 (lv_at hl 6 rfl) ?_
                    obtain ⟨h_20, hw⟩ := hw
                    refine lv_irem hx hb dX10_reckons_250 h_20 ?_
                    refine cvI (As := [.int x1, .int (x5 - x5 / x6 * x6)]) (rest := []) F hK hP hS (c_X10_number l D ad cI hap H.size _ _ _ _ hw) (cwV 2 hts gU_X10_191 rfl rfl rfl (by decide +kernel) ⟨Nat.le_of_ble_eq_true rfl, Nat.le_of_ble_eq_true rfl⟩) (va_recv hK hP (ci := 7) (q0 := 0) rfl rfl) rfl hl.1 rfl (Nat.le_of_ble_eq_true rfl) dX10_reckons_251 ⟨Nat.zero_le _, Nat.zero_le _⟩ (fun r_19 u_18 H locs hw hP hS => ?_)
                    obtain ⟨zr_19, hw⟩ := hw
                    exact rtZ F hr hlocks hK hw zr_19 hP hS dX10_reckons_254
                  · have hw := hw.2 c_23
                    refine lv_aload_n hx hb dX10_reckons_233 rfl (lv_at hl 0 rfl) ?_
                    refine lv_iload_n hx hb dX10_reckons_234 rfl (lv_at hl 3 rfl) ?_
                    refine lv_iload hx hb dX10_reckons_235 (lv_at hl 4 rfl) ?_
                    refine lv_iconst (v := 1) hx hb dX10_reckons_237 (by decide) ?_
                    refine cvI (As := [.int x3, .int x4, .int 1]) (rest := []) F hK hP hS (c_X10_faults l D ad cI hap H.size _ _ _ _ _ hw) (cwV 3 hts gU_X10_228 rfl rfl rfl (by decide +kernel) ⟨Nat.le_of_ble_eq_true rfl, Nat.le_of_ble_eq_true rfl⟩) (va_recv hK hP (ci := 7) (q0 := 0) rfl rfl) rfl hl.1 rfl (Nat.le_of_ble_eq_true rfl) dX10_reckons_238 ⟨Nat.zero_le _, Nat.zero_le _⟩ (fun r_22 u_21 H locs hw hP hS => ?_)
                    obtain ⟨zr_22, hw⟩ := hw
                    refine lv_goto (tgt := 254) hx hb dX10_reckons_241 (by decide) ?_
                    exact rtZ F hr hlocks hK hw zr_22 hP hS dX10_reckons_254
                · have hw := hw.2 k_17
                  by_cases k_24 : x2 = 7
                  · have hw := hw.1 k_24
                    refine sw_in 7 (tgt := 255) F dX10_reckons_120 k_24 (by decide) (by decide) rfl (by decide) ?_
                    refine lv_aload_n hx hb dX10_reckons_255 rfl (lv_at hl 0 rfl) ?_
                    refine lv_iload_n hx hb dX10_reckons_256 rfl (lv_at hl 1 rfl) ?_
                    refine lv_iload hx hb dX10_reckons_257 (lv_at hl 5 rfl) ?_
                    refine lv_iload hx hb dX10_reckons_259 (lv_at hl 6 rfl) ?_
                    refine lv_icmp_ge (tgt := 268) hx hb dX10_reckons_261 (by decide) (fun c_29 => ?_) (fun c_29 => ?_)
                    · have hw := hw.1 c_29
                      refine lv_iconst (v := 0) hx hb dX10_reckons_268 (by decide) ?_
                      refine cvI (As := [.int x1, .int 0]) (rest := []) F hK hP hS (c_X10_number l D ad cI hap H.size _ _ _ _ hw) (cwV 2 hts gU_X10_191 rfl rfl rfl (by decide +kernel) ⟨Nat.le_of_ble_eq_true rfl, Nat.le_of_ble_eq_true rfl⟩) (va_recv hK hP (ci := 7) (q0 := 0) rfl rfl) rfl hl.1 rfl (Nat.le_of_ble_eq_true rfl) dX10_reckons_269 ⟨Nat.zero_le _, Nat.zero_le _⟩ (fun r_26 u_25 H locs hw hP hS => ?_)
                      obtain ⟨zr_26, hw⟩ := hw
                      exact rtZ F hr hlocks hK hw zr_26 hP hS dX10_reckons_272
                    · have hw := hw.2 c_29
                      refine lv_iconst (v := 1) hx hb dX10_reckons_264 (by decide) ?_
                      refine lv_goto (tgt := 269) hx hb dX10_reckons_265 (by decide) ?_
                      refine cvI (As := [.int x1, .int 1]) (rest := []) F hK hP hS (c_X10_number l D ad cI hap H.size _ _ _ _ hw) (cwV 2 hts gU_X10_191 rfl rfl rfl (by decide +kernel) ⟨Nat.le_of_ble_eq_true rfl, Nat.le_of_ble_eq_true rfl⟩) (va_recv hK hP (ci := 7) (q0 := 0) rfl rfl) rfl hl.1 rfl (Nat.le_of_ble_eq_true rfl) dX10_reckons_269 ⟨Nat.zero_le _, Nat.zero_le _⟩ (fun r_28 u_27 H locs hw hP hS => ?_)
                      obtain ⟨zr_28, hw⟩ := hw
                      exact rtZ F hr hlocks hK hw zr_28 hP hS dX10_reckons_272
                  · have hw := hw.2 k_24
                    by_cases k_30 : x2 = 9
                    · have hw := hw.1 k_30
                      refine sw_in 9 (tgt := 273) F dX10_reckons_120 k_30 (by decide) (by decide) rfl (by decide) ?_
                      refine lv_aload_n hx hb dX10_reckons_273 rfl (lv_at hl 0 rfl) ?_
                      refine lv_iload_n hx hb dX10_reckons_274 rfl (lv_at hl 1 rfl) ?_
                      refine lv_iload hx hb dX10_reckons_275 (lv_at hl 5 rfl) ?_
                      refine lv_if_ne (tgt := 284) hx hb dX10_reckons_277 (by decide) (fun c_35 => ?_) (fun c_35 => ?_)
                      · have hw := hw.1 c_35
                        refine lv_iconst (v := 0) hx hb dX10_reckons_284 (by decide) ?_
                        refine cvI (As := [.int x1, .int 0]) (rest := []) F hK hP hS (c_X10_number l D ad cI hap H.size _ _ _ _ hw) (cwV 2 hts gU_X10_191 rfl rfl rfl (by decide +kernel) ⟨Nat.le_of_ble_eq_true rfl, Nat.le_of_ble_eq_true rfl⟩) (va_recv hK hP (ci := 7) (q0 := 0) rfl rfl) rfl hl.1 rfl (Nat.le_of_ble_eq_true rfl) dX10_reckons_285 ⟨Nat.zero_le _, Nat.zero_le _⟩ (fun r_32 u_31 H locs hw hP hS => ?_)
                        obtain ⟨zr_32, hw⟩ := hw
                        exact rtZ F hr hlocks hK hw zr_32 hP hS dX10_reckons_288
                      · have hw := hw.2 c_35
                        refine lv_iconst (v := 1) hx hb dX10_reckons_280 (by decide) ?_
                        refine lv_goto (tgt := 285) hx hb dX10_reckons_281 (by decide) ?_
                        refine cvI (As := [.int x1, .int 1]) (rest := []) F hK hP hS (c_X10_number l D ad cI hap H.size _ _ _ _ hw) (cwV 2 hts gU_X10_191 rfl rfl rfl (by decide +kernel) ⟨Nat.le_of_ble_eq_true rfl, Nat.le_of_ble_eq_true rfl⟩) (va_recv hK hP (ci := 7) (q0 := 0) rfl rfl) rfl hl.1 rfl (Nat.le_of_ble_eq_true rfl) dX10_reckons_285 ⟨Nat.zero_le _, Nat.zero_le _⟩ (fun r_34 u_33 H locs hw hP hS => ?_)
                        obtain ⟨zr_34, hw⟩ := hw
                        exact rtZ F hr hlocks hK hw zr_34 hP hS dX10_reckons_288
                    · have hw := hw.2 k_30
                      have z_38 : ¬ x2.toInt = 2 := lv_neT (fun z => k_1 z) (k := 2) (by decide)
                      have z_39 : ¬ x2.toInt = 3 := lv_neT (fun z => k_4 z) (k := 3) (by decide)
                      have z_40 : ¬ x2.toInt = 4 := lv_neT (fun z => k_7 z) (k := 4) (by decide)
                      have z_41 : ¬ x2.toInt = 5 := lv_neT (fun z => k_10 z) (k := 5) (by decide)
                      have z_42 : ¬ x2.toInt = 6 := lv_neT (fun z => k_17 z) (k := 6) (by decide)
                      have z_43 : ¬ x2.toInt = 7 := lv_neT (fun z => k_24 z) (k := 7) (by decide)
                      have z_44 : ¬ x2.toInt = 9 := lv_neT (fun z => k_30 z) (k := 9) (by decide)
                      have kd : W p l e (headSpec wU_X10_reckons rm_X10_reckons).room s m ([.ref (ad 0), .int a1, .int a2] : List Value).toArray below meth c H locs 0 0 (MQ below (va_Qi (fun r u => zb r ∧ K r u) (inW D (wdM ad cI) [(cI, .int)]) (AW ad 40 s.heap.size)) ([.ref (ad 0), .int a1, .int a2] : List Value).toArray s 0 0 (AW ad 40 s.heap.size)) (F0 m 289 ls []) := by
                        refine lv_aload_n hx hb dX10_reckons_289 rfl (lv_at hl 0 rfl) ?_
                        refine lv_iload_n hx hb dX10_reckons_290 rfl (lv_at hl 1 rfl) ?_
                        refine lv_iload hx hb dX10_reckons_291 (lv_at hl 5 rfl) ?_
                        refine cvI (As := [.int x1, .int x5]) (rest := []) F hK hP hS (c_X10_makes l D ad cI hap H.size _ _ _ _ hw) (cwV 2 hts gU_X10_234 rfl rfl rfl (by decide +kernel) ⟨Nat.le_of_ble_eq_true rfl, Nat.le_of_ble_eq_true rfl⟩) (va_recv hK hP (ci := 7) (q0 := 0) rfl rfl) rfl hl.1 rfl (Nat.le_of_ble_eq_true rfl) dX10_reckons_293 ⟨Nat.zero_le _, Nat.zero_le _⟩ (fun r_37 u_36 H locs hw hP hS => ?_)
                        obtain ⟨zr_37, hw⟩ := hw
                        exact rtZ F hr hlocks hK hw zr_37 hP hS dX10_reckons_296
                      rcases (show (x2.toInt < 2 ∨ 9 < x2.toInt) ∨ (x2.toInt = 8) by omega) with o_45 | o_45
                      · exact lv_tableOut (tgt := 289) hx hb dX10_reckons_120 o_45 (by decide) kd
                      · exact sw_in 8 (tgt := 289) F dX10_reckons_120 (Int32.toInt_inj.mp (by rw [o_45]; decide)) (by decide) (by decide) rfl (by decide) kd
      · have hw := hw.2 c_58
        refine lv_aload_n hx hb dX10_reckons_93 rfl (lv_at hl 0 rfl) ?_
        refine lv_iload_n hx hb dX10_reckons_94 rfl (lv_at hl 1 rfl) ?_
        refine lv_iload hx hb dX10_reckons_95 (lv_at hl 7 rfl) ?_
        refine cvI (As := [.int x1, .int x7]) (rest := []) F hK hP hS (c_X10_kindAt l D ad cI hap H.size _ _ _ _ hw) (cwV 2 hts gU_X10_185 rfl rfl rfl (by decide +kernel) ⟨Nat.le_of_ble_eq_true rfl, Nat.le_of_ble_eq_true rfl⟩) (va_recv hK hP (ci := 7) (q0 := 0) rfl rfl) rfl hl.1 rfl (Nat.le_of_ble_eq_true rfl) dX10_reckons_97 ⟨Nat.zero_le _, Nat.zero_le _⟩ (fun r_54 u_53 H locs hw hP hS => ?_)
        refine lv_iconst (v := 1) hx hb dX10_reckons_100 (by decide) ?_
        refine lv_icmp_eq (tgt := 113) hx hb dX10_reckons_101 (by decide) (fun c_57 => ?_) (fun c_57 => ?_)
        · have hw := hw.1 c_57
          refine lv_iinc (v := (x7 + 1)) (lv' := [(7, .int (x7 + 1)), (0, .ref (ad 0)), (1, .int x1), (2, .int x2), (3, .int x3), (4, .int x4), (5, .int x5), (6, .int x6)]) hx hb dX10_reckons_113 hl (k := 7) rfl rfl (by decide) rfl (fun ls hl => ?_)
          refine lv_goto (tgt := 82) hx hb dX10_reckons_116 (by decide) ?_
          exact hL82 _ _ _ _ _ _ _ _ _ _ _ hw hP hS (lv_sub hl [1, 2, 3, 4, 5, 6, 7, 0] rfl)
        · have hw := hw.2 c_57
          refine lv_aload_n hx hb dX10_reckons_104 rfl (lv_at hl 0 rfl) ?_
          refine lv_iload_n hx hb dX10_reckons_105 rfl (lv_at hl 3 rfl) ?_
          refine lv_iload hx hb dX10_reckons_106 (lv_at hl 4 rfl) ?_
          refine lv_iconst (v := 4) hx hb dX10_reckons_108 (by decide) ?_
          refine cvI (As := [.int x3, .int x4, .int 4]) (rest := []) F hK hP hS (c_X10_faults l D ad cI hap H.size _ _ _ _ _ hw) (cwV 3 hts gU_X10_228 rfl rfl rfl (by decide +kernel) ⟨Nat.le_of_ble_eq_true rfl, Nat.le_of_ble_eq_true rfl⟩) (va_recv hK hP (ci := 7) (q0 := 0) rfl rfl) rfl hl.1 rfl (Nat.le_of_ble_eq_true rfl) dX10_reckons_109 ⟨Nat.zero_le _, Nat.zero_le _⟩ (fun r_56 u_55 H locs hw hP hS => ?_)
          obtain ⟨zr_56, hw⟩ := hw
          exact rtZ F hr hlocks hK hw zr_56 hP hS dX10_reckons_112
  have hl := lv_entry ([.ref (ad 0), .int a1, .int a2]) (n := 8) (Nat.le_of_ble_eq_true rfl)
  rw [lg_entry_eq]
  generalize (lg_sl ([.ref (ad 0), .int a1, .int a2]) ++ List.replicate (8 - (lg_sl ([.ref (ad 0), .int a1, .int a2])).length) Slot.unset).toArray = ls at hl ⊢
  have hl : lv_has ls 8 [(0, .ref (ad 0)), (1, .int a1), (2, .int a2)] := hl
  have key : ∀ (H : Heap) (locs : List Loc), va_P D vwCl ((wdM ad cI) σ) H → va_S (AW ad 40 s.heap.size) s.heap H locs → W p l e (headSpec wU_X10_reckons rm_X10_reckons).room s m ([.ref (ad 0), .int a1, .int a2] : List Value).toArray below meth c H locs 0 0 (MQ below (va_Qi (fun r u => zb r ∧ K r u) (inW D (wdM ad cI) [(cI, .int)]) (AW ad 40 s.heap.size)) ([.ref (ad 0), .int a1, .int a2] : List Value).toArray s 0 0 (AW ad 40 s.heap.size)) (F0 m 0 ls []) := by
    intro H locs hP hS
    unfold w_X10_reckons at hw
    refine lv_aload_n hx hb dX10_reckons_0 rfl (lv_at hl 0 rfl) ?_
    refine gM_X10_pAct F hK hP (hts _ mw_472) dX10_reckons_1 ?_
    refine lv_iload_n hx hb dX10_reckons_4 rfl (lv_at hl 1 rfl) ?_
    obtain ⟨i_79, hw⟩ := hw
    refine lM_X10_pAct F hK hP i_79 dX10_reckons_5 ?_
    refine lv_istore_n (lv' := [(3, .int (gA σ 14 (a1).toNatClampNeg)), (0, .ref (ad 0)), (1, .int a1), (2, .int a2)]) hx hb dX10_reckons_6 rfl hl (by decide) rfl (fun ls hl => ?_)
    refine lv_aload_n hx hb dX10_reckons_7 rfl (lv_at hl 1 rfl) ?_
    refine gM_X10_pColour F hK hP (hts _ mw_473) dX10_reckons_8 ?_
    refine lv_iload_n hx hb dX10_reckons_11 rfl (lv_at hl 2 rfl) ?_
    obtain ⟨i_78, hw⟩ := hw
    refine lM_X10_pColour F hK hP i_78 dX10_reckons_12 ?_
    refine lv_istore (lv' := [(4, .int (gA σ 15 (a1).toNatClampNeg)), (3, .int (gA σ 14 (a1).toNatClampNeg)), (0, .ref (ad 0)), (1, .int a1), (2, .int a2)]) hx hb dX10_reckons_13 hl (by decide) rfl (fun ls hl => ?_)
    refine lv_aload_n hx hb dX10_reckons_15 rfl (lv_at hl 2 rfl) ?_
    refine lv_iload_n hx hb dX10_reckons_16 rfl (lv_at hl 3 rfl) ?_
    refine lv_iconst (v := 0) hx hb dX10_reckons_17 (by decide) ?_
    refine cvI (As := [.int a1, .int 0]) (rest := []) F hK hP hS (c_X10_valueAt l D ad cI hap H.size _ _ _ _ hw) (cwV 2 hts gU_X10_221 rfl rfl rfl (by decide +kernel) ⟨Nat.le_of_ble_eq_true rfl, Nat.le_of_ble_eq_true rfl⟩) (va_recv hK hP (ci := 7) (q0 := 0) rfl rfl) rfl hl.1 rfl (Nat.le_of_ble_eq_true rfl) dX10_reckons_18 ⟨Nat.zero_le _, Nat.zero_le _⟩ (fun r_61 u_60 H locs hw hP hS => ?_)
    refine lv_istore (lv' := [(5, .int r_61), (4, .int (gA σ 15 (a1).toNatClampNeg)), (3, .int (gA σ 14 (a1).toNatClampNeg)), (0, .ref (ad 0)), (1, .int a1), (2, .int a2)]) hx hb dX10_reckons_21 hl (by decide) rfl (fun ls hl => ?_)
    refine lv_aload_n hx hb dX10_reckons_23 rfl (lv_at hl 3 rfl) ?_
    refine lv_iload_n hx hb dX10_reckons_24 rfl (lv_at hl 4 rfl) ?_
    refine lv_iconst (v := 1) hx hb dX10_reckons_25 (by decide) ?_
    refine cvI (As := [.int a1, .int 1]) (rest := []) F hK hP hS (c_X10_valueAt l D ad cI hap H.size _ _ _ _ hw) (cwV 2 hts gU_X10_221 rfl rfl rfl (by decide +kernel) ⟨Nat.le_of_ble_eq_true rfl, Nat.le_of_ble_eq_true rfl⟩) (va_recv hK hP (ci := 7) (q0 := 0) rfl rfl) rfl hl.1 rfl (Nat.le_of_ble_eq_true rfl) dX10_reckons_26 ⟨Nat.zero_le _, Nat.zero_le _⟩ (fun r_63 u_62 H locs hw hP hS => ?_)
    refine lv_istore (lv' := [(6, .int r_63), (5, .int r_61), (4, .int (gA σ 15 (a1).toNatClampNeg)), (3, .int (gA σ 14 (a1).toNatClampNeg)), (0, .ref (ad 0)), (1, .int a1), (2, .int a2)]) hx hb dX10_reckons_29 hl (by decide) rfl (fun ls hl => ?_)
    refine lv_iload_n hx hb dX10_reckons_31 rfl (lv_at hl 6 rfl) ?_
    refine lv_bipush (v := 8) hx hb dX10_reckons_32 (by decide) ?_
    refine lv_icmp_ne (tgt := 79) hx hb dX10_reckons_34 (by decide) (fun c_77 => ?_) (fun c_77 => ?_)
    · have hw := hw.1 c_77
      refine lv_iconst (v := 0) hx hb dX10_reckons_79 (by decide) ?_
      refine lv_istore (lv' := [(7, .int 0), (6, .int r_63), (5, .int r_61), (4, .int (gA σ 15 (a1).toNatClampNeg)), (3, .int (gA σ 14 (a1).toNatClampNeg)), (0, .ref (ad 0)), (1, .int a1), (2, .int a2)]) hx hb dX10_reckons_80 hl (by decide) rfl (fun ls hl => ?_)
      obtain ⟨n_64, hw⟩ := hw
      exact lab_82 n_64 _ _ _ _ _ _ _ _ _ _ _ hw hP hS (lv_sub hl [5, 6, 7, 4, 3, 2, 1, 0] rfl)
    · have hw := hw.2 c_77
      refine lv_aload_n hx hb dX10_reckons_37 rfl (lv_at hl 4 rfl) ?_
      refine lv_iload_n hx hb dX10_reckons_38 rfl (lv_at hl 5 rfl) ?_
      refine lv_iconst (v := 0) hx hb dX10_reckons_39 (by decide) ?_
      refine cvI (As := [.int a1, .int 0]) (rest := []) F hK hP hS (c_X10_kindAt l D ad cI hap H.size _ _ _ _ hw) (cwV 2 hts gU_X10_185 rfl rfl rfl (by decide +kernel) ⟨Nat.le_of_ble_eq_true rfl, Nat.le_of_ble_eq_true rfl⟩) (va_recv hK hP (ci := 7) (q0 := 0) rfl rfl) rfl hl.1 rfl (Nat.le_of_ble_eq_true rfl) dX10_reckons_40 ⟨Nat.zero_le _, Nat.zero_le _⟩ (fun r_66 u_65 H locs hw hP hS => ?_)
      refine lv_aload_n hx hb dX10_reckons_43 rfl (lv_at hl 4 rfl) ?_
      refine lv_iload_n hx hb dX10_reckons_44 rfl (lv_at hl 5 rfl) ?_
      refine lv_iconst (v := 1) hx hb dX10_reckons_45 (by decide) ?_
      refine cvI (As := [.int a1, .int 1]) (rest := [.int r_66]) F hK hP hS (c_X10_kindAt l D ad cI hap H.size _ _ _ _ hw) (cwV 2 hts gU_X10_185 rfl rfl rfl (by decide +kernel) ⟨Nat.le_of_ble_eq_true rfl, Nat.le_of_ble_eq_true rfl⟩) (va_recv hK hP (ci := 7) (q0 := 0) rfl rfl) rfl hl.1 rfl (Nat.le_of_ble_eq_true rfl) dX10_reckons_46 ⟨Nat.zero_le _, Nat.zero_le _⟩ (fun r_68 u_67 H locs hw hP hS => ?_)
      refine lv_icmp_eq (tgt := 61) hx hb dX10_reckons_49 (by decide) (fun c_76 => ?_) (fun c_76 => ?_)
      · have hw := hw.1 c_76
        refine lv_aload_n hx hb dX10_reckons_61 rfl (lv_at hl 4 rfl) ?_
        refine lv_iload_n hx hb dX10_reckons_62 rfl (lv_at hl 5 rfl) ?_
        refine lv_iload hx hb dX10_reckons_63 (lv_at hl 1 rfl) ?_
        refine lv_iload hx hb dX10_reckons_65 (lv_at hl 0 rfl) ?_
        refine lv_icmp_ne (tgt := 74) hx hb dX10_reckons_67 (by decide) (fun c_73 => ?_) (fun c_73 => ?_)
        · have hw := hw.1 c_73
          refine lv_iconst (v := 0) hx hb dX10_reckons_74 (by decide) ?_
          refine cvI (As := [.int a1, .int 0]) (rest := []) F hK hP hS (c_X10_number l D ad cI hap H.size _ _ _ _ hw) (cwV 2 hts gU_X10_191 rfl rfl rfl (by decide +kernel) ⟨Nat.le_of_ble_eq_true rfl, Nat.le_of_ble_eq_true rfl⟩) (va_recv hK hP (ci := 7) (q0 := 0) rfl rfl) rfl hl.1 rfl (Nat.le_of_ble_eq_true rfl) dX10_reckons_75 ⟨Nat.zero_le _, Nat.zero_le _⟩ (fun r_70 u_69 H locs hw hP hS => ?_)
          obtain ⟨zr_70, hw⟩ := hw
          exact rtZ F hr hlocks hK hw zr_70 hP hS dX10_reckons_78
        · have hw := hw.2 c_73
          refine lv_iconst (v := 1) hx hb dX10_reckons_70 (by decide) ?_
          refine lv_goto (tgt := 75) hx hb dX10_reckons_71 (by decide) ?_
          refine cvI (As := [.int a1, .int 1]) (rest := []) F hK hP hS (c_X10_number l D ad cI hap H.size _ _ _ _ hw) (cwV 2 hts gU_X10_191 rfl rfl rfl (by decide +kernel) ⟨Nat.le_of_ble_eq_true rfl, Nat.le_of_ble_eq_true rfl⟩) (va_recv hK hP (ci := 7) (q0 := 0) rfl rfl) rfl hl.1 rfl (Nat.le_of_ble_eq_true rfl) dX10_reckons_75 ⟨Nat.zero_le _, Nat.zero_le _⟩ (fun r_72 u_71 H locs hw hP hS => ?_)
          obtain ⟨zr_72, hw⟩ := hw
          exact rtZ F hr hlocks hK hw zr_72 hP hS dX10_reckons_78
      · have hw := hw.2 c_76
        refine lv_aload_n hx hb dX10_reckons_52 rfl (lv_at hl 4 rfl) ?_
        refine lv_iload_n hx hb dX10_reckons_53 rfl (lv_at hl 3 rfl) ?_
        refine lv_iload hx hb dX10_reckons_54 (lv_at hl 2 rfl) ?_
        refine lv_iconst (v := 4) hx hb dX10_reckons_56 (by decide) ?_
        refine cvI (As := [.int (gA σ 14 (a1).toNatClampNeg), .int (gA σ 15 (a1).toNatClampNeg), .int 4]) (rest := []) F hK hP hS (c_X10_faults l D ad cI hap H.size _ _ _ _ _ hw) (cwV 3 hts gU_X10_228 rfl rfl rfl (by decide +kernel) ⟨Nat.le_of_ble_eq_true rfl, Nat.le_of_ble_eq_true rfl⟩) (va_recv hK hP (ci := 7) (q0 := 0) rfl rfl) rfl hl.1 rfl (Nat.le_of_ble_eq_true rfl) dX10_reckons_57 ⟨Nat.zero_le _, Nat.zero_le _⟩ (fun r_75 u_74 H locs hw hP hS => ?_)
        obtain ⟨zr_75, hw⟩ := hw
        exact rtZ F hr hlocks hK hw zr_75 hP hS dX10_reckons_60
  exact key s.heap [] hP hS
