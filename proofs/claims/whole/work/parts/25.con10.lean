abbrev rm_X10_comes : Room := { frames := 2, cells := 0, slots := 0, locals := 45 }
set_option maxHeartbeats 4000000 in
set_option maxRecDepth 100000 in
theorem c_X10_comes (l : Launch) (D : va_G) (ad : Nat → Nat) (cI : ClassId) (hap : apart ad 40) (sz : Nat) (σ : St) (a1 : Int32) (a2 : Int32) (a3 : Int32) (a4 : Int32) (a5 : Int32) (a6 : Int32) (K : Int32 → St → Prop) (hw : w_X10_comes σ a1 a2 a3 a4 a5 a6 K) : Met l yX10_comes wU_X10_comes rm_X10_comes (va_Pc [.ref (ad 0), .int a1, .int a2, .int a3, .int a4, .int a5, .int a6] (fun U => U.heap.size = sz ∧ inW D (wdM ad cI) [(cI, .int)] σ U)) (va_Qi (fun r u => zb r ∧ K r u) (inW D (wdM ad cI) [(cI, .int)]) (AW ad 40 sz)) 0 0 (AW ad 40 sz) := by
  refine Met.ofW (cc := cX10_comes) (maxL := 8) (ret := (some .boolean)) (by decide) rfl ?_
  intro p e s m args below meth c s₁ B hml hv
  obtain ⟨rfl, hsz, ⟨hP, hK⟩⟩ := hv
  have F : CallFix p m c cX10_comes 8 s ([.ref (ad 0), .int a1, .int a2, .int a3, .int a4, .int a5, .int a6] : List Value).toArray lw_U RX10 := ⟨B.exec, B.bytes, hml, findClass_of_methodNamed B.named, fun w h => atoms_spec (ws := wU_X10_comes) B.pre w (List.mem_cons_of_mem _ h)⟩
  have hx := F.1
  have hb := F.2.1
  have hown := F.2.2.2.1
  have hts := F.2.2.2.2
  have hr := B.returns
  have hlocks := B.notSynchronized
  subst hsz
  have hDs : ∀ σ, va_D (AW ad 40 s.heap.size) ((wdM ad cI) σ) := fun σ => wdM_D hap σ
  have hS : va_S (AW ad 40 s.heap.size) s.heap s.heap [] := va_S.rf
  have hl := lv_entry ([.ref (ad 0), .int a1, .int a2, .int a3, .int a4, .int a5, .int a6]) (n := 8) (Nat.le_of_ble_eq_true rfl)
  rw [lg_entry_eq]
  generalize (lg_sl ([.ref (ad 0), .int a1, .int a2, .int a3, .int a4, .int a5, .int a6]) ++ List.replicate (8 - (lg_sl ([.ref (ad 0), .int a1, .int a2, .int a3, .int a4, .int a5, .int a6])).length) Slot.unset).toArray = ls at hl ⊢
  have hl : lv_has ls 8 [(0, .ref (ad 0)), (1, .int a1), (2, .int a2), (3, .int a3), (4, .int a4), (5, .int a5), (6, .int a6)] := hl
  have key : ∀ (H : Heap) (locs : List Loc), va_P D vwCl ((wdM ad cI) σ) H → va_S (AW ad 40 s.heap.size) s.heap H locs → W p l e (headSpec wU_X10_comes rm_X10_comes).room s m ([.ref (ad 0), .int a1, .int a2, .int a3, .int a4, .int a5, .int a6] : List Value).toArray below meth c H locs 0 0 (MQ below (va_Qi (fun r u => zb r ∧ K r u) (inW D (wdM ad cI) [(cI, .int)]) (AW ad 40 s.heap.size)) ([.ref (ad 0), .int a1, .int a2, .int a3, .int a4, .int a5, .int a6] : List Value).toArray s 0 0 (AW ad 40 s.heap.size)) (F0 m 0 ls []) := by
    intro H locs hP hS
    unfold w_X10_comes at hw
    refine lv_aload_n hx hb dX10_comes_0 rfl (lv_at hl 0 rfl) ?_
    refine lv_iload_n hx hb dX10_comes_1 rfl (lv_at hl 1 rfl) ?_
    refine lv_iload_n hx hb dX10_comes_2 rfl (lv_at hl 3 rfl) ?_
    refine cvI (As := [.int a1, .int a3]) (rest := []) F hK hP hS (c_X10_pair l D ad cI hap H.size _ _ _ _ hw) (cwV 2 hts gU_X10_172 rfl rfl rfl (by decide +kernel) ⟨Nat.le_of_ble_eq_true rfl, Nat.le_of_ble_eq_true rfl⟩) (va_recv hK hP (ci := 7) (q0 := 0) rfl rfl) rfl hl.1 rfl (Nat.le_of_ble_eq_true rfl) dX10_comes_3 ⟨Nat.zero_le _, Nat.zero_le _⟩ (fun r_2 u_1 H locs hw hP hS => ?_)
    refine lv_istore (lv' := [(7, .int r_2), (0, .ref (ad 0)), (1, .int a1), (2, .int a2), (3, .int a3), (4, .int a4), (5, .int a5), (6, .int a6)]) hx hb dX10_comes_6 hl (by decide) rfl (fun ls hl => ?_)
    refine lv_iload hx hb dX10_comes_8 (lv_at hl 0 rfl) ?_
    refine lv_if_ge (tgt := 15) hx hb dX10_comes_10 (by decide) (fun c_17 => ?_) (fun c_17 => ?_)
    · have hw := hw.1 c_17
      refine lv_aload_n hx hb dX10_comes_15 rfl (lv_at hl 1 rfl) ?_
      refine gM_X10_pHas F hK hP (hts _ mw_474) dX10_comes_16 ?_
      refine lv_iload hx hb dX10_comes_19 (lv_at hl 0 rfl) ?_
      obtain ⟨i_16, hw⟩ := hw
      refine lM_X10_pHas F hK hP i_16 dX10_comes_21 ?_
      refine lv_iload_n hx hb dX10_comes_22 rfl (lv_at hl 3 rfl) ?_
      refine lv_ishr hx hb dX10_comes_23 ?_
      refine lv_iconst (v := 1) hx hb dX10_comes_24 (by decide) ?_
      refine lv_iand hx hb dX10_comes_25 ?_
      refine lv_iconst (v := 1) hx hb dX10_comes_26 (by decide) ?_
      refine lv_icmp_ne (tgt := 37) hx hb dX10_comes_27 (by decide) (fun c_15 => ?_) (fun c_15 => ?_)
      · have hw := hw.1 c_15
        refine lv_aload_n hx hb dX10_comes_37 rfl (lv_at hl 1 rfl) ?_
        refine gM_X10_pHas F hK hP (hts _ mw_474) dX10_comes_38 ?_
        refine lv_iload hx hb dX10_comes_41 (lv_at hl 0 rfl) ?_
        refine lv_dup2_11 hx hb dX10_comes_43 rfl rfl ?_
        obtain ⟨i_12, hw⟩ := hw
        refine lM_X10_pHas F hK hP i_12 dX10_comes_44 ?_
        refine lv_iconst (v := 1) hx hb dX10_comes_45 (by decide) ?_
        refine lv_iload_n hx hb dX10_comes_46 rfl (lv_at hl 3 rfl) ?_
        refine lv_ishl hx hb dX10_comes_47 ?_
        refine lv_ior hx hb dX10_comes_48 ?_
        obtain ⟨i_11, hw⟩ := hw
        refine sM_X10_pHas F hK hP hDs hS i_11 dX10_comes_49 (fun H locs hP hS => ?_)
        refine lv_aload_n hx hb dX10_comes_50 rfl (lv_at hl 1 rfl) ?_
        refine gM_X10_pKind F hK hP (hts _ mw_482) dX10_comes_51 ?_
        refine lv_iconst (v := 3) hx hb dX10_comes_54 (by decide) ?_
        refine lv_iload hx hb dX10_comes_55 (lv_at hl 0 rfl) ?_
        refine lv_imul hx hb dX10_comes_57 ?_
        refine lv_iload_n hx hb dX10_comes_58 rfl (lv_at hl 3 rfl) ?_
        refine lv_iadd hx hb dX10_comes_59 ?_
        refine lv_iload hx hb dX10_comes_60 (lv_at hl 5 rfl) ?_
        obtain ⟨i_10, hw⟩ := hw
        refine sM_X10_pKind F hK hP hDs hS i_10 dX10_comes_62 (fun H locs hP hS => ?_)
        refine lv_aload_n hx hb dX10_comes_63 rfl (lv_at hl 1 rfl) ?_
        refine gM_X10_pValue F hK hP (hts _ mw_483) dX10_comes_64 ?_
        refine lv_iconst (v := 3) hx hb dX10_comes_67 (by decide) ?_
        refine lv_iload hx hb dX10_comes_68 (lv_at hl 0 rfl) ?_
        refine lv_imul hx hb dX10_comes_70 ?_
        refine lv_iload_n hx hb dX10_comes_71 rfl (lv_at hl 3 rfl) ?_
        refine lv_iadd hx hb dX10_comes_72 ?_
        refine lv_iload hx hb dX10_comes_73 (lv_at hl 6 rfl) ?_
        obtain ⟨i_9, hw⟩ := hw
        refine sM_X10_pValue F hK hP hDs hS i_9 dX10_comes_75 (fun H locs hP hS => ?_)
        refine lv_aload_n hx hb dX10_comes_76 rfl (lv_at hl 1 rfl) ?_
        refine gM_X10_pOf F hK hP (hts _ mw_484) dX10_comes_77 ?_
        refine lv_iconst (v := 3) hx hb dX10_comes_80 (by decide) ?_
        refine lv_iload hx hb dX10_comes_81 (lv_at hl 0 rfl) ?_
        refine lv_imul hx hb dX10_comes_83 ?_
        refine lv_iload_n hx hb dX10_comes_84 rfl (lv_at hl 3 rfl) ?_
        refine lv_iadd hx hb dX10_comes_85 ?_
        refine lv_iload hx hb dX10_comes_86 (lv_at hl 7 rfl) ?_
        obtain ⟨i_8, hw⟩ := hw
        refine sM_X10_pOf F hK hP hDs hS i_8 dX10_comes_88 (fun H locs hP hS => ?_)
        refine lv_aload_n hx hb dX10_comes_89 rfl (lv_at hl 1 rfl) ?_
        refine gM_X10_pHas F hK hP (hts _ mw_474) dX10_comes_90 ?_
        refine lv_iload hx hb dX10_comes_93 (lv_at hl 0 rfl) ?_
        obtain ⟨i_7, hw⟩ := hw
        refine lM_X10_pHas F hK hP i_7 dX10_comes_95 ?_
        refine jvi (y := (gA (sA u_1 16 (r_2).toNatClampNeg ((gA u_1 16 (r_2).toNatClampNeg) ||| (1 <<< (a2 &&& 31)))) 16 (r_2).toNatClampNeg)) (by simp only [gS_sS, gS_sA, gS_sL, gS_fA, gS_fL, gA_sS, gA_sA, gA_sL, gA_fA, gA_fL, gL_sS, gL_sA, gL_sL, gL_fA, gL_fL, reduceIte, Nat.reduceEqDiff]) ?_
        refine lv_iconst (v := 1) hx hb dX10_comes_96 (by decide) ?_
        refine lv_aload_n hx hb dX10_comes_97 rfl (lv_at hl 1 rfl) ?_
        refine gM_X10_ports F hK hP (hts _ mw_441) dX10_comes_98 ?_
        refine lv_iload_n hx hb dX10_comes_101 rfl (lv_at hl 2 rfl) ?_
        obtain ⟨i_6, hw⟩ := hw
        refine lM_X10_ports F hK hP i_6 dX10_comes_102 ?_
        refine jvi (y := (gA u_1 2 (a1).toNatClampNeg)) (by simp only [gS_sS, gS_sA, gS_sL, gS_fA, gS_fL, gA_sS, gA_sA, gA_sL, gA_fA, gA_fL, gL_sS, gL_sA, gL_sL, gL_fA, gL_fL, reduceIte, Nat.reduceEqDiff]) ?_
        refine lv_ishl hx hb dX10_comes_103 ?_
        refine lv_iconst (v := 1) hx hb dX10_comes_104 (by decide) ?_
        refine lv_isub hx hb dX10_comes_105 ?_
        refine lv_icmp_eq (tgt := 111) hx hb dX10_comes_106 (by decide) (fun c_5 => ?_) (fun c_5 => ?_)
        · have hw := hw.1 c_5
          refine lv_aload_n hx hb dX10_comes_111 rfl (lv_at hl 1 rfl) ?_
          refine gM_X10_pHow F hK hP (hts _ mw_475) dX10_comes_112 ?_
          refine lv_iload hx hb dX10_comes_115 (lv_at hl 0 rfl) ?_
          refine lv_iconst (v := 1) hx hb dX10_comes_117 (by decide) ?_
          obtain ⟨i_4, hw⟩ := hw
          refine sM_X10_pHow F hK hP hDs hS i_4 dX10_comes_118 (fun H locs hP hS => ?_)
          refine lv_aload_n hx hb dX10_comes_119 rfl (lv_at hl 1 rfl) ?_
          refine gM_X10_ready F hK hP (hts _ mw_485) dX10_comes_120 ?_
          refine lv_aload_n hx hb dX10_comes_123 rfl (lv_at hl 1 rfl) ?_
          refine gM_X10_readyMany F hK hP (hts _ mw_486) dX10_comes_124 ?_
          refine jvi (y := (gS u_1 14)) (by simp only [gS_sS, gS_sA, gS_sL, gS_fA, gS_fL, gA_sS, gA_sA, gA_sL, gA_fA, gA_fL, gL_sS, gL_sA, gL_sL, gL_fA, gL_fL, reduceIte, Nat.reduceEqDiff]) ?_
          refine lv_iload hx hb dX10_comes_127 (lv_at hl 0 rfl) ?_
          obtain ⟨i_3, hw⟩ := hw
          refine sM_X10_ready F hK hP hDs hS i_3 dX10_comes_129 (fun H locs hP hS => ?_)
          refine lv_aload_n hx hb dX10_comes_130 rfl (lv_at hl 1 rfl) ?_
          refine lv_dup hx hb dX10_comes_131 rfl ?_
          refine gM_X10_readyMany F hK hP (hts _ mw_486) dX10_comes_132 ?_
          refine jvi (y := (gS u_1 14)) (by simp only [gS_sS, gS_sA, gS_sL, gS_fA, gS_fL, gA_sS, gA_sA, gA_sL, gA_fA, gA_fL, gL_sS, gL_sA, gL_sL, gL_fA, gL_fL, reduceIte, Nat.reduceEqDiff]) ?_
          refine lv_iconst (v := 1) hx hb dX10_comes_135 (by decide) ?_
          refine lv_iadd hx hb dX10_comes_136 ?_
          refine pM_X10_readyMany F hK hP hDs hS (hts _ mw_486) dX10_comes_137 (fun H locs hP hS => ?_)
          refine lv_iconst (v := 1) hx hb dX10_comes_140 (by decide) ?_
          exact rtZ F hr hlocks hK hw (Or.inr rfl) hP hS dX10_comes_141
        · have hw := hw.2 c_5
          refine lv_iconst (v := 1) hx hb dX10_comes_109 (by decide) ?_
          exact rtZ F hr hlocks hK hw (Or.inr rfl) hP hS dX10_comes_110
      · have hw := hw.2 c_15
        refine lv_aload_n hx hb dX10_comes_30 rfl (lv_at hl 1 rfl) ?_
        refine lv_iconst (v := 1) hx hb dX10_comes_31 (by decide) ?_
        refine lv_iload_n hx hb dX10_comes_32 rfl (lv_at hl 2 rfl) ?_
        refine cvI (As := [.int 1, .int a1]) (rest := []) F hK hP hS (c_X10_stops l D ad cI hap H.size _ _ _ _ hw) (cwV 2 hts gU_X10_165 rfl rfl rfl (by decide +kernel) ⟨Nat.le_of_ble_eq_true rfl, Nat.le_of_ble_eq_true rfl⟩) (va_recv hK hP (ci := 7) (q0 := 0) rfl rfl) rfl hl.1 rfl (Nat.le_of_ble_eq_true rfl) dX10_comes_33 ⟨Nat.zero_le _, Nat.zero_le _⟩ (fun r_14 u_13 H locs hw hP hS => ?_)
        obtain ⟨zr_14, hw⟩ := hw
        exact rtZ F hr hlocks hK hw zr_14 hP hS dX10_comes_36
    · have hw := hw.2 c_17
      refine lv_iconst (v := 0) hx hb dX10_comes_13 (by decide) ?_
      exact rtZ F hr hlocks hK hw (Or.inl rfl) hP hS dX10_comes_14
  exact key s.heap [] hP hS

abbrev rm_X10_gives : Room := { frames := 3, cells := 0, slots := 0, locals := 72 }
set_option maxHeartbeats 4000000 in
set_option maxRecDepth 100000 in
theorem c_X10_gives (l : Launch) (D : va_G) (ad : Nat → Nat) (cI : ClassId) (hap : apart ad 40) (sz : Nat) (σ : St) (a1 : Int32) (a2 : Int32) (a3 : Int32) (a4 : Int32) (a5 : Int32) (a6 : Int32) (K : Int32 → St → Prop) (hw : w_X10_gives σ a1 a2 a3 a4 a5 a6 K) : Met l yX10_gives wU_X10_gives rm_X10_gives (va_Pc [.ref (ad 0), .int a1, .int a2, .int a3, .int a4, .int a5, .int a6] (fun U => U.heap.size = sz ∧ inW D (wdM ad cI) [(cI, .int)] σ U)) (va_Qi (fun r u => zb r ∧ K r u) (inW D (wdM ad cI) [(cI, .int)]) (AW ad 40 sz)) 0 0 (AW ad 40 sz) := by
  refine Met.ofW (cc := cX10_gives) (maxL := 8) (ret := (some .boolean)) (by decide) rfl ?_
  intro p e s m args below meth c s₁ B hml hv
  obtain ⟨rfl, hsz, ⟨hP, hK⟩⟩ := hv
  have F : CallFix p m c cX10_gives 8 s ([.ref (ad 0), .int a1, .int a2, .int a3, .int a4, .int a5, .int a6] : List Value).toArray lw_U RX10 := ⟨B.exec, B.bytes, hml, findClass_of_methodNamed B.named, fun w h => atoms_spec (ws := wU_X10_gives) B.pre w (List.mem_cons_of_mem _ h)⟩
  have hx := F.1
  have hb := F.2.1
  have hown := F.2.2.2.1
  have hts := F.2.2.2.2
  have hr := B.returns
  have hlocks := B.notSynchronized
  subst hsz
  have hDs : ∀ σ, va_D (AW ad 40 s.heap.size) ((wdM ad cI) σ) := fun σ => wdM_D hap σ
  have hS : va_S (AW ad 40 s.heap.size) s.heap s.heap [] := va_S.rf
  have lab_3 : ∀ (n : Nat), ∀ (σ : St) (x1 : Int32) (x2 : Int32) (x3 : Int32) (x4 : Int32) (x5 : Int32) (x6 : Int32) (x7 : Int32) (H : Heap) (locs : List Loc) (ls : Array Slot), w_X10_gives_3 K n σ x1 x2 x3 x4 x5 x6 x7 → va_P D vwCl ((wdM ad cI) σ) H → va_S (AW ad 40 s.heap.size) s.heap H locs → lv_has ls 8 [(0, .ref (ad 0)), (1, .int x1), (2, .int x2), (3, .int x3), (4, .int x4), (5, .int x5), (6, .int x6), (7, .int x7)] → W p l e (headSpec wU_X10_gives rm_X10_gives).room s m ([.ref (ad 0), .int a1, .int a2, .int a3, .int a4, .int a5, .int a6] : List Value).toArray below meth c H locs 0 0 (MQ below (va_Qi (fun r u => zb r ∧ K r u) (inW D (wdM ad cI) [(cI, .int)]) (AW ad 40 s.heap.size)) ([.ref (ad 0), .int a1, .int a2, .int a3, .int a4, .int a5, .int a6] : List Value).toArray s 0 0 (AW ad 40 s.heap.size)) (F0 m 3 ls []) := by
    intro n
    induction n with
    | zero =>
      intro σ x1 x2 x3 x4 x5 x6 x7 H locs ls hw
      exact hw.elim
    | succ n hL3 =>
      intro σ x1 x2 x3 x4 x5 x6 x7 H locs ls hw hP hS hl
      have hw : b_X10_gives_3 (w_X10_gives_3 K n) K σ x1 x2 x3 x4 x5 x6 x7 := hw
      unfold b_X10_gives_3 at hw
      generalize w_X10_gives_3 K n = L3 at hw hL3
      refine lv_iload hx hb dX10_gives_3 (lv_at hl 7 rfl) ?_
      refine lv_aload_n hx hb dX10_gives_5 rfl (lv_at hl 0 rfl) ?_
      refine gM_X10_ways F hK hP (hts _ mw_445) dX10_gives_6 ?_
      refine lv_icmp_ge (tgt := 70) hx hb dX10_gives_9 (by decide) (fun c_10 => ?_) (fun c_10 => ?_)
      · have hw := hw.1 c_10
        refine lv_iconst (v := 1) hx hb dX10_gives_70 (by decide) ?_
        exact rtZ F hr hlocks hK hw (Or.inr rfl) hP hS dX10_gives_71
      · have hw := hw.2 c_10
        refine lv_aload_n hx hb dX10_gives_12 rfl (lv_at hl 0 rfl) ?_
        refine gM_X10_wayFrom F hK hP (hts _ mw_446) dX10_gives_13 ?_
        refine lv_iload hx hb dX10_gives_16 (lv_at hl 7 rfl) ?_
        obtain ⟨i_9, hw⟩ := hw
        refine lM_X10_wayFrom F hK hP i_9 dX10_gives_18 ?_
        refine lv_iload_n hx hb dX10_gives_19 rfl (lv_at hl 1 rfl) ?_
        refine lv_icmp_ne (tgt := 64) hx hb dX10_gives_20 (by decide) (fun c_8 => ?_) (fun c_8 => ?_)
        · have hw := hw.1 c_8
          refine lv_iinc (v := (x7 + 1)) (lv' := [(7, .int (x7 + 1)), (0, .ref (ad 0)), (1, .int x1), (2, .int x2), (3, .int x3), (4, .int x4), (5, .int x5), (6, .int x6)]) hx hb dX10_gives_64 hl (k := 7) rfl rfl (by decide) rfl (fun ls hl => ?_)
          refine lv_goto (tgt := 3) hx hb dX10_gives_67 (by decide) ?_
          exact hL3 _ _ _ _ _ _ _ _ _ _ _ hw hP hS (lv_sub hl [1, 2, 3, 4, 5, 6, 7, 0] rfl)
        · have hw := hw.2 c_8
          refine lv_aload_n hx hb dX10_gives_23 rfl (lv_at hl 0 rfl) ?_
          refine gM_X10_waySide F hK hP (hts _ mw_447) dX10_gives_24 ?_
          refine lv_iload hx hb dX10_gives_27 (lv_at hl 7 rfl) ?_
          obtain ⟨i_7, hw⟩ := hw
          refine lM_X10_waySide F hK hP i_7 dX10_gives_29 ?_
          refine lv_iload_n hx hb dX10_gives_30 rfl (lv_at hl 2 rfl) ?_
          refine lv_icmp_ne (tgt := 64) hx hb dX10_gives_31 (by decide) (fun c_6 => ?_) (fun c_6 => ?_)
          · have hw := hw.1 c_6
            refine lv_iinc (v := (x7 + 1)) (lv' := [(7, .int (x7 + 1)), (0, .ref (ad 0)), (1, .int x1), (2, .int x2), (3, .int x3), (4, .int x4), (5, .int x5), (6, .int x6)]) hx hb dX10_gives_64 hl (k := 7) rfl rfl (by decide) rfl (fun ls hl => ?_)
            refine lv_goto (tgt := 3) hx hb dX10_gives_67 (by decide) ?_
            exact hL3 _ _ _ _ _ _ _ _ _ _ _ hw hP hS (lv_sub hl [1, 2, 3, 4, 5, 6, 7, 0] rfl)
          · have hw := hw.2 c_6
            refine lv_aload_n hx hb dX10_gives_34 rfl (lv_at hl 0 rfl) ?_
            refine lv_aload_n hx hb dX10_gives_35 rfl (lv_at hl 0 rfl) ?_
            refine gM_X10_wayTo F hK hP (hts _ mw_448) dX10_gives_36 ?_
            refine lv_iload hx hb dX10_gives_39 (lv_at hl 7 rfl) ?_
            obtain ⟨i_5, hw⟩ := hw
            refine lM_X10_wayTo F hK hP i_5 dX10_gives_41 ?_
            refine lv_aload_n hx hb dX10_gives_42 rfl (lv_at hl 0 rfl) ?_
            refine gM_X10_wayPort F hK hP (hts _ mw_449) dX10_gives_43 ?_
            refine lv_iload hx hb dX10_gives_46 (lv_at hl 7 rfl) ?_
            obtain ⟨i_4, hw⟩ := hw
            refine lM_X10_wayPort F hK hP i_4 dX10_gives_48 ?_
            refine lv_iload_n hx hb dX10_gives_49 rfl (lv_at hl 3 rfl) ?_
            refine lv_iload hx hb dX10_gives_50 (lv_at hl 4 rfl) ?_
            refine lv_iload hx hb dX10_gives_52 (lv_at hl 5 rfl) ?_
            refine lv_iload hx hb dX10_gives_54 (lv_at hl 6 rfl) ?_
            refine cvI (As := [.int (gA σ 5 (x7).toNatClampNeg), .int (gA σ 6 (x7).toNatClampNeg), .int x3, .int x4, .int x5, .int x6]) (rest := []) F hK hP hS (c_X10_comes l D ad cI hap H.size _ _ _ _ _ _ _ _ hw) (cwV 6 hts gU_X10_178 rfl rfl rfl (by decide +kernel) ⟨Nat.le_of_ble_eq_true rfl, Nat.le_of_ble_eq_true rfl⟩) (va_recv hK hP (ci := 7) (q0 := 0) rfl rfl) rfl hl.1 rfl (Nat.le_of_ble_eq_true rfl) dX10_gives_56 ⟨Nat.zero_le _, Nat.zero_le _⟩ (fun r_2 u_1 H locs hw hP hS => ?_)
            obtain ⟨zr_2, hw⟩ := hw
            refine lv_if_ne (tgt := 64) hx hb dX10_gives_59 (by decide) (fun c_3 => ?_) (fun c_3 => ?_)
            · have hw := hw.1 c_3
              refine lv_iinc (v := (x7 + 1)) (lv' := [(7, .int (x7 + 1)), (0, .ref (ad 0)), (1, .int x1), (2, .int x2), (3, .int x3), (4, .int x4), (5, .int x5), (6, .int x6)]) hx hb dX10_gives_64 hl (k := 7) rfl rfl (by decide) rfl (fun ls hl => ?_)
              refine lv_goto (tgt := 3) hx hb dX10_gives_67 (by decide) ?_
              exact hL3 _ _ _ _ _ _ _ _ _ _ _ hw hP hS (lv_sub hl [1, 2, 3, 4, 5, 6, 7, 0] rfl)
            · have hw := hw.2 c_3
              refine lv_iconst (v := 0) hx hb dX10_gives_62 (by decide) ?_
              exact rtZ F hr hlocks hK hw (Or.inl rfl) hP hS dX10_gives_63
  have hl := lv_entry ([.ref (ad 0), .int a1, .int a2, .int a3, .int a4, .int a5, .int a6]) (n := 8) (Nat.le_of_ble_eq_true rfl)
  rw [lg_entry_eq]
  generalize (lg_sl ([.ref (ad 0), .int a1, .int a2, .int a3, .int a4, .int a5, .int a6]) ++ List.replicate (8 - (lg_sl ([.ref (ad 0), .int a1, .int a2, .int a3, .int a4, .int a5, .int a6])).length) Slot.unset).toArray = ls at hl ⊢
  have hl : lv_has ls 8 [(0, .ref (ad 0)), (1, .int a1), (2, .int a2), (3, .int a3), (4, .int a4), (5, .int a5), (6, .int a6)] := hl
  have key : ∀ (H : Heap) (locs : List Loc), va_P D vwCl ((wdM ad cI) σ) H → va_S (AW ad 40 s.heap.size) s.heap H locs → W p l e (headSpec wU_X10_gives rm_X10_gives).room s m ([.ref (ad 0), .int a1, .int a2, .int a3, .int a4, .int a5, .int a6] : List Value).toArray below meth c H locs 0 0 (MQ below (va_Qi (fun r u => zb r ∧ K r u) (inW D (wdM ad cI) [(cI, .int)]) (AW ad 40 s.heap.size)) ([.ref (ad 0), .int a1, .int a2, .int a3, .int a4, .int a5, .int a6] : List Value).toArray s 0 0 (AW ad 40 s.heap.size)) (F0 m 0 ls []) := by
    intro H locs hP hS
    unfold w_X10_gives at hw
    refine lv_iconst (v := 0) hx hb dX10_gives_0 (by decide) ?_
    refine lv_istore (lv' := [(7, .int 0), (0, .ref (ad 0)), (1, .int a1), (2, .int a2), (3, .int a3), (4, .int a4), (5, .int a5), (6, .int a6)]) hx hb dX10_gives_1 hl (by decide) rfl (fun ls hl => ?_)
    obtain ⟨n_11, hw⟩ := hw
    exact lab_3 n_11 _ _ _ _ _ _ _ _ _ _ _ hw hP hS (lv_sub hl [1, 2, 3, 4, 5, 6, 7, 0] rfl)
  exact key s.heap [] hP hS

abbrev rm_X10_faults : Room := { frames := 4, cells := 0, slots := 0, locals := 99 }
set_option maxHeartbeats 4000000 in
set_option maxRecDepth 100000 in
theorem c_X10_faults (l : Launch) (D : va_G) (ad : Nat → Nat) (cI : ClassId) (hap : apart ad 40) (sz : Nat) (σ : St) (a1 : Int32) (a2 : Int32) (a3 : Int32) (K : Int32 → St → Prop) (hw : w_X10_faults σ a1 a2 a3 K) : Met l yX10_faults wU_X10_faults rm_X10_faults (va_Pc [.ref (ad 0), .int a1, .int a2, .int a3] (fun U => U.heap.size = sz ∧ inW D (wdM ad cI) [(cI, .int)] σ U)) (va_Qi (fun r u => zb r ∧ K r u) (inW D (wdM ad cI) [(cI, .int)]) (AW ad 40 sz)) 0 0 (AW ad 40 sz) := by
  refine Met.ofW (cc := cX10_faults) (maxL := 4) (ret := (some .boolean)) (by decide) rfl ?_
  intro p e s m args below meth c s₁ B hml hv
  obtain ⟨rfl, hsz, ⟨hP, hK⟩⟩ := hv
  have F : CallFix p m c cX10_faults 4 s ([.ref (ad 0), .int a1, .int a2, .int a3] : List Value).toArray lw_U RX10 := ⟨B.exec, B.bytes, hml, findClass_of_methodNamed B.named, fun w h => atoms_spec (ws := wU_X10_faults) B.pre w (List.mem_cons_of_mem _ h)⟩
  have hx := F.1
  have hb := F.2.1
  have hown := F.2.2.2.1
  have hts := F.2.2.2.2
  have hr := B.returns
  have hlocks := B.notSynchronized
  subst hsz
  have hDs : ∀ σ, va_D (AW ad 40 s.heap.size) ((wdM ad cI) σ) := fun σ => wdM_D hap σ
  have hS : va_S (AW ad 40 s.heap.size) s.heap s.heap [] := va_S.rf
  have hl := lv_entry ([.ref (ad 0), .int a1, .int a2, .int a3]) (n := 4) (Nat.le_of_ble_eq_true rfl)
  rw [lg_entry_eq]
  generalize (lg_sl ([.ref (ad 0), .int a1, .int a2, .int a3]) ++ List.replicate (4 - (lg_sl ([.ref (ad 0), .int a1, .int a2, .int a3])).length) Slot.unset).toArray = ls at hl ⊢
  have hl : lv_has ls 4 [(0, .ref (ad 0)), (1, .int a1), (2, .int a2), (3, .int a3)] := hl
  have key : ∀ (H : Heap) (locs : List Loc), va_P D vwCl ((wdM ad cI) σ) H → va_S (AW ad 40 s.heap.size) s.heap H locs → W p l e (headSpec wU_X10_faults rm_X10_faults).room s m ([.ref (ad 0), .int a1, .int a2, .int a3] : List Value).toArray below meth c H locs 0 0 (MQ below (va_Qi (fun r u => zb r ∧ K r u) (inW D (wdM ad cI) [(cI, .int)]) (AW ad 40 s.heap.size)) ([.ref (ad 0), .int a1, .int a2, .int a3] : List Value).toArray s 0 0 (AW ad 40 s.heap.size)) (F0 m 0 ls []) := by
    intro H locs hP hS
    unfold w_X10_faults at hw
    refine lv_aload_n hx hb dX10_faults_0 rfl (lv_at hl 0 rfl) ?_
    refine lv_iload_n hx hb dX10_faults_1 rfl (lv_at hl 1 rfl) ?_
    refine lv_iconst (v := 0) hx hb dX10_faults_2 (by decide) ?_
    refine lv_iload_n hx hb dX10_faults_3 rfl (lv_at hl 2 rfl) ?_
    refine lv_iconst (v := 3) hx hb dX10_faults_4 (by decide) ?_
    refine lv_iload_n hx hb dX10_faults_5 rfl (lv_at hl 3 rfl) ?_
    refine lv_iload_n hx hb dX10_faults_6 rfl (lv_at hl 1 rfl) ?_
    refine cvI (As := [.int a1, .int 0, .int a2, .int 3, .int a3, .int a1]) (rest := []) F hK hP hS (c_X10_gives l D ad cI hap H.size _ _ _ _ _ _ _ _ hw) (cwV 6 hts gU_X10_182 rfl rfl rfl (by decide +kernel) ⟨Nat.le_of_ble_eq_true rfl, Nat.le_of_ble_eq_true rfl⟩) (va_recv hK hP (ci := 7) (q0 := 0) rfl rfl) rfl hl.1 rfl (Nat.le_of_ble_eq_true rfl) dX10_faults_7 ⟨Nat.zero_le _, Nat.zero_le _⟩ (fun r_2 u_1 H locs hw hP hS => ?_)
    obtain ⟨zr_2, hw⟩ := hw
    exact rtZ F hr hlocks hK hw zr_2 hP hS dX10_faults_10
  exact key s.heap [] hP hS

abbrev rm_X10_kindAt : Room := { frames := 0, cells := 0, slots := 0, locals := 0 }
set_option maxHeartbeats 4000000 in
set_option maxRecDepth 100000 in
theorem c_X10_kindAt (l : Launch) (D : va_G) (ad : Nat → Nat) (cI : ClassId) (hap : apart ad 40) (sz : Nat) (σ : St) (a1 : Int32) (a2 : Int32) (K : Int32 → St → Prop) (hw : w_X10_kindAt σ a1 a2 K) : Met l yX10_kindAt wU_X10_kindAt rm_X10_kindAt (va_Pc [.ref (ad 0), .int a1, .int a2] (fun U => U.heap.size = sz ∧ inW D (wdM ad cI) [(cI, .int)] σ U)) (va_Qi K (inW D (wdM ad cI) [(cI, .int)]) (AW ad 40 sz)) 0 0 (AW ad 40 sz) := by
  refine Met.ofW (cc := cX10_kindAt) (maxL := 3) (ret := (some .int)) (by decide) rfl ?_
  intro p e s m args below meth c s₁ B hml hv
  obtain ⟨rfl, hsz, ⟨hP, hK⟩⟩ := hv
  have F : CallFix p m c cX10_kindAt 3 s ([.ref (ad 0), .int a1, .int a2] : List Value).toArray lw_U RX10 := ⟨B.exec, B.bytes, hml, findClass_of_methodNamed B.named, fun w h => atoms_spec (ws := wU_X10_kindAt) B.pre w (List.mem_cons_of_mem _ h)⟩
  have hx := F.1
  have hb := F.2.1
  have hown := F.2.2.2.1
  have hts := F.2.2.2.2
  have hr := B.returns
  have hlocks := B.notSynchronized
  subst hsz
  have hDs : ∀ σ, va_D (AW ad 40 s.heap.size) ((wdM ad cI) σ) := fun σ => wdM_D hap σ
  have hS : va_S (AW ad 40 s.heap.size) s.heap s.heap [] := va_S.rf
  have hl := lv_entry ([.ref (ad 0), .int a1, .int a2]) (n := 3) (Nat.le_of_ble_eq_true rfl)
  rw [lg_entry_eq]
  generalize (lg_sl ([.ref (ad 0), .int a1, .int a2]) ++ List.replicate (3 - (lg_sl ([.ref (ad 0), .int a1, .int a2])).length) Slot.unset).toArray = ls at hl ⊢
  have hl : lv_has ls 3 [(0, .ref (ad 0)), (1, .int a1), (2, .int a2)] := hl
  have key : ∀ (H : Heap) (locs : List Loc), va_P D vwCl ((wdM ad cI) σ) H → va_S (AW ad 40 s.heap.size) s.heap H locs → W p l e (headSpec wU_X10_kindAt rm_X10_kindAt).room s m ([.ref (ad 0), .int a1, .int a2] : List Value).toArray below meth c H locs 0 0 (MQ below (va_Qi K (inW D (wdM ad cI) [(cI, .int)]) (AW ad 40 s.heap.size)) ([.ref (ad 0), .int a1, .int a2] : List Value).toArray s 0 0 (AW ad 40 s.heap.size)) (F0 m 0 ls []) := by
    intro H locs hP hS
    unfold w_X10_kindAt at hw
    refine lv_aload_n hx hb dX10_kindAt_0 rfl (lv_at hl 0 rfl) ?_
    refine gM_X10_pKind F hK hP (hts _ mw_482) dX10_kindAt_1 ?_
    refine lv_iconst (v := 3) hx hb dX10_kindAt_4 (by decide) ?_
    refine lv_iload_n hx hb dX10_kindAt_5 rfl (lv_at hl 1 rfl) ?_
    refine lv_imul hx hb dX10_kindAt_6 ?_
    refine lv_iload_n hx hb dX10_kindAt_7 rfl (lv_at hl 2 rfl) ?_
    refine lv_iadd hx hb dX10_kindAt_8 ?_
    obtain ⟨i_1, hw⟩ := hw
    refine lM_X10_pKind F hK hP i_1 dX10_kindAt_9 ?_
    exact rtI F hr hlocks hK hw hP hS dX10_kindAt_10
  exact key s.heap [] hP hS

abbrev rm_X10_valueAt : Room := { frames := 0, cells := 0, slots := 0, locals := 0 }
set_option maxHeartbeats 4000000 in
set_option maxRecDepth 100000 in
theorem c_X10_valueAt (l : Launch) (D : va_G) (ad : Nat → Nat) (cI : ClassId) (hap : apart ad 40) (sz : Nat) (σ : St) (a1 : Int32) (a2 : Int32) (K : Int32 → St → Prop) (hw : w_X10_valueAt σ a1 a2 K) : Met l yX10_valueAt wU_X10_valueAt rm_X10_valueAt (va_Pc [.ref (ad 0), .int a1, .int a2] (fun U => U.heap.size = sz ∧ inW D (wdM ad cI) [(cI, .int)] σ U)) (va_Qi K (inW D (wdM ad cI) [(cI, .int)]) (AW ad 40 sz)) 0 0 (AW ad 40 sz) := by
  refine Met.ofW (cc := cX10_valueAt) (maxL := 3) (ret := (some .int)) (by decide) rfl ?_
  intro p e s m args below meth c s₁ B hml hv
  obtain ⟨rfl, hsz, ⟨hP, hK⟩⟩ := hv
  have F : CallFix p m c cX10_valueAt 3 s ([.ref (ad 0), .int a1, .int a2] : List Value).toArray lw_U RX10 := ⟨B.exec, B.bytes, hml, findClass_of_methodNamed B.named, fun w h => atoms_spec (ws := wU_X10_valueAt) B.pre w (List.mem_cons_of_mem _ h)⟩
  have hx := F.1
  have hb := F.2.1
  have hown := F.2.2.2.1
  have hts := F.2.2.2.2
  have hr := B.returns
  have hlocks := B.notSynchronized
  subst hsz
  have hDs : ∀ σ, va_D (AW ad 40 s.heap.size) ((wdM ad cI) σ) := fun σ => wdM_D hap σ
  have hS : va_S (AW ad 40 s.heap.size) s.heap s.heap [] := va_S.rf
  have hl := lv_entry ([.ref (ad 0), .int a1, .int a2]) (n := 3) (Nat.le_of_ble_eq_true rfl)
  rw [lg_entry_eq]
  generalize (lg_sl ([.ref (ad 0), .int a1, .int a2]) ++ List.replicate (3 - (lg_sl ([.ref (ad 0), .int a1, .int a2])).length) Slot.unset).toArray = ls at hl ⊢
  have hl : lv_has ls 3 [(0, .ref (ad 0)), (1, .int a1), (2, .int a2)] := hl
  have key : ∀ (H : Heap) (locs : List Loc), va_P D vwCl ((wdM ad cI) σ) H → va_S (AW ad 40 s.heap.size) s.heap H locs → W p l e (headSpec wU_X10_valueAt rm_X10_valueAt).room s m ([.ref (ad 0), .int a1, .int a2] : List Value).toArray below meth c H locs 0 0 (MQ below (va_Qi K (inW D (wdM ad cI) [(cI, .int)]) (AW ad 40 s.heap.size)) ([.ref (ad 0), .int a1, .int a2] : List Value).toArray s 0 0 (AW ad 40 s.heap.size)) (F0 m 0 ls []) := by
    intro H locs hP hS
    unfold w_X10_valueAt at hw
    refine lv_aload_n hx hb dX10_valueAt_0 rfl (lv_at hl 0 rfl) ?_
    refine gM_X10_pValue F hK hP (hts _ mw_483) dX10_valueAt_1 ?_
    refine lv_iconst (v := 3) hx hb dX10_valueAt_4 (by decide) ?_
    refine lv_iload_n hx hb dX10_valueAt_5 rfl (lv_at hl 1 rfl) ?_
    refine lv_imul hx hb dX10_valueAt_6 ?_
    refine lv_iload_n hx hb dX10_valueAt_7 rfl (lv_at hl 2 rfl) ?_
    refine lv_iadd hx hb dX10_valueAt_8 ?_
    obtain ⟨i_1, hw⟩ := hw
    refine lM_X10_pValue F hK hP i_1 dX10_valueAt_9 ?_
    exact rtI F hr hlocks hK hw hP hS dX10_valueAt_10
  exact key s.heap [] hP hS

abbrev rm_X10_passes : Room := { frames := 4, cells := 0, slots := 0, locals := 99 }
set_option maxHeartbeats 4000000 in
set_option maxRecDepth 100000 in
theorem c_X10_passes (l : Launch) (D : va_G) (ad : Nat → Nat) (cI : ClassId) (hap : apart ad 40) (sz : Nat) (σ : St) (a1 : Int32) (a2 : Int32) (a3 : Int32) (K : Int32 → St → Prop) (hw : w_X10_passes σ a1 a2 a3 K) : Met l yX10_passes wU_X10_passes rm_X10_passes (va_Pc [.ref (ad 0), .int a1, .int a2, .int a3] (fun U => U.heap.size = sz ∧ inW D (wdM ad cI) [(cI, .int)] σ U)) (va_Qi (fun r u => zb r ∧ K r u) (inW D (wdM ad cI) [(cI, .int)]) (AW ad 40 sz)) 0 0 (AW ad 40 sz) := by
  refine Met.ofW (cc := cX10_passes) (maxL := 4) (ret := (some .boolean)) (by decide) rfl ?_
  intro p e s m args below meth c s₁ B hml hv
  obtain ⟨rfl, hsz, ⟨hP, hK⟩⟩ := hv
  have F : CallFix p m c cX10_passes 4 s ([.ref (ad 0), .int a1, .int a2, .int a3] : List Value).toArray lw_U RX10 := ⟨B.exec, B.bytes, hml, findClass_of_methodNamed B.named, fun w h => atoms_spec (ws := wU_X10_passes) B.pre w (List.mem_cons_of_mem _ h)⟩
  have hx := F.1
  have hb := F.2.1
  have hown := F.2.2.2.1
  have hts := F.2.2.2.2
  have hr := B.returns
  have hlocks := B.notSynchronized
  subst hsz
  have hDs : ∀ σ, va_D (AW ad 40 s.heap.size) ((wdM ad cI) σ) := fun σ => wdM_D hap σ
  have hS : va_S (AW ad 40 s.heap.size) s.heap s.heap [] := va_S.rf
  have hl := lv_entry ([.ref (ad 0), .int a1, .int a2, .int a3]) (n := 4) (Nat.le_of_ble_eq_true rfl)
  rw [lg_entry_eq]
  generalize (lg_sl ([.ref (ad 0), .int a1, .int a2, .int a3]) ++ List.replicate (4 - (lg_sl ([.ref (ad 0), .int a1, .int a2, .int a3])).length) Slot.unset).toArray = ls at hl ⊢
  have hl : lv_has ls 4 [(0, .ref (ad 0)), (1, .int a1), (2, .int a2), (3, .int a3)] := hl
  have key : ∀ (H : Heap) (locs : List Loc), va_P D vwCl ((wdM ad cI) σ) H → va_S (AW ad 40 s.heap.size) s.heap H locs → W p l e (headSpec wU_X10_passes rm_X10_passes).room s m ([.ref (ad 0), .int a1, .int a2, .int a3] : List Value).toArray below meth c H locs 0 0 (MQ below (va_Qi (fun r u => zb r ∧ K r u) (inW D (wdM ad cI) [(cI, .int)]) (AW ad 40 s.heap.size)) ([.ref (ad 0), .int a1, .int a2, .int a3] : List Value).toArray s 0 0 (AW ad 40 s.heap.size)) (F0 m 0 ls []) := by
    intro H locs hP hS
    unfold w_X10_passes at hw
    refine lv_aload_n hx hb dX10_passes_0 rfl (lv_at hl 0 rfl) ?_
    refine lv_aload_n hx hb dX10_passes_1 rfl (lv_at hl 0 rfl) ?_
    refine gM_X10_pAct F hK hP (hts _ mw_472) dX10_passes_2 ?_
    refine lv_iload_n hx hb dX10_passes_5 rfl (lv_at hl 1 rfl) ?_
    obtain ⟨i_6, hw⟩ := hw
    refine lM_X10_pAct F hK hP i_6 dX10_passes_6 ?_
    refine lv_iload_n hx hb dX10_passes_7 rfl (lv_at hl 2 rfl) ?_
    refine lv_iload_n hx hb dX10_passes_8 rfl (lv_at hl 3 rfl) ?_
    refine lv_aload_n hx hb dX10_passes_9 rfl (lv_at hl 0 rfl) ?_
    refine gM_X10_pKind F hK hP (hts _ mw_482) dX10_passes_10 ?_
    refine lv_iconst (v := 3) hx hb dX10_passes_13 (by decide) ?_
    refine lv_iload_n hx hb dX10_passes_14 rfl (lv_at hl 1 rfl) ?_
    refine lv_imul hx hb dX10_passes_15 ?_
    obtain ⟨i_5, hw⟩ := hw
    refine lM_X10_pKind F hK hP i_5 dX10_passes_16 ?_
    refine lv_aload_n hx hb dX10_passes_17 rfl (lv_at hl 0 rfl) ?_
    refine gM_X10_pValue F hK hP (hts _ mw_483) dX10_passes_18 ?_
    refine lv_iconst (v := 3) hx hb dX10_passes_21 (by decide) ?_
    refine lv_iload_n hx hb dX10_passes_22 rfl (lv_at hl 1 rfl) ?_
    refine lv_imul hx hb dX10_passes_23 ?_
    obtain ⟨i_4, hw⟩ := hw
    refine lM_X10_pValue F hK hP i_4 dX10_passes_24 ?_
    refine lv_aload_n hx hb dX10_passes_25 rfl (lv_at hl 0 rfl) ?_
    refine gM_X10_pOf F hK hP (hts _ mw_484) dX10_passes_26 ?_
    refine lv_iconst (v := 3) hx hb dX10_passes_29 (by decide) ?_
    refine lv_iload_n hx hb dX10_passes_30 rfl (lv_at hl 1 rfl) ?_
    refine lv_imul hx hb dX10_passes_31 ?_
    obtain ⟨i_3, hw⟩ := hw
    refine lM_X10_pOf F hK hP i_3 dX10_passes_32 ?_
    refine cvI (As := [.int (gA σ 14 (a1).toNatClampNeg), .int a2, .int a3, .int (gA σ 19 ((3 * a1)).toNatClampNeg), .int (gA σ 20 ((3 * a1)).toNatClampNeg), .int (gA σ 21 ((3 * a1)).toNatClampNeg)]) (rest := []) F hK hP hS (c_X10_gives l D ad cI hap H.size _ _ _ _ _ _ _ _ hw) (cwV 6 hts gU_X10_182 rfl rfl rfl (by decide +kernel) ⟨Nat.le_of_ble_eq_true rfl, Nat.le_of_ble_eq_true rfl⟩) (va_recv hK hP (ci := 7) (q0 := 0) rfl rfl) rfl hl.1 rfl (Nat.le_of_ble_eq_true rfl) dX10_passes_33 ⟨Nat.zero_le _, Nat.zero_le _⟩ (fun r_2 u_1 H locs hw hP hS => ?_)
    obtain ⟨zr_2, hw⟩ := hw
    exact rtZ F hr hlocks hK hw zr_2 hP hS dX10_passes_36
  exact key s.heap [] hP hS

abbrev rm_X10_faultOf : Room := { frames := 1, cells := 0, slots := 0, locals := 22 }
set_option maxHeartbeats 4000000 in
set_option maxRecDepth 100000 in
theorem c_X10_faultOf (l : Launch) (D : va_G) (ad : Nat → Nat) (cI : ClassId) (hap : apart ad 40) (sz : Nat) (σ : St) (a1 : Int32) (a2 : Int32) (K : Int32 → St → Prop) (hw : w_X10_faultOf σ a1 a2 K) : Met l yX10_faultOf wU_X10_faultOf rm_X10_faultOf (va_Pc [.ref (ad 0), .int a1, .int a2] (fun U => U.heap.size = sz ∧ inW D (wdM ad cI) [(cI, .int)] σ U)) (va_Qi K (inW D (wdM ad cI) [(cI, .int)]) (AW ad 40 sz)) 0 0 (AW ad 40 sz) := by
  refine Met.ofW (cc := cX10_faultOf) (maxL := 4) (ret := (some .int)) (by decide) rfl ?_
  intro p e s m args below meth c s₁ B hml hv
  obtain ⟨rfl, hsz, ⟨hP, hK⟩⟩ := hv
  have F : CallFix p m c cX10_faultOf 4 s ([.ref (ad 0), .int a1, .int a2] : List Value).toArray lw_U RX10 := ⟨B.exec, B.bytes, hml, findClass_of_methodNamed B.named, fun w h => atoms_spec (ws := wU_X10_faultOf) B.pre w (List.mem_cons_of_mem _ h)⟩
  have hx := F.1
  have hb := F.2.1
  have hown := F.2.2.2.1
  have hts := F.2.2.2.2
  have hr := B.returns
  have hlocks := B.notSynchronized
  subst hsz
  have hDs : ∀ σ, va_D (AW ad 40 s.heap.size) ((wdM ad cI) σ) := fun σ => wdM_D hap σ
  have hS : va_S (AW ad 40 s.heap.size) s.heap s.heap [] := va_S.rf
  have lab_2 : ∀ (n : Nat), ∀ (σ : St) (x1 : Int32) (x2 : Int32) (x3 : Int32) (H : Heap) (locs : List Loc) (ls : Array Slot), w_X10_faultOf_2 K n σ x1 x2 x3 → va_P D vwCl ((wdM ad cI) σ) H → va_S (AW ad 40 s.heap.size) s.heap H locs → lv_has ls 4 [(0, .ref (ad 0)), (1, .int x1), (2, .int x2), (3, .int x3)] → W p l e (headSpec wU_X10_faultOf rm_X10_faultOf).room s m ([.ref (ad 0), .int a1, .int a2] : List Value).toArray below meth c H locs 0 0 (MQ below (va_Qi K (inW D (wdM ad cI) [(cI, .int)]) (AW ad 40 s.heap.size)) ([.ref (ad 0), .int a1, .int a2] : List Value).toArray s 0 0 (AW ad 40 s.heap.size)) (F0 m 2 ls []) := by
    intro n
    induction n with
    | zero =>
      intro σ x1 x2 x3 H locs ls hw
      exact hw.elim
    | succ n hL2 =>
      intro σ x1 x2 x3 H locs ls hw hP hS hl
      have hw : b_X10_faultOf_2 (w_X10_faultOf_2 K n) K σ x1 x2 x3 := hw
      unfold b_X10_faultOf_2 at hw
      generalize w_X10_faultOf_2 K n = L2 at hw hL2
      refine lv_iload_n hx hb dX10_faultOf_2 rfl (lv_at hl 3 rfl) ?_
      refine lv_iload_n hx hb dX10_faultOf_3 rfl (lv_at hl 2 rfl) ?_
      refine lv_icmp_ge (tgt := 25) hx hb dX10_faultOf_4 (by decide) (fun c_4 => ?_) (fun c_4 => ?_)
      · have hw := hw.1 c_4
        refine lv_iconst (v := (-1)) hx hb dX10_faultOf_25 (by decide) ?_
        exact rtI F hr hlocks hK hw hP hS dX10_faultOf_26
      · have hw := hw.2 c_4
        refine lv_aload_n hx hb dX10_faultOf_7 rfl (lv_at hl 0 rfl) ?_
        refine lv_iload_n hx hb dX10_faultOf_8 rfl (lv_at hl 1 rfl) ?_
        refine lv_iload_n hx hb dX10_faultOf_9 rfl (lv_at hl 3 rfl) ?_
        refine cvI (As := [.int x1, .int x3]) (rest := []) F hK hP hS (c_X10_kindAt l D ad cI hap H.size _ _ _ _ hw) (cwV 2 hts gU_X10_185 rfl rfl rfl (by decide +kernel) ⟨Nat.le_of_ble_eq_true rfl, Nat.le_of_ble_eq_true rfl⟩) (va_recv hK hP (ci := 7) (q0 := 0) rfl rfl) rfl hl.1 rfl (Nat.le_of_ble_eq_true rfl) dX10_faultOf_10 ⟨Nat.zero_le _, Nat.zero_le _⟩ (fun r_2 u_1 H locs hw hP hS => ?_)
        refine lv_iconst (v := 3) hx hb dX10_faultOf_13 (by decide) ?_
        refine lv_icmp_ne (tgt := 19) hx hb dX10_faultOf_14 (by decide) (fun c_3 => ?_) (fun c_3 => ?_)
        · have hw := hw.1 c_3
          refine lv_iinc (v := (x3 + 1)) (lv' := [(3, .int (x3 + 1)), (0, .ref (ad 0)), (1, .int x1), (2, .int x2)]) hx hb dX10_faultOf_19 hl (k := 3) rfl rfl (by decide) rfl (fun ls hl => ?_)
          refine lv_goto (tgt := 2) hx hb dX10_faultOf_22 (by decide) ?_
          exact hL2 _ _ _ _ _ _ _ hw hP hS (lv_sub hl [1, 2, 3, 0] rfl)
        · have hw := hw.2 c_3
          refine lv_iload_n hx hb dX10_faultOf_17 rfl (lv_at hl 3 rfl) ?_
          exact rtI F hr hlocks hK hw hP hS dX10_faultOf_18
  have hl := lv_entry ([.ref (ad 0), .int a1, .int a2]) (n := 4) (Nat.le_of_ble_eq_true rfl)
  rw [lg_entry_eq]
  generalize (lg_sl ([.ref (ad 0), .int a1, .int a2]) ++ List.replicate (4 - (lg_sl ([.ref (ad 0), .int a1, .int a2])).length) Slot.unset).toArray = ls at hl ⊢
  have hl : lv_has ls 4 [(0, .ref (ad 0)), (1, .int a1), (2, .int a2)] := hl
  have key : ∀ (H : Heap) (locs : List Loc), va_P D vwCl ((wdM ad cI) σ) H → va_S (AW ad 40 s.heap.size) s.heap H locs → W p l e (headSpec wU_X10_faultOf rm_X10_faultOf).room s m ([.ref (ad 0), .int a1, .int a2] : List Value).toArray below meth c H locs 0 0 (MQ below (va_Qi K (inW D (wdM ad cI) [(cI, .int)]) (AW ad 40 s.heap.size)) ([.ref (ad 0), .int a1, .int a2] : List Value).toArray s 0 0 (AW ad 40 s.heap.size)) (F0 m 0 ls []) := by
    intro H locs hP hS
    unfold w_X10_faultOf at hw
    refine lv_iconst (v := 0) hx hb dX10_faultOf_0 (by decide) ?_
    refine lv_istore_n (lv' := [(3, .int 0), (0, .ref (ad 0)), (1, .int a1), (2, .int a2)]) hx hb dX10_faultOf_1 rfl hl (by decide) rfl (fun ls hl => ?_)
    obtain ⟨n_5, hw⟩ := hw
    exact lab_2 n_5 _ _ _ _ _ _ _ hw hP hS (lv_sub hl [1, 2, 3, 0] rfl)
  exact key s.heap [] hP hS

abbrev rm_X10_number : Room := { frames := 4, cells := 0, slots := 0, locals := 99 }
set_option maxHeartbeats 4000000 in
set_option maxRecDepth 100000 in
theorem c_X10_number (l : Launch) (D : va_G) (ad : Nat → Nat) (cI : ClassId) (hap : apart ad 40) (sz : Nat) (σ : St) (a1 : Int32) (a2 : Int32) (K : Int32 → St → Prop) (hw : w_X10_number σ a1 a2 K) : Met l yX10_number wU_X10_number rm_X10_number (va_Pc [.ref (ad 0), .int a1, .int a2] (fun U => U.heap.size = sz ∧ inW D (wdM ad cI) [(cI, .int)] σ U)) (va_Qi (fun r u => zb r ∧ K r u) (inW D (wdM ad cI) [(cI, .int)]) (AW ad 40 sz)) 0 0 (AW ad 40 sz) := by
  refine Met.ofW (cc := cX10_number) (maxL := 3) (ret := (some .boolean)) (by decide) rfl ?_
  intro p e s m args below meth c s₁ B hml hv
  obtain ⟨rfl, hsz, ⟨hP, hK⟩⟩ := hv
  have F : CallFix p m c cX10_number 3 s ([.ref (ad 0), .int a1, .int a2] : List Value).toArray lw_U RX10 := ⟨B.exec, B.bytes, hml, findClass_of_methodNamed B.named, fun w h => atoms_spec (ws := wU_X10_number) B.pre w (List.mem_cons_of_mem _ h)⟩
  have hx := F.1
  have hb := F.2.1
  have hown := F.2.2.2.1
  have hts := F.2.2.2.2
  have hr := B.returns
  have hlocks := B.notSynchronized
  subst hsz
  have hDs : ∀ σ, va_D (AW ad 40 s.heap.size) ((wdM ad cI) σ) := fun σ => wdM_D hap σ
  have hS : va_S (AW ad 40 s.heap.size) s.heap s.heap [] := va_S.rf
  have hl := lv_entry ([.ref (ad 0), .int a1, .int a2]) (n := 3) (Nat.le_of_ble_eq_true rfl)
  rw [lg_entry_eq]
  generalize (lg_sl ([.ref (ad 0), .int a1, .int a2]) ++ List.replicate (3 - (lg_sl ([.ref (ad 0), .int a1, .int a2])).length) Slot.unset).toArray = ls at hl ⊢
  have hl : lv_has ls 3 [(0, .ref (ad 0)), (1, .int a1), (2, .int a2)] := hl
  have key : ∀ (H : Heap) (locs : List Loc), va_P D vwCl ((wdM ad cI) σ) H → va_S (AW ad 40 s.heap.size) s.heap H locs → W p l e (headSpec wU_X10_number rm_X10_number).room s m ([.ref (ad 0), .int a1, .int a2] : List Value).toArray below meth c H locs 0 0 (MQ below (va_Qi (fun r u => zb r ∧ K r u) (inW D (wdM ad cI) [(cI, .int)]) (AW ad 40 s.heap.size)) ([.ref (ad 0), .int a1, .int a2] : List Value).toArray s 0 0 (AW ad 40 s.heap.size)) (F0 m 0 ls []) := by
    intro H locs hP hS
    unfold w_X10_number at hw
    refine lv_aload_n hx hb dX10_number_0 rfl (lv_at hl 0 rfl) ?_
    refine lv_aload_n hx hb dX10_number_1 rfl (lv_at hl 0 rfl) ?_
    refine gM_X10_pAct F hK hP (hts _ mw_472) dX10_number_2 ?_
    refine lv_iload_n hx hb dX10_number_5 rfl (lv_at hl 1 rfl) ?_
    obtain ⟨i_4, hw⟩ := hw
    refine lM_X10_pAct F hK hP i_4 dX10_number_6 ?_
    refine lv_iconst (v := 0) hx hb dX10_number_7 (by decide) ?_
    refine lv_aload_n hx hb dX10_number_8 rfl (lv_at hl 0 rfl) ?_
    refine gM_X10_pColour F hK hP (hts _ mw_473) dX10_number_9 ?_
    refine lv_iload_n hx hb dX10_number_12 rfl (lv_at hl 1 rfl) ?_
    obtain ⟨i_3, hw⟩ := hw
    refine lM_X10_pColour F hK hP i_3 dX10_number_13 ?_
    refine lv_iconst (v := 1) hx hb dX10_number_14 (by decide) ?_
    refine lv_iload_n hx hb dX10_number_15 rfl (lv_at hl 2 rfl) ?_
    refine lv_iconst (v := (-1)) hx hb dX10_number_16 (by decide) ?_
    refine cvI (As := [.int (gA σ 14 (a1).toNatClampNeg), .int 0, .int (gA σ 15 (a1).toNatClampNeg), .int 1, .int a2, .int (-1)]) (rest := []) F hK hP hS (c_X10_gives l D ad cI hap H.size _ _ _ _ _ _ _ _ hw) (cwV 6 hts gU_X10_182 rfl rfl rfl (by decide +kernel) ⟨Nat.le_of_ble_eq_true rfl, Nat.le_of_ble_eq_true rfl⟩) (va_recv hK hP (ci := 7) (q0 := 0) rfl rfl) rfl hl.1 rfl (Nat.le_of_ble_eq_true rfl) dX10_number_17 ⟨Nat.zero_le _, Nat.zero_le _⟩ (fun r_2 u_1 H locs hw hP hS => ?_)
    obtain ⟨zr_2, hw⟩ := hw
    exact rtZ F hr hlocks hK hw zr_2 hP hS dX10_number_20
  exact key s.heap [] hP hS

abbrev rm_X10_switches : Room := { frames := 5, cells := 0, slots := 0, locals := 122 }
set_option maxHeartbeats 4000000 in
set_option maxRecDepth 100000 in
theorem c_X10_switches (l : Launch) (D : va_G) (ad : Nat → Nat) (cI : ClassId) (hap : apart ad 40) (sz : Nat) (σ : St) (a1 : Int32) (K : Int32 → St → Prop) (hw : w_X10_switches σ a1 K) : Met l yX10_switches wU_X10_switches rm_X10_switches (va_Pc [.ref (ad 0), .int a1] (fun U => U.heap.size = sz ∧ inW D (wdM ad cI) [(cI, .int)] σ U)) (va_Qi (fun r u => zb r ∧ K r u) (inW D (wdM ad cI) [(cI, .int)]) (AW ad 40 sz)) 0 0 (AW ad 40 sz) := by
  refine Met.ofW (cc := cX10_switches) (maxL := 2) (ret := (some .boolean)) (by decide) rfl ?_
  intro p e s m args below meth c s₁ B hml hv
  obtain ⟨rfl, hsz, ⟨hP, hK⟩⟩ := hv
  have F : CallFix p m c cX10_switches 2 s ([.ref (ad 0), .int a1] : List Value).toArray lw_U RX10 := ⟨B.exec, B.bytes, hml, findClass_of_methodNamed B.named, fun w h => atoms_spec (ws := wU_X10_switches) B.pre w (List.mem_cons_of_mem _ h)⟩
  have hx := F.1
  have hb := F.2.1
  have hown := F.2.2.2.1
  have hts := F.2.2.2.2
  have hr := B.returns
  have hlocks := B.notSynchronized
  subst hsz
  have hDs : ∀ σ, va_D (AW ad 40 s.heap.size) ((wdM ad cI) σ) := fun σ => wdM_D hap σ
  have hS : va_S (AW ad 40 s.heap.size) s.heap s.heap [] := va_S.rf
  have hl := lv_entry ([.ref (ad 0), .int a1]) (n := 2) (Nat.le_of_ble_eq_true rfl)
  rw [lg_entry_eq]
  generalize (lg_sl ([.ref (ad 0), .int a1]) ++ List.replicate (2 - (lg_sl ([.ref (ad 0), .int a1])).length) Slot.unset).toArray = ls at hl ⊢
  have hl : lv_has ls 2 [(0, .ref (ad 0)), (1, .int a1)] := hl
  have key : ∀ (H : Heap) (locs : List Loc), va_P D vwCl ((wdM ad cI) σ) H → va_S (AW ad 40 s.heap.size) s.heap H locs → W p l e (headSpec wU_X10_switches rm_X10_switches).room s m ([.ref (ad 0), .int a1] : List Value).toArray below meth c H locs 0 0 (MQ below (va_Qi (fun r u => zb r ∧ K r u) (inW D (wdM ad cI) [(cI, .int)]) (AW ad 40 s.heap.size)) ([.ref (ad 0), .int a1] : List Value).toArray s 0 0 (AW ad 40 s.heap.size)) (F0 m 0 ls []) := by
    intro H locs hP hS
    unfold w_X10_switches at hw
    refine lv_aload_n hx hb dX10_switches_0 rfl (lv_at hl 0 rfl) ?_
    refine lv_iload_n hx hb dX10_switches_1 rfl (lv_at hl 1 rfl) ?_
    refine lv_iconst (v := 1) hx hb dX10_switches_2 (by decide) ?_
    refine cvI (As := [.int a1, .int 1]) (rest := []) F hK hP hS (c_X10_kindAt l D ad cI hap H.size _ _ _ _ hw) (cwV 2 hts gU_X10_185 rfl rfl rfl (by decide +kernel) ⟨Nat.le_of_ble_eq_true rfl, Nat.le_of_ble_eq_true rfl⟩) (va_recv hK hP (ci := 7) (q0 := 0) rfl rfl) rfl hl.1 rfl (Nat.le_of_ble_eq_true rfl) dX10_switches_3 ⟨Nat.zero_le _, Nat.zero_le _⟩ (fun r_2 u_1 H locs hw hP hS => ?_)
    refine lv_iconst (v := 1) hx hb dX10_switches_6 (by decide) ?_
    refine lv_icmp_eq (tgt := 22) hx hb dX10_switches_7 (by decide) (fun c_12 => ?_) (fun c_12 => ?_)
    · have hw := hw.1 c_12
      refine lv_aload_n hx hb dX10_switches_22 rfl (lv_at hl 0 rfl) ?_
      refine lv_iload_n hx hb dX10_switches_23 rfl (lv_at hl 1 rfl) ?_
      refine lv_aload_n hx hb dX10_switches_24 rfl (lv_at hl 0 rfl) ?_
      refine lv_iload_n hx hb dX10_switches_25 rfl (lv_at hl 1 rfl) ?_
      refine lv_iconst (v := 1) hx hb dX10_switches_26 (by decide) ?_
      refine cvI (As := [.int a1, .int 1]) (rest := [.int a1, .ref (ad 0)]) F hK hP hS (c_X10_valueAt l D ad cI hap H.size _ _ _ _ hw) (cwV 2 hts gU_X10_221 rfl rfl rfl (by decide +kernel) ⟨Nat.le_of_ble_eq_true rfl, Nat.le_of_ble_eq_true rfl⟩) (va_recv hK hP (ci := 7) (q0 := 0) rfl rfl) rfl hl.1 rfl (Nat.le_of_ble_eq_true rfl) dX10_switches_27 ⟨Nat.zero_le _, Nat.zero_le _⟩ (fun r_4 u_3 H locs hw hP hS => ?_)
      refine lv_if_eq (tgt := 37) hx hb dX10_switches_30 (by decide) (fun c_11 => ?_) (fun c_11 => ?_)
      · have hw := hw.1 c_11
        refine lv_iconst (v := 1) hx hb dX10_switches_37 (by decide) ?_
        refine lv_aload_n hx hb dX10_switches_38 rfl (lv_at hl 0 rfl) ?_
        refine gM_X10_pColour F hK hP (hts _ mw_473) dX10_switches_39 ?_
        refine lv_iload_n hx hb dX10_switches_42 rfl (lv_at hl 1 rfl) ?_
        obtain ⟨i_7, hw⟩ := hw
        refine lM_X10_pColour F hK hP i_7 dX10_switches_43 ?_
        refine cvI (As := [.int a1, .int 1, .int (gA u_3 15 (a1).toNatClampNeg)]) (rest := []) F hK hP hS (c_X10_passes l D ad cI hap H.size _ _ _ _ _ hw) (cwV 3 hts gU_X10_188 rfl rfl rfl (by decide +kernel) ⟨Nat.le_of_ble_eq_true rfl, Nat.le_of_ble_eq_true rfl⟩) (va_recv hK hP (ci := 7) (q0 := 0) rfl rfl) rfl hl.1 rfl (Nat.le_of_ble_eq_true rfl) dX10_switches_44 ⟨Nat.zero_le _, Nat.zero_le _⟩ (fun r_6 u_5 H locs hw hP hS => ?_)
        obtain ⟨zr_6, hw⟩ := hw
        exact rtZ F hr hlocks hK hw zr_6 hP hS dX10_switches_47
      · have hw := hw.2 c_11
        refine lv_iconst (v := 0) hx hb dX10_switches_33 (by decide) ?_
        refine lv_goto (tgt := 38) hx hb dX10_switches_34 (by decide) ?_
        refine lv_aload_n hx hb dX10_switches_38 rfl (lv_at hl 0 rfl) ?_
        refine gM_X10_pColour F hK hP (hts _ mw_473) dX10_switches_39 ?_
        refine lv_iload_n hx hb dX10_switches_42 rfl (lv_at hl 1 rfl) ?_
        obtain ⟨i_10, hw⟩ := hw
        refine lM_X10_pColour F hK hP i_10 dX10_switches_43 ?_
        refine cvI (As := [.int a1, .int 0, .int (gA u_3 15 (a1).toNatClampNeg)]) (rest := []) F hK hP hS (c_X10_passes l D ad cI hap H.size _ _ _ _ _ hw) (cwV 3 hts gU_X10_188 rfl rfl rfl (by decide +kernel) ⟨Nat.le_of_ble_eq_true rfl, Nat.le_of_ble_eq_true rfl⟩) (va_recv hK hP (ci := 7) (q0 := 0) rfl rfl) rfl hl.1 rfl (Nat.le_of_ble_eq_true rfl) dX10_switches_44 ⟨Nat.zero_le _, Nat.zero_le _⟩ (fun r_9 u_8 H locs hw hP hS => ?_)
        obtain ⟨zr_9, hw⟩ := hw
        exact rtZ F hr hlocks hK hw zr_9 hP hS dX10_switches_47
    · have hw := hw.2 c_12
      refine lv_aload_n hx hb dX10_switches_10 rfl (lv_at hl 0 rfl) ?_
      refine lv_dup hx hb dX10_switches_11 rfl ?_
      refine gM_X10_lost F hK hP (hts _ mw_507) dX10_switches_12 ?_
      refine lv_iconst (v := 1) hx hb dX10_switches_15 (by decide) ?_
      refine lv_iadd hx hb dX10_switches_16 ?_
      refine pM_X10_lost F hK hP hDs hS (hts _ mw_507) dX10_switches_17 (fun H locs hP hS => ?_)
      refine lv_iconst (v := 1) hx hb dX10_switches_20 (by decide) ?_
      exact rtZ F hr hlocks hK hw (Or.inr rfl) hP hS dX10_switches_21
  exact key s.heap [] hP hS

abbrev rm_X10_loops : Room := { frames := 5, cells := 0, slots := 0, locals := 122 }
set_option maxHeartbeats 4000000 in
set_option maxRecDepth 100000 in
theorem c_X10_loops (l : Launch) (D : va_G) (ad : Nat → Nat) (cI : ClassId) (hap : apart ad 40) (sz : Nat) (σ : St) (a1 : Int32) (K : Int32 → St → Prop) (hw : w_X10_loops σ a1 K) : Met l yX10_loops wU_X10_loops rm_X10_loops (va_Pc [.ref (ad 0), .int a1] (fun U => U.heap.size = sz ∧ inW D (wdM ad cI) [(cI, .int)] σ U)) (va_Qi (fun r u => zb r ∧ K r u) (inW D (wdM ad cI) [(cI, .int)]) (AW ad 40 sz)) 0 0 (AW ad 40 sz) := by
  refine Met.ofW (cc := cX10_loops) (maxL := 6) (ret := (some .boolean)) (by decide) rfl ?_
  intro p e s m args below meth c s₁ B hml hv
  obtain ⟨rfl, hsz, ⟨hP, hK⟩⟩ := hv
  have F : CallFix p m c cX10_loops 6 s ([.ref (ad 0), .int a1] : List Value).toArray lw_U RX10 := ⟨B.exec, B.bytes, hml, findClass_of_methodNamed B.named, fun w h => atoms_spec (ws := wU_X10_loops) B.pre w (List.mem_cons_of_mem _ h)⟩
  have hx := F.1
  have hb := F.2.1
  have hown := F.2.2.2.1
  have hts := F.2.2.2.2
  have hr := B.returns
  have hlocks := B.notSynchronized
  subst hsz
  have hDs : ∀ σ, va_D (AW ad 40 s.heap.size) ((wdM ad cI) σ) := fun σ => wdM_D hap σ
  have hS : va_S (AW ad 40 s.heap.size) s.heap s.heap [] := va_S.rf
  have hl := lv_entry ([.ref (ad 0), .int a1]) (n := 6) (Nat.le_of_ble_eq_true rfl)
  rw [lg_entry_eq]
  generalize (lg_sl ([.ref (ad 0), .int a1]) ++ List.replicate (6 - (lg_sl ([.ref (ad 0), .int a1])).length) Slot.unset).toArray = ls at hl ⊢
  have hl : lv_has ls 6 [(0, .ref (ad 0)), (1, .int a1)] := hl
  have key : ∀ (H : Heap) (locs : List Loc), va_P D vwCl ((wdM ad cI) σ) H → va_S (AW ad 40 s.heap.size) s.heap H locs → W p l e (headSpec wU_X10_loops rm_X10_loops).room s m ([.ref (ad 0), .int a1] : List Value).toArray below meth c H locs 0 0 (MQ below (va_Qi (fun r u => zb r ∧ K r u) (inW D (wdM ad cI) [(cI, .int)]) (AW ad 40 s.heap.size)) ([.ref (ad 0), .int a1] : List Value).toArray s 0 0 (AW ad 40 s.heap.size)) (F0 m 0 ls []) := by
    intro H locs hP hS
    unfold w_X10_loops at hw
    refine lv_aload_n hx hb dX10_loops_0 rfl (lv_at hl 0 rfl) ?_
    refine gM_X10_pAct F hK hP (hts _ mw_472) dX10_loops_1 ?_
    refine lv_iload_n hx hb dX10_loops_4 rfl (lv_at hl 1 rfl) ?_
    obtain ⟨i_32, hw⟩ := hw
    refine lM_X10_pAct F hK hP i_32 dX10_loops_5 ?_
    refine lv_istore_n (lv' := [(2, .int (gA σ 14 (a1).toNatClampNeg)), (0, .ref (ad 0)), (1, .int a1)]) hx hb dX10_loops_6 rfl hl (by decide) rfl (fun ls hl => ?_)
    refine lv_aload_n hx hb dX10_loops_7 rfl (lv_at hl 1 rfl) ?_
    refine gM_X10_pColour F hK hP (hts _ mw_473) dX10_loops_8 ?_
    refine lv_iload_n hx hb dX10_loops_11 rfl (lv_at hl 2 rfl) ?_
    obtain ⟨i_31, hw⟩ := hw
    refine lM_X10_pColour F hK hP i_31 dX10_loops_12 ?_
    refine lv_istore_n (lv' := [(3, .int (gA σ 15 (a1).toNatClampNeg)), (2, .int (gA σ 14 (a1).toNatClampNeg)), (0, .ref (ad 0)), (1, .int a1)]) hx hb dX10_loops_13 rfl hl (by decide) rfl (fun ls hl => ?_)
    refine lv_aload_n hx hb dX10_loops_14 rfl (lv_at hl 2 rfl) ?_
    refine gM_X10_own F hK hP (hts _ mw_440) dX10_loops_15 ?_
    refine lv_iload_n hx hb dX10_loops_18 rfl (lv_at hl 1 rfl) ?_
    obtain ⟨i_30, hw⟩ := hw
    refine lM_X10_own F hK hP i_30 dX10_loops_19 ?_
    refine lv_istore (lv' := [(4, .int (gA σ 1 ((gA σ 14 (a1).toNatClampNeg)).toNatClampNeg)), (3, .int (gA σ 15 (a1).toNatClampNeg)), (2, .int (gA σ 14 (a1).toNatClampNeg)), (0, .ref (ad 0)), (1, .int a1)]) hx hb dX10_loops_20 hl (by decide) rfl (fun ls hl => ?_)
    refine lv_aload_n hx hb dX10_loops_22 rfl (lv_at hl 3 rfl) ?_
    refine gM_X10_kind F hK hP (hts _ mw_439) dX10_loops_23 ?_
    refine lv_iload_n hx hb dX10_loops_26 rfl (lv_at hl 2 rfl) ?_
    obtain ⟨i_29, hw⟩ := hw
    refine lM_X10_kind F hK hP i_29 dX10_loops_27 ?_
    refine lv_bipush (v := 11) hx hb dX10_loops_28 (by decide) ?_
    refine lv_icmp_ne (tgt := 66) hx hb dX10_loops_30 (by decide) (fun c_28 => ?_) (fun c_28 => ?_)
    · have hw := hw.1 c_28
      refine lv_aload_n hx hb dX10_loops_66 rfl (lv_at hl 3 rfl) ?_
      refine gM_X10_cSort F hK hP (hts _ mw_463) dX10_loops_67 ?_
      refine lv_iload_n hx hb dX10_loops_70 rfl (lv_at hl 1 rfl) ?_
      obtain ⟨i_21, hw⟩ := hw
      refine lM_X10_cSort F hK hP i_21 dX10_loops_71 ?_
      refine lv_iconst (v := 1) hx hb dX10_loops_72 (by decide) ?_
      refine lv_icmp_ne (tgt := 87) hx hb dX10_loops_73 (by decide) (fun c_20 => ?_) (fun c_20 => ?_)
      · have hw := hw.1 c_20
        refine lv_aload_n hx hb dX10_loops_87 rfl (lv_at hl 3 rfl) ?_
        refine lv_iload_n hx hb dX10_loops_88 rfl (lv_at hl 2 rfl) ?_
        refine lv_iload_n hx hb dX10_loops_89 rfl (lv_at hl 1 rfl) ?_
        refine lv_iconst (v := 5) hx hb dX10_loops_90 (by decide) ?_
        refine cvI (As := [.int (gA σ 14 (a1).toNatClampNeg), .int (gA σ 15 (a1).toNatClampNeg), .int 5]) (rest := []) F hK hP hS (c_X10_faults l D ad cI hap H.size _ _ _ _ _ hw) (cwV 3 hts gU_X10_228 rfl rfl rfl (by decide +kernel) ⟨Nat.le_of_ble_eq_true rfl, Nat.le_of_ble_eq_true rfl⟩) (va_recv hK hP (ci := 7) (q0 := 0) rfl rfl) rfl hl.1 rfl (Nat.le_of_ble_eq_true rfl) dX10_loops_91 ⟨Nat.zero_le _, Nat.zero_le _⟩ (fun r_2 u_1 H locs hw hP hS => ?_)
        obtain ⟨zr_2, hw⟩ := hw
        exact rtZ F hr hlocks hK hw zr_2 hP hS dX10_loops_94
      · have hw := hw.2 c_20
        refine lv_aload_n hx hb dX10_loops_76 rfl (lv_at hl 3 rfl) ?_
        refine gM_X10_cOf F hK hP (hts _ mw_464) dX10_loops_77 ?_
        refine lv_iload_n hx hb dX10_loops_80 rfl (lv_at hl 1 rfl) ?_
        obtain ⟨i_19, hw⟩ := hw
        refine lM_X10_cOf F hK hP i_19 dX10_loops_81 ?_
        refine lv_iload hx hb dX10_loops_82 (lv_at hl 0 rfl) ?_
        refine lv_icmp_eq (tgt := 95) hx hb dX10_loops_84 (by decide) (fun c_18 => ?_) (fun c_18 => ?_)
        · have hw := hw.1 c_18
          refine lv_aload_n hx hb dX10_loops_95 rfl (lv_at hl 3 rfl) ?_
          refine gM_X10_kind F hK hP (hts _ mw_439) dX10_loops_96 ?_
          refine lv_iload_n hx hb dX10_loops_99 rfl (lv_at hl 2 rfl) ?_
          obtain ⟨i_15, hw⟩ := hw
          refine lM_X10_kind F hK hP i_15 dX10_loops_100 ?_
          refine lv_bipush (v := 13) hx hb dX10_loops_101 (by decide) ?_
          refine lv_icmp_ne (tgt := 119) hx hb dX10_loops_103 (by decide) (fun c_14 => ?_) (fun c_14 => ?_)
          · have hw := hw.1 c_14
            refine lv_aload_n hx hb dX10_loops_119 rfl (lv_at hl 3 rfl) ?_
            refine lv_iconst (v := 1) hx hb dX10_loops_120 (by decide) ?_
            refine lv_iload hx hb dX10_loops_121 (lv_at hl 0 rfl) ?_
            refine lv_aload_n hx hb dX10_loops_123 rfl (lv_at hl 3 rfl) ?_
            refine gM_X10_cTurn F hK hP (hts _ mw_465) dX10_loops_124 ?_
            refine lv_iload_n hx hb dX10_loops_127 rfl (lv_at hl 1 rfl) ?_
            obtain ⟨i_10, hw⟩ := hw
            refine lM_X10_cTurn F hK hP i_10 dX10_loops_128 ?_
            refine lv_iconst (v := 1) hx hb dX10_loops_129 (by decide) ?_
            refine lv_iadd hx hb dX10_loops_130 ?_
            refine lv_aload_n hx hb dX10_loops_131 rfl (lv_at hl 3 rfl) ?_
            refine gM_X10_cIn F hK hP (hts _ mw_466) dX10_loops_132 ?_
            refine lv_iload_n hx hb dX10_loops_135 rfl (lv_at hl 1 rfl) ?_
            obtain ⟨i_9, hw⟩ := hw
            refine lM_X10_cIn F hK hP i_9 dX10_loops_136 ?_
            refine cvI (As := [.int 1, .int (gA σ 1 ((gA σ 14 (a1).toNatClampNeg)).toNatClampNeg), .int ((gA σ 12 ((gA σ 15 (a1).toNatClampNeg)).toNatClampNeg) + 1), .int (gA σ 13 ((gA σ 15 (a1).toNatClampNeg)).toNatClampNeg)]) (rest := []) F hK hP hS (c_X10_colour l D ad cI hap H.size _ _ _ _ _ _ hw) (cwV 4 hts gU_X10_224 rfl rfl rfl (by decide +kernel) ⟨Nat.le_of_ble_eq_true rfl, Nat.le_of_ble_eq_true rfl⟩) (va_recv hK hP (ci := 7) (q0 := 0) rfl rfl) rfl hl.1 rfl (Nat.le_of_ble_eq_true rfl) dX10_loops_137 ⟨Nat.zero_le _, Nat.zero_le _⟩ (fun r_4 u_3 H locs hw hP hS => ?_)
            refine lv_istore (lv' := [(5, .int r_4), (4, .int (gA σ 1 ((gA σ 14 (a1).toNatClampNeg)).toNatClampNeg)), (3, .int (gA σ 15 (a1).toNatClampNeg)), (2, .int (gA σ 14 (a1).toNatClampNeg)), (0, .ref (ad 0)), (1, .int a1)]) hx hb dX10_loops_140 hl (by decide) rfl (fun ls hl => ?_)
            refine lv_iload hx hb dX10_loops_142 (lv_at hl 0 rfl) ?_
            refine lv_if_lt (tgt := 162) hx hb dX10_loops_144 (by decide) (fun c_8 => ?_) (fun c_8 => ?_)
            · have hw := hw.1 c_8
              refine lv_iconst (v := 0) hx hb dX10_loops_162 (by decide) ?_
              exact rtZ F hr hlocks hK hw (Or.inl rfl) hP hS dX10_loops_163
            · have hw := hw.2 c_8
              refine lv_aload_n hx hb dX10_loops_147 rfl (lv_at hl 4 rfl) ?_
              refine lv_iload_n hx hb dX10_loops_148 rfl (lv_at hl 5 rfl) ?_
              refine lv_iconst (v := 0) hx hb dX10_loops_149 (by decide) ?_
              refine lv_iload hx hb dX10_loops_150 (lv_at hl 0 rfl) ?_
              refine cvI (As := [.int a1, .int 0, .int r_4]) (rest := []) F hK hP hS (c_X10_passes l D ad cI hap H.size _ _ _ _ _ hw) (cwV 3 hts gU_X10_188 rfl rfl rfl (by decide +kernel) ⟨Nat.le_of_ble_eq_true rfl, Nat.le_of_ble_eq_true rfl⟩) (va_recv hK hP (ci := 7) (q0 := 0) rfl rfl) rfl hl.1 rfl (Nat.le_of_ble_eq_true rfl) dX10_loops_152 ⟨Nat.zero_le _, Nat.zero_le _⟩ (fun r_6 u_5 H locs hw hP hS => ?_)
              obtain ⟨zr_6, hw⟩ := hw
              refine lv_if_eq (tgt := 162) hx hb dX10_loops_155 (by decide) (fun c_7 => ?_) (fun c_7 => ?_)
              · have hw := hw.1 c_7
                refine lv_iconst (v := 0) hx hb dX10_loops_162 (by decide) ?_
                exact rtZ F hr hlocks hK hw (Or.inl rfl) hP hS dX10_loops_163
              · have hw := hw.2 c_7
                refine lv_iconst (v := 1) hx hb dX10_loops_158 (by decide) ?_
                refine lv_goto (tgt := 163) hx hb dX10_loops_159 (by decide) ?_
                exact rtZ F hr hlocks hK hw (Or.inr rfl) hP hS dX10_loops_163
          · have hw := hw.2 c_14
            refine lv_aload_n hx hb dX10_loops_106 rfl (lv_at hl 3 rfl) ?_
            refine lv_iload_n hx hb dX10_loops_107 rfl (lv_at hl 4 rfl) ?_
            refine lv_iconst (v := 0) hx hb dX10_loops_108 (by decide) ?_
            refine lv_aload_n hx hb dX10_loops_109 rfl (lv_at hl 3 rfl) ?_
            refine gM_X10_cIn F hK hP (hts _ mw_466) dX10_loops_110 ?_
            refine lv_iload_n hx hb dX10_loops_113 rfl (lv_at hl 1 rfl) ?_
            obtain ⟨i_13, hw⟩ := hw
            refine lM_X10_cIn F hK hP i_13 dX10_loops_114 ?_
            refine cvI (As := [.int a1, .int 0, .int (gA σ 13 ((gA σ 15 (a1).toNatClampNeg)).toNatClampNeg)]) (rest := []) F hK hP hS (c_X10_passes l D ad cI hap H.size _ _ _ _ _ hw) (cwV 3 hts gU_X10_188 rfl rfl rfl (by decide +kernel) ⟨Nat.le_of_ble_eq_true rfl, Nat.le_of_ble_eq_true rfl⟩) (va_recv hK hP (ci := 7) (q0 := 0) rfl rfl) rfl hl.1 rfl (Nat.le_of_ble_eq_true rfl) dX10_loops_115 ⟨Nat.zero_le _, Nat.zero_le _⟩ (fun r_12 u_11 H locs hw hP hS => ?_)
            obtain ⟨zr_12, hw⟩ := hw
            exact rtZ F hr hlocks hK hw zr_12 hP hS dX10_loops_118
        · have hw := hw.2 c_18
          refine lv_aload_n hx hb dX10_loops_87 rfl (lv_at hl 3 rfl) ?_
          refine lv_iload_n hx hb dX10_loops_88 rfl (lv_at hl 2 rfl) ?_
          refine lv_iload_n hx hb dX10_loops_89 rfl (lv_at hl 1 rfl) ?_
          refine lv_iconst (v := 5) hx hb dX10_loops_90 (by decide) ?_
          refine cvI (As := [.int (gA σ 14 (a1).toNatClampNeg), .int (gA σ 15 (a1).toNatClampNeg), .int 5]) (rest := []) F hK hP hS (c_X10_faults l D ad cI hap H.size _ _ _ _ _ hw) (cwV 3 hts gU_X10_228 rfl rfl rfl (by decide +kernel) ⟨Nat.le_of_ble_eq_true rfl, Nat.le_of_ble_eq_true rfl⟩) (va_recv hK hP (ci := 7) (q0 := 0) rfl rfl) rfl hl.1 rfl (Nat.le_of_ble_eq_true rfl) dX10_loops_91 ⟨Nat.zero_le _, Nat.zero_le _⟩ (fun r_17 u_16 H locs hw hP hS => ?_)
          obtain ⟨zr_17, hw⟩ := hw
          exact rtZ F hr hlocks hK hw zr_17 hP hS dX10_loops_94
    · have hw := hw.2 c_28
      refine lv_aload_n hx hb dX10_loops_33 rfl (lv_at hl 3 rfl) ?_
      refine lv_iconst (v := 1) hx hb dX10_loops_34 (by decide) ?_
      refine lv_iload hx hb dX10_loops_35 (lv_at hl 0 rfl) ?_
      refine lv_iconst (v := 0) hx hb dX10_loops_37 (by decide) ?_
      refine lv_iload_n hx hb dX10_loops_38 rfl (lv_at hl 1 rfl) ?_
      refine cvI (As := [.int 1, .int (gA σ 1 ((gA σ 14 (a1).toNatClampNeg)).toNatClampNeg), .int 0, .int (gA σ 15 (a1).toNatClampNeg)]) (rest := []) F hK hP hS (c_X10_colour l D ad cI hap H.size _ _ _ _ _ _ hw) (cwV 4 hts gU_X10_224 rfl rfl rfl (by decide +kernel) ⟨Nat.le_of_ble_eq_true rfl, Nat.le_of_ble_eq_true rfl⟩) (va_recv hK hP (ci := 7) (q0 := 0) rfl rfl) rfl hl.1 rfl (Nat.le_of_ble_eq_true rfl) dX10_loops_39 ⟨Nat.zero_le _, Nat.zero_le _⟩ (fun r_23 u_22 H locs hw hP hS => ?_)
      refine lv_istore (lv' := [(5, .int r_23), (4, .int (gA σ 1 ((gA σ 14 (a1).toNatClampNeg)).toNatClampNeg)), (3, .int (gA σ 15 (a1).toNatClampNeg)), (2, .int (gA σ 14 (a1).toNatClampNeg)), (0, .ref (ad 0)), (1, .int a1)]) hx hb dX10_loops_42 hl (by decide) rfl (fun ls hl => ?_)
      refine lv_iload hx hb dX10_loops_44 (lv_at hl 0 rfl) ?_
      refine lv_if_lt (tgt := 64) hx hb dX10_loops_46 (by decide) (fun c_27 => ?_) (fun c_27 => ?_)
      · have hw := hw.1 c_27
        refine lv_iconst (v := 0) hx hb dX10_loops_64 (by decide) ?_
        exact rtZ F hr hlocks hK hw (Or.inl rfl) hP hS dX10_loops_65
      · have hw := hw.2 c_27
        refine lv_aload_n hx hb dX10_loops_49 rfl (lv_at hl 4 rfl) ?_
        refine lv_iload_n hx hb dX10_loops_50 rfl (lv_at hl 5 rfl) ?_
        refine lv_iconst (v := 0) hx hb dX10_loops_51 (by decide) ?_
        refine lv_iload hx hb dX10_loops_52 (lv_at hl 0 rfl) ?_
        refine cvI (As := [.int a1, .int 0, .int r_23]) (rest := []) F hK hP hS (c_X10_passes l D ad cI hap H.size _ _ _ _ _ hw) (cwV 3 hts gU_X10_188 rfl rfl rfl (by decide +kernel) ⟨Nat.le_of_ble_eq_true rfl, Nat.le_of_ble_eq_true rfl⟩) (va_recv hK hP (ci := 7) (q0 := 0) rfl rfl) rfl hl.1 rfl (Nat.le_of_ble_eq_true rfl) dX10_loops_54 ⟨Nat.zero_le _, Nat.zero_le _⟩ (fun r_25 u_24 H locs hw hP hS => ?_)
        obtain ⟨zr_25, hw⟩ := hw
        refine lv_if_eq (tgt := 64) hx hb dX10_loops_57 (by decide) (fun c_26 => ?_) (fun c_26 => ?_)
        · have hw := hw.1 c_26
          refine lv_iconst (v := 0) hx hb dX10_loops_64 (by decide) ?_
          exact rtZ F hr hlocks hK hw (Or.inl rfl) hP hS dX10_loops_65
        · have hw := hw.2 c_26
          refine lv_iconst (v := 1) hx hb dX10_loops_60 (by decide) ?_
          refine lv_goto (tgt := 65) hx hb dX10_loops_61 (by decide) ?_
          exact rtZ F hr hlocks hK hw (Or.inr rfl) hP hS dX10_loops_65
  exact key s.heap [] hP hS
