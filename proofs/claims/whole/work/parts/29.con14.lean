abbrev rm_X10_cell : Room := { frames := 1, cells := 0, slots := 0, locals := 24 }
set_option maxHeartbeats 4000000 in
set_option maxRecDepth 100000 in
theorem c_X10_cell (l : Launch) (D : va_G) (ad : Nat → Nat) (cI : ClassId) (hap : apart ad 40) (sz : Nat) (σ : St) (a1 : Int32) (a2 : Int32) (a3 : Int32) (K : Int32 → St → Prop) (hw : w_X10_cell σ a1 a2 a3 K) : Met l yX10_cell wU_X10_cell rm_X10_cell (va_Pc [.ref (ad 0), .int a1, .int a2, .int a3] (fun U => U.heap.size = sz ∧ inW D (wdM ad cI) [(cI, .int)] σ U)) (va_Qi K (inW D (wdM ad cI) [(cI, .int)]) (AW ad 40 sz)) 0 0 (AW ad 40 sz) := by
  refine Met.ofW (cc := cX10_cell) (maxL := 6) (ret := (some .int)) (by decide) rfl ?_
  intro p e s m args below meth c s₁ B hml hv
  obtain ⟨rfl, hsz, ⟨hP, hK⟩⟩ := hv
  have F : CallFix p m c cX10_cell 6 s ([.ref (ad 0), .int a1, .int a2, .int a3] : List Value).toArray lw_U RX10 := ⟨B.exec, B.bytes, hml, findClass_of_methodNamed B.named, fun w h => atoms_spec (ws := wU_X10_cell) B.pre w (List.mem_cons_of_mem _ h)⟩
  have hx := F.1
  have hb := F.2.1
  have hown := F.2.2.2.1
  have hts := F.2.2.2.2
  have hr := B.returns
  have hlocks := B.notSynchronized
  subst hsz
  have hDs : ∀ σ, va_D (AW ad 40 s.heap.size) ((wdM ad cI) σ) := fun σ => wdM_D hap σ
  have hS : va_S (AW ad 40 s.heap.size) s.heap s.heap [] := va_S.rf
  have lab_21 : ∀ (n : Nat), ∀ (σ : St) (x1 : Int32) (x2 : Int32) (x3 : Int32) (x4 : Int32) (H : Heap) (locs : List Loc) (ls : Array Slot), w_X10_cell_21 K n σ x1 x2 x3 x4 → va_P D vwCl ((wdM ad cI) σ) H → va_S (AW ad 40 s.heap.size) s.heap H locs → lv_has ls 6 [(0, .ref (ad 0)), (1, .int x1), (2, .int x2), (3, .int x3), (4, .int x4)] → W p l e (headSpec wU_X10_cell rm_X10_cell).room s m ([.ref (ad 0), .int a1, .int a2, .int a3] : List Value).toArray below meth c H locs 0 0 (MQ below (va_Qi K (inW D (wdM ad cI) [(cI, .int)]) (AW ad 40 s.heap.size)) ([.ref (ad 0), .int a1, .int a2, .int a3] : List Value).toArray s 0 0 (AW ad 40 s.heap.size)) (F0 m 21 ls []) := by
    intro n
    induction n with
    | zero =>
      intro σ x1 x2 x3 x4 H locs ls hw
      exact hw.elim
    | succ n hL21 =>
      intro σ x1 x2 x3 x4 H locs ls hw hP hS hl
      have hw : b_X10_cell_21 (w_X10_cell_21 K n) K σ x1 x2 x3 x4 := hw
      unfold b_X10_cell_21 at hw
      generalize w_X10_cell_21 K n = L21 at hw hL21
      refine lv_iload hx hb dX10_cell_21 (lv_at hl 4 rfl) ?_
      refine lv_aload_n hx hb dX10_cell_23 rfl (lv_at hl 0 rfl) ?_
      refine gM_X10_rows F hK hP (hts _ mw_521) dX10_cell_24 ?_
      refine lv_icmp_ge (tgt := 117) hx hb dX10_cell_27 (by decide) (fun c_15 => ?_) (fun c_15 => ?_)
      · have hw := hw.1 c_15
        refine lv_iconst (v := (-1)) hx hb dX10_cell_117 (by decide) ?_
        exact rtI F hr hlocks hK hw hP hS dX10_cell_118
      · have hw := hw.2 c_15
        refine lv_aload_n hx hb dX10_cell_30 rfl (lv_at hl 0 rfl) ?_
        refine gM_X10_rAct F hK hP (hts _ mw_525) dX10_cell_31 ?_
        refine lv_iload hx hb dX10_cell_34 (lv_at hl 4 rfl) ?_
        obtain ⟨i_14, hw⟩ := hw
        refine lM_X10_rAct F hK hP i_14 dX10_cell_36 ?_
        refine lv_iload_n hx hb dX10_cell_37 rfl (lv_at hl 1 rfl) ?_
        refine lv_icmp_ne (tgt := 111) hx hb dX10_cell_38 (by decide) (fun c_13 => ?_) (fun c_13 => ?_)
        · have hw := hw.1 c_13
          refine lv_iinc (v := (x4 + 1)) (lv' := [(4, .int (x4 + 1)), (0, .ref (ad 0)), (1, .int x1), (2, .int x2), (3, .int x3)]) hx hb dX10_cell_111 hl (k := 4) rfl rfl (by decide) rfl (fun ls hl => ?_)
          refine lv_goto (tgt := 21) hx hb dX10_cell_114 (by decide) ?_
          exact hL21 _ _ _ _ _ _ _ _ hw hP hS (lv_sub hl [1, 2, 3, 4, 0] rfl)
        · have hw := hw.2 c_13
          refine lv_aload_n hx hb dX10_cell_41 rfl (lv_at hl 0 rfl) ?_
          refine gM_X10_rColour F hK hP (hts _ mw_526) dX10_cell_42 ?_
          refine lv_iload hx hb dX10_cell_45 (lv_at hl 4 rfl) ?_
          obtain ⟨i_12, hw⟩ := hw
          refine lM_X10_rColour F hK hP i_12 dX10_cell_47 ?_
          refine lv_if_eq (tgt := 54) hx hb dX10_cell_48 (by decide) (fun c_11 => ?_) (fun c_11 => ?_)
          · have hw := hw.1 c_11
            refine lv_iload_n hx hb dX10_cell_54 rfl (lv_at hl 2 rfl) ?_
            refine lv_iconst (v := 0) hx hb dX10_cell_55 (by decide) ?_
            refine lv_aload_n hx hb dX10_cell_56 rfl (lv_at hl 0 rfl) ?_
            refine gM_X10_rSize F hK hP (hts _ mw_524) dX10_cell_57 ?_
            refine lv_iload hx hb dX10_cell_60 (lv_at hl 4 rfl) ?_
            obtain ⟨i_10, hw⟩ := hw
            refine lM_X10_rSize F hK hP i_10 dX10_cell_62 ?_
            refine lv_iconst (v := 1) hx hb dX10_cell_63 (by decide) ?_
            refine lv_isub hx hb dX10_cell_64 ?_
            refine csI (As := [.int x2, .int 0, .int ((gA σ 26 (x4).toNatClampNeg) - 1)]) (rest := []) F hK hP hS (c_X10_in l D ad cI hap H.size _ _ _ _ _ hw) (va_cwS 3 hts gU_X10_131 rfl rfl rfl (by decide +kernel) ⟨Nat.le_of_ble_eq_true rfl, Nat.le_of_ble_eq_true rfl⟩) rfl hl.1 rfl (Nat.le_of_ble_eq_true rfl) dX10_cell_65 ⟨Nat.zero_le _, Nat.zero_le _⟩ (fun r_2 u_1 H locs hw hP hS => ?_)
            obtain ⟨zr_2, hw⟩ := hw
            refine lv_if_ne (tgt := 73) hx hb dX10_cell_68 (by decide) (fun c_9 => ?_) (fun c_9 => ?_)
            · have hw := hw.1 c_9
              refine lv_aload_n hx hb dX10_cell_73 rfl (lv_at hl 0 rfl) ?_
              refine gM_X10_rFrom F hK hP (hts _ mw_523) dX10_cell_74 ?_
              refine lv_iload hx hb dX10_cell_77 (lv_at hl 4 rfl) ?_
              obtain ⟨i_8, hw⟩ := hw
              refine lM_X10_rFrom F hK hP i_8 dX10_cell_79 ?_
              refine lv_iload_n hx hb dX10_cell_80 rfl (lv_at hl 2 rfl) ?_
              refine lv_iadd hx hb dX10_cell_81 ?_
              refine lv_istore (lv' := [(5, .int ((gA u_1 25 (x4).toNatClampNeg) + x2)), (0, .ref (ad 0)), (1, .int x1), (2, .int x2), (3, .int x3), (4, .int x4)]) hx hb dX10_cell_82 hl (by decide) rfl (fun ls hl => ?_)
              refine lv_aload_n hx hb dX10_cell_84 rfl (lv_at hl 1 rfl) ?_
              refine lv_aload_n hx hb dX10_cell_85 rfl (lv_at hl 1 rfl) ?_
              refine gM_X10_cellKind F hK hP (hts _ mw_522) dX10_cell_86 ?_
              refine lv_iload hx hb dX10_cell_89 (lv_at hl 0 rfl) ?_
              obtain ⟨i_7, hw⟩ := hw
              refine lM_X10_cellKind F hK hP i_7 dX10_cell_91 ?_
              refine lv_aload_n hx hb dX10_cell_92 rfl (lv_at hl 1 rfl) ?_
              refine gM_X10_cellValue F hK hP (hts _ mw_536) dX10_cell_93 ?_
              refine lv_iload hx hb dX10_cell_96 (lv_at hl 0 rfl) ?_
              obtain ⟨i_6, hw⟩ := hw
              refine lM_X10_cellValue F hK hP i_6 dX10_cell_98 ?_
              refine lv_aload_n hx hb dX10_cell_99 rfl (lv_at hl 1 rfl) ?_
              refine gM_X10_cellOf F hK hP (hts _ mw_537) dX10_cell_100 ?_
              refine lv_iload hx hb dX10_cell_103 (lv_at hl 0 rfl) ?_
              obtain ⟨i_5, hw⟩ := hw
              refine lM_X10_cellOf F hK hP i_5 dX10_cell_105 ?_
              refine lv_iload_n hx hb dX10_cell_106 rfl (lv_at hl 4 rfl) ?_
              refine cvI (As := [.int (gA u_1 29 (((gA u_1 25 (x4).toNatClampNeg) + x2)).toNatClampNeg), .int (gA u_1 30 (((gA u_1 25 (x4).toNatClampNeg) + x2)).toNatClampNeg), .int (gA u_1 31 (((gA u_1 25 (x4).toNatClampNeg) + x2)).toNatClampNeg), .int x3]) (rest := []) F hK hP hS (c_X10_told1 l D ad cI hap H.size _ _ _ _ _ _ hw) (cwV 4 hts gU_X10_272 rfl rfl rfl (by decide +kernel) ⟨Nat.le_of_ble_eq_true rfl, Nat.le_of_ble_eq_true rfl⟩) (va_recv hK hP (ci := 7) (q0 := 0) rfl rfl) rfl hl.1 rfl (Nat.le_of_ble_eq_true rfl) dX10_cell_107 ⟨Nat.zero_le _, Nat.zero_le _⟩ (fun r_4 u_3 H locs hw hP hS => ?_)
              exact rtI F hr hlocks hK hw hP hS dX10_cell_110
            · have hw := hw.2 c_9
              refine lv_iconst (v := (-1)) hx hb dX10_cell_71 (by decide) ?_
              exact rtI F hr hlocks hK hw hP hS dX10_cell_72
          · have hw := hw.2 c_11
            refine lv_goto (tgt := 111) hx hb dX10_cell_51 (by decide) ?_
            refine lv_iinc (v := (x4 + 1)) (lv' := [(4, .int (x4 + 1)), (0, .ref (ad 0)), (1, .int x1), (2, .int x2), (3, .int x3)]) hx hb dX10_cell_111 hl (k := 4) rfl rfl (by decide) rfl (fun ls hl => ?_)
            refine lv_goto (tgt := 21) hx hb dX10_cell_114 (by decide) ?_
            exact hL21 _ _ _ _ _ _ _ _ hw hP hS (lv_sub hl [1, 2, 3, 4, 0] rfl)
  have hl := lv_entry ([.ref (ad 0), .int a1, .int a2, .int a3]) (n := 6) (Nat.le_of_ble_eq_true rfl)
  rw [lg_entry_eq]
  generalize (lg_sl ([.ref (ad 0), .int a1, .int a2, .int a3]) ++ List.replicate (6 - (lg_sl ([.ref (ad 0), .int a1, .int a2, .int a3])).length) Slot.unset).toArray = ls at hl ⊢
  have hl : lv_has ls 6 [(0, .ref (ad 0)), (1, .int a1), (2, .int a2), (3, .int a3)] := hl
  have key : ∀ (H : Heap) (locs : List Loc), va_P D vwCl ((wdM ad cI) σ) H → va_S (AW ad 40 s.heap.size) s.heap H locs → W p l e (headSpec wU_X10_cell rm_X10_cell).room s m ([.ref (ad 0), .int a1, .int a2, .int a3] : List Value).toArray below meth c H locs 0 0 (MQ below (va_Qi K (inW D (wdM ad cI) [(cI, .int)]) (AW ad 40 s.heap.size)) ([.ref (ad 0), .int a1, .int a2, .int a3] : List Value).toArray s 0 0 (AW ad 40 s.heap.size)) (F0 m 0 ls []) := by
    intro H locs hP hS
    unfold w_X10_cell at hw
    refine lv_aload_n hx hb dX10_cell_0 rfl (lv_at hl 0 rfl) ?_
    refine gM_X10_isRun F hK hP (hts _ mw_458) dX10_cell_1 ?_
    refine lv_if_eq (tgt := 16) hx hb dX10_cell_4 (by decide) (fun c_20 => ?_) (fun c_20 => ?_)
    · have hw := hw.1 c_20
      refine lv_iconst (v := (-1)) hx hb dX10_cell_16 (by decide) ?_
      exact rtI F hr hlocks hK hw hP hS dX10_cell_17
    · have hw := hw.2 c_20
      refine lv_iload_n hx hb dX10_cell_7 rfl (lv_at hl 3 rfl) ?_
      refine lv_iconst (v := 0) hx hb dX10_cell_8 (by decide) ?_
      refine lv_iconst (v := 2) hx hb dX10_cell_9 (by decide) ?_
      refine csI (As := [.int a3, .int 0, .int 2]) (rest := []) F hK hP hS (c_X10_in l D ad cI hap H.size _ _ _ _ _ hw) (va_cwS 3 hts gU_X10_131 rfl rfl rfl (by decide +kernel) ⟨Nat.le_of_ble_eq_true rfl, Nat.le_of_ble_eq_true rfl⟩) rfl hl.1 rfl (Nat.le_of_ble_eq_true rfl) dX10_cell_10 ⟨Nat.zero_le _, Nat.zero_le _⟩ (fun r_17 u_16 H locs hw hP hS => ?_)
      obtain ⟨zr_17, hw⟩ := hw
      refine lv_if_ne (tgt := 18) hx hb dX10_cell_13 (by decide) (fun c_19 => ?_) (fun c_19 => ?_)
      · have hw := hw.1 c_19
        refine lv_iconst (v := 0) hx hb dX10_cell_18 (by decide) ?_
        refine lv_istore (lv' := [(4, .int 0), (0, .ref (ad 0)), (1, .int a1), (2, .int a2), (3, .int a3)]) hx hb dX10_cell_19 hl (by decide) rfl (fun ls hl => ?_)
        obtain ⟨n_18, hw⟩ := hw
        exact lab_21 n_18 _ _ _ _ _ _ _ _ hw hP hS (lv_sub hl [1, 2, 3, 4, 0] rfl)
      · have hw := hw.2 c_19
        refine lv_iconst (v := (-1)) hx hb dX10_cell_16 (by decide) ?_
        exact rtI F hr hlocks hK hw hP hS dX10_cell_17
  exact key s.heap [] hP hS

abbrev rm_X10_told : Room := { frames := 2, cells := 0, slots := 0, locals := 43 }
set_option maxHeartbeats 4000000 in
set_option maxRecDepth 100000 in
theorem c_X10_told (l : Launch) (D : va_G) (ad : Nat → Nat) (cI : ClassId) (hap : apart ad 40) (sz : Nat) (σ : St) (a1 : Int32) (a2 : Int32) (K : Int32 → St → Prop) (hw : w_X10_told σ a1 a2 K) : Met l yX10_told wU_X10_told rm_X10_told (va_Pc [.ref (ad 0), .int a1, .int a2] (fun U => U.heap.size = sz ∧ inW D (wdM ad cI) [(cI, .int)] σ U)) (va_Qi K (inW D (wdM ad cI) [(cI, .int)]) (AW ad 40 sz)) 0 0 (AW ad 40 sz) := by
  refine Met.ofW (cc := cX10_told) (maxL := 5) (ret := (some .int)) (by decide) rfl ?_
  intro p e s m args below meth c s₁ B hml hv
  obtain ⟨rfl, hsz, ⟨hP, hK⟩⟩ := hv
  have F : CallFix p m c cX10_told 5 s ([.ref (ad 0), .int a1, .int a2] : List Value).toArray lw_U RX10 := ⟨B.exec, B.bytes, hml, findClass_of_methodNamed B.named, fun w h => atoms_spec (ws := wU_X10_told) B.pre w (List.mem_cons_of_mem _ h)⟩
  have hx := F.1
  have hb := F.2.1
  have hown := F.2.2.2.1
  have hts := F.2.2.2.2
  have hr := B.returns
  have hlocks := B.notSynchronized
  subst hsz
  have hDs : ∀ σ, va_D (AW ad 40 s.heap.size) ((wdM ad cI) σ) := fun σ => wdM_D hap σ
  have hS : va_S (AW ad 40 s.heap.size) s.heap s.heap [] := va_S.rf
  have lab_128 : ∀ (n : Nat), ∀ (σ : St) (x1 : Int32) (x3 : Int32) (x4 : Int32) (H : Heap) (locs : List Loc) (ls : Array Slot), w_X10_told_128 K n σ x1 x3 x4 → va_P D vwCl ((wdM ad cI) σ) H → va_S (AW ad 40 s.heap.size) s.heap H locs → lv_has ls 5 [(0, .ref (ad 0)), (1, .int x1), (3, .int x3), (4, .int x4)] → W p l e (headSpec wU_X10_told rm_X10_told).room s m ([.ref (ad 0), .int a1, .int a2] : List Value).toArray below meth c H locs 0 0 (MQ below (va_Qi K (inW D (wdM ad cI) [(cI, .int)]) (AW ad 40 s.heap.size)) ([.ref (ad 0), .int a1, .int a2] : List Value).toArray s 0 0 (AW ad 40 s.heap.size)) (F0 m 128 ls []) := by
    intro n
    induction n with
    | zero =>
      intro σ x1 x3 x4 H locs ls hw
      exact hw.elim
    | succ n hL128 =>
      intro σ x1 x3 x4 H locs ls hw hP hS hl
      have hw : b_X10_told_128 (w_X10_told_128 K n) K σ x1 x3 x4 := hw
      unfold b_X10_told_128 at hw
      generalize w_X10_told_128 K n = L128 at hw hL128
      refine lv_iload hx hb dX10_told_128 (lv_at hl 3 rfl) ?_
      refine lv_aload_n hx hb dX10_told_130 rfl (lv_at hl 0 rfl) ?_
      refine gM_X10_tokens F hK hP (hts _ mw_454) dX10_told_131 ?_
      refine lv_icmp_ge (tgt := 162) hx hb dX10_told_134 (by decide) (fun c_3 => ?_) (fun c_3 => ?_)
      · have hw := hw.1 c_3
        refine lv_iload_n hx hb dX10_told_162 rfl (lv_at hl 2 rfl) ?_
        exact rtI F hr hlocks hK hw hP hS dX10_told_163
      · have hw := hw.2 c_3
        refine lv_iload_n hx hb dX10_told_137 rfl (lv_at hl 2 rfl) ?_
        refine lv_aload_n hx hb dX10_told_138 rfl (lv_at hl 0 rfl) ?_
        refine gM_X10_tokenAct F hK hP (hts _ mw_455) dX10_told_139 ?_
        refine lv_iload hx hb dX10_told_142 (lv_at hl 3 rfl) ?_
        obtain ⟨i_2, hw⟩ := hw
        refine lM_X10_tokenAct F hK hP i_2 dX10_told_144 ?_
        refine lv_iload_n hx hb dX10_told_145 rfl (lv_at hl 1 rfl) ?_
        refine lv_icmp_ne (tgt := 153) hx hb dX10_told_146 (by decide) (fun c_1 => ?_) (fun c_1 => ?_)
        · have hw := hw.1 c_1
          refine lv_iconst (v := 0) hx hb dX10_told_153 (by decide) ?_
          refine lv_iadd hx hb dX10_told_154 ?_
          refine lv_istore_n (lv' := [(3, .int (x3 + 0)), (0, .ref (ad 0)), (1, .int x1), (4, .int x4)]) hx hb dX10_told_155 rfl hl (by decide) rfl (fun ls hl => ?_)
          refine lv_iinc (v := (x4 + 1)) (lv' := [(4, .int (x4 + 1)), (3, .int (x3 + 0)), (0, .ref (ad 0)), (1, .int x1)]) hx hb dX10_told_156 hl (k := 3) rfl rfl (by decide) rfl (fun ls hl => ?_)
          refine lv_goto (tgt := 128) hx hb dX10_told_159 (by decide) ?_
          exact hL128 _ _ _ _ _ _ _ hw hP hS (lv_sub hl [2, 3, 1, 0] rfl)
        · have hw := hw.2 c_1
          refine lv_iconst (v := 1) hx hb dX10_told_149 (by decide) ?_
          refine lv_goto (tgt := 154) hx hb dX10_told_150 (by decide) ?_
          refine lv_iadd hx hb dX10_told_154 ?_
          refine lv_istore_n (lv' := [(3, .int (x3 + 1)), (0, .ref (ad 0)), (1, .int x1), (4, .int x4)]) hx hb dX10_told_155 rfl hl (by decide) rfl (fun ls hl => ?_)
          refine lv_iinc (v := (x4 + 1)) (lv' := [(4, .int (x4 + 1)), (3, .int (x3 + 1)), (0, .ref (ad 0)), (1, .int x1)]) hx hb dX10_told_156 hl (k := 3) rfl rfl (by decide) rfl (fun ls hl => ?_)
          refine lv_goto (tgt := 128) hx hb dX10_told_159 (by decide) ?_
          exact hL128 _ _ _ _ _ _ _ hw hP hS (lv_sub hl [2, 3, 1, 0] rfl)
  have lab_76 : ∀ (n : Nat), ∀ (σ : St) (x1 : Int32) (x2 : Int32) (x3 : Int32) (x4 : Int32) (H : Heap) (locs : List Loc) (ls : Array Slot), w_X10_told_76 K n σ x1 x2 x3 x4 → va_P D vwCl ((wdM ad cI) σ) H → va_S (AW ad 40 s.heap.size) s.heap H locs → lv_has ls 5 [(0, .ref (ad 0)), (1, .int x1), (2, .int x2), (3, .int x3), (4, .int x4)] → W p l e (headSpec wU_X10_told rm_X10_told).room s m ([.ref (ad 0), .int a1, .int a2] : List Value).toArray below meth c H locs 0 0 (MQ below (va_Qi K (inW D (wdM ad cI) [(cI, .int)]) (AW ad 40 s.heap.size)) ([.ref (ad 0), .int a1, .int a2] : List Value).toArray s 0 0 (AW ad 40 s.heap.size)) (F0 m 76 ls []) := by
    intro n
    induction n with
    | zero =>
      intro σ x1 x2 x3 x4 H locs ls hw
      exact hw.elim
    | succ n hL76 =>
      intro σ x1 x2 x3 x4 H locs ls hw hP hS hl
      have hw : b_X10_told_76 (w_X10_told_76 K n) K σ x1 x2 x3 x4 := hw
      unfold b_X10_told_76 at hw
      generalize w_X10_told_76 K n = L76 at hw hL76
      refine lv_iload hx hb dX10_told_76 (lv_at hl 4 rfl) ?_
      refine lv_aload_n hx hb dX10_told_78 rfl (lv_at hl 0 rfl) ?_
      refine gM_X10_ways F hK hP (hts _ mw_445) dX10_told_79 ?_
      refine lv_icmp_ge (tgt := 123) hx hb dX10_told_82 (by decide) (fun c_8 => ?_) (fun c_8 => ?_)
      · have hw := hw.1 c_8
        refine lv_iload_n hx hb dX10_told_123 rfl (lv_at hl 3 rfl) ?_
        exact rtI F hr hlocks hK hw hP hS dX10_told_124
      · have hw := hw.2 c_8
        refine lv_iload_n hx hb dX10_told_85 rfl (lv_at hl 3 rfl) ?_
        refine lv_aload_n hx hb dX10_told_86 rfl (lv_at hl 0 rfl) ?_
        refine gM_X10_wayFrom F hK hP (hts _ mw_446) dX10_told_87 ?_
        refine lv_iload hx hb dX10_told_90 (lv_at hl 4 rfl) ?_
        obtain ⟨i_7, hw⟩ := hw
        refine lM_X10_wayFrom F hK hP i_7 dX10_told_92 ?_
        refine lv_iload_n hx hb dX10_told_93 rfl (lv_at hl 1 rfl) ?_
        refine lv_icmp_ne (tgt := 114) hx hb dX10_told_94 (by decide) (fun c_6 => ?_) (fun c_6 => ?_)
        · have hw := hw.1 c_6
          refine lv_iconst (v := 0) hx hb dX10_told_114 (by decide) ?_
          refine lv_iadd hx hb dX10_told_115 ?_
          refine lv_istore_n (lv' := [(3, .int (x3 + 0)), (0, .ref (ad 0)), (1, .int x1), (2, .int x2), (4, .int x4)]) hx hb dX10_told_116 rfl hl (by decide) rfl (fun ls hl => ?_)
          refine lv_iinc (v := (x4 + 1)) (lv' := [(4, .int (x4 + 1)), (3, .int (x3 + 0)), (0, .ref (ad 0)), (1, .int x1), (2, .int x2)]) hx hb dX10_told_117 hl (k := 4) rfl rfl (by decide) rfl (fun ls hl => ?_)
          refine lv_goto (tgt := 76) hx hb dX10_told_120 (by decide) ?_
          exact hL76 _ _ _ _ _ _ _ _ hw hP hS (lv_sub hl [2, 3, 4, 1, 0] rfl)
        · have hw := hw.2 c_6
          refine lv_aload_n hx hb dX10_told_97 rfl (lv_at hl 0 rfl) ?_
          refine gM_X10_waySide F hK hP (hts _ mw_447) dX10_told_98 ?_
          refine lv_iload hx hb dX10_told_101 (lv_at hl 4 rfl) ?_
          obtain ⟨i_5, hw⟩ := hw
          refine lM_X10_waySide F hK hP i_5 dX10_told_103 ?_
          refine lv_iload_n hx hb dX10_told_104 rfl (lv_at hl 2 rfl) ?_
          refine lv_iconst (v := 3) hx hb dX10_told_105 (by decide) ?_
          refine lv_isub hx hb dX10_told_106 ?_
          refine lv_icmp_ne (tgt := 114) hx hb dX10_told_107 (by decide) (fun c_4 => ?_) (fun c_4 => ?_)
          · have hw := hw.1 c_4
            refine lv_iconst (v := 0) hx hb dX10_told_114 (by decide) ?_
            refine lv_iadd hx hb dX10_told_115 ?_
            refine lv_istore_n (lv' := [(3, .int (x3 + 0)), (0, .ref (ad 0)), (1, .int x1), (2, .int x2), (4, .int x4)]) hx hb dX10_told_116 rfl hl (by decide) rfl (fun ls hl => ?_)
            refine lv_iinc (v := (x4 + 1)) (lv' := [(4, .int (x4 + 1)), (3, .int (x3 + 0)), (0, .ref (ad 0)), (1, .int x1), (2, .int x2)]) hx hb dX10_told_117 hl (k := 4) rfl rfl (by decide) rfl (fun ls hl => ?_)
            refine lv_goto (tgt := 76) hx hb dX10_told_120 (by decide) ?_
            exact hL76 _ _ _ _ _ _ _ _ hw hP hS (lv_sub hl [2, 3, 4, 1, 0] rfl)
          · have hw := hw.2 c_4
            refine lv_iconst (v := 1) hx hb dX10_told_110 (by decide) ?_
            refine lv_goto (tgt := 115) hx hb dX10_told_111 (by decide) ?_
            refine lv_iadd hx hb dX10_told_115 ?_
            refine lv_istore_n (lv' := [(3, .int (x3 + 1)), (0, .ref (ad 0)), (1, .int x1), (2, .int x2), (4, .int x4)]) hx hb dX10_told_116 rfl hl (by decide) rfl (fun ls hl => ?_)
            refine lv_iinc (v := (x4 + 1)) (lv' := [(4, .int (x4 + 1)), (3, .int (x3 + 1)), (0, .ref (ad 0)), (1, .int x1), (2, .int x2)]) hx hb dX10_told_117 hl (k := 4) rfl rfl (by decide) rfl (fun ls hl => ?_)
            refine lv_goto (tgt := 76) hx hb dX10_told_120 (by decide) ?_
            exact hL76 _ _ _ _ _ _ _ _ hw hP hS (lv_sub hl [2, 3, 4, 1, 0] rfl)
  have hl := lv_entry ([.ref (ad 0), .int a1, .int a2]) (n := 5) (Nat.le_of_ble_eq_true rfl)
  rw [lg_entry_eq]
  generalize (lg_sl ([.ref (ad 0), .int a1, .int a2]) ++ List.replicate (5 - (lg_sl ([.ref (ad 0), .int a1, .int a2])).length) Slot.unset).toArray = ls at hl ⊢
  have hl : lv_has ls 5 [(0, .ref (ad 0)), (1, .int a1), (2, .int a2)] := hl
  have key : ∀ (H : Heap) (locs : List Loc), va_P D vwCl ((wdM ad cI) σ) H → va_S (AW ad 40 s.heap.size) s.heap H locs → W p l e (headSpec wU_X10_told rm_X10_told).room s m ([.ref (ad 0), .int a1, .int a2] : List Value).toArray below meth c H locs 0 0 (MQ below (va_Qi K (inW D (wdM ad cI) [(cI, .int)]) (AW ad 40 s.heap.size)) ([.ref (ad 0), .int a1, .int a2] : List Value).toArray s 0 0 (AW ad 40 s.heap.size)) (F0 m 0 ls []) := by
    intro H locs hP hS
    unfold w_X10_told at hw
    refine lv_aload_n hx hb dX10_told_0 rfl (lv_at hl 0 rfl) ?_
    refine lv_iload_n hx hb dX10_told_1 rfl (lv_at hl 1 rfl) ?_
    refine cvI (As := [.int a1]) (rest := []) F hK hP hS (c_X10_isAct l D ad cI hap H.size _ _ _ hw) (cwV 1 hts gU_X10_139 rfl rfl rfl (by decide +kernel) ⟨Nat.le_of_ble_eq_true rfl, Nat.le_of_ble_eq_true rfl⟩) (va_recv hK hP (ci := 7) (q0 := 0) rfl rfl) rfl hl.1 rfl (Nat.le_of_ble_eq_true rfl) dX10_told_2 ⟨Nat.zero_le _, Nat.zero_le _⟩ (fun r_10 u_9 H locs hw hP hS => ?_)
    obtain ⟨zr_10, hw⟩ := hw
    refine lv_if_ne (tgt := 10) hx hb dX10_told_5 (by decide) (fun c_33 => ?_) (fun c_33 => ?_)
    · have hw := hw.1 c_33
      refine lv_iconst (v := 0) hx hb dX10_told_10 (by decide) ?_
      refine lv_istore_n (lv' := [(3, .int 0), (0, .ref (ad 0)), (1, .int a1), (2, .int a2)]) hx hb dX10_told_11 rfl hl (by decide) rfl (fun ls hl => ?_)
      refine lv_iload_n hx hb dX10_told_12 rfl (lv_at hl 3 rfl) ?_
      by_cases k_11 : a2 = 0
      · have hw := hw.1 k_11
        refine sw_in 0 (tgt := 52) F dX10_told_13 k_11 (by decide) (by decide) rfl (by decide) ?_
        refine lv_aload_n hx hb dX10_told_52 rfl (lv_at hl 1 rfl) ?_
        refine gM_X10_kind F hK hP (hts _ mw_439) dX10_told_53 ?_
        refine lv_iload_n hx hb dX10_told_56 rfl (lv_at hl 2 rfl) ?_
        obtain ⟨i_12, hw⟩ := hw
        refine lM_X10_kind F hK hP i_12 dX10_told_57 ?_
        exact rtI F hr hlocks hK hw hP hS dX10_told_58
      · have hw := hw.2 k_11
        by_cases k_13 : a2 = 1
        · have hw := hw.1 k_13
          refine sw_in 1 (tgt := 59) F dX10_told_13 k_13 (by decide) (by decide) rfl (by decide) ?_
          refine lv_aload_n hx hb dX10_told_59 rfl (lv_at hl 1 rfl) ?_
          refine gM_X10_own F hK hP (hts _ mw_440) dX10_told_60 ?_
          refine lv_iload_n hx hb dX10_told_63 rfl (lv_at hl 2 rfl) ?_
          obtain ⟨i_14, hw⟩ := hw
          refine lM_X10_own F hK hP i_14 dX10_told_64 ?_
          exact rtI F hr hlocks hK hw hP hS dX10_told_65
        · have hw := hw.2 k_13
          by_cases k_15 : a2 = 2
          · have hw := hw.1 k_15
            refine sw_in 2 (tgt := 66) F dX10_told_13 k_15 (by decide) (by decide) rfl (by decide) ?_
            refine lv_aload_n hx hb dX10_told_66 rfl (lv_at hl 1 rfl) ?_
            refine gM_X10_ports F hK hP (hts _ mw_441) dX10_told_67 ?_
            refine lv_iload_n hx hb dX10_told_70 rfl (lv_at hl 2 rfl) ?_
            obtain ⟨i_16, hw⟩ := hw
            refine lM_X10_ports F hK hP i_16 dX10_told_71 ?_
            exact rtI F hr hlocks hK hw hP hS dX10_told_72
          · have hw := hw.2 k_15
            by_cases k_17 : a2 = 3 ∨ a2 = 4
            · have hw := hw.1 k_17
              have kd : W p l e (headSpec wU_X10_told rm_X10_told).room s m ([.ref (ad 0), .int a1, .int a2] : List Value).toArray below meth c H locs 0 0 (MQ below (va_Qi K (inW D (wdM ad cI) [(cI, .int)]) (AW ad 40 s.heap.size)) ([.ref (ad 0), .int a1, .int a2] : List Value).toArray s 0 0 (AW ad 40 s.heap.size)) (F0 m 73 ls []) := by
                refine lv_iconst (v := 0) hx hb dX10_told_73 (by decide) ?_
                refine lv_istore (lv' := [(4, .int 0), (3, .int 0), (0, .ref (ad 0)), (1, .int a1), (2, .int a2)]) hx hb dX10_told_74 hl (by decide) rfl (fun ls hl => ?_)
                obtain ⟨n_18, hw⟩ := hw
                exact lab_76 n_18 _ _ _ _ _ _ _ _ hw hP hS (lv_sub hl [2, 3, 4, 1, 0] rfl)
              rcases k_17 with k_29 | k_29
              · exact sw_in 3 (tgt := 73) F dX10_told_13 k_29 (by decide) (by decide) rfl (by decide) kd
              · exact sw_in 4 (tgt := 73) F dX10_told_13 k_29 (by decide) (by decide) rfl (by decide) kd
            · have hw := hw.2 k_17
              by_cases k_19 : a2 = 5
              · have hw := hw.1 k_19
                refine sw_in 5 (tgt := 125) F dX10_told_13 k_19 (by decide) (by decide) rfl (by decide) ?_
                refine lv_iconst (v := 0) hx hb dX10_told_125 (by decide) ?_
                refine lv_istore (lv' := [(4, .int 0), (3, .int 0), (0, .ref (ad 0)), (1, .int a1), (2, .int a2)]) hx hb dX10_told_126 hl (by decide) rfl (fun ls hl => ?_)
                obtain ⟨n_20, hw⟩ := hw
                exact lab_128 n_20 _ _ _ _ _ _ _ hw hP hS (lv_sub hl [2, 3, 1, 0] rfl)
              · have hw := hw.2 k_19
                have z_21 : ¬ a2.toInt = 0 := lv_neT (fun z => k_11 z) (k := 0) (by decide)
                have z_22 : ¬ a2.toInt = 1 := lv_neT (fun z => k_13 z) (k := 1) (by decide)
                have z_23 : ¬ a2.toInt = 2 := lv_neT (fun z => k_15 z) (k := 2) (by decide)
                have z_24 : ¬ a2.toInt = 3 := lv_neT (fun z => k_17 (Or.inl z)) (k := 3) (by decide)
                have z_25 : ¬ a2.toInt = 4 := lv_neT (fun z => k_17 (Or.inr z)) (k := 4) (by decide)
                have z_26 : ¬ a2.toInt = 5 := lv_neT (fun z => k_19 z) (k := 5) (by decide)
                have kd : W p l e (headSpec wU_X10_told rm_X10_told).room s m ([.ref (ad 0), .int a1, .int a2] : List Value).toArray below meth c H locs 0 0 (MQ below (va_Qi K (inW D (wdM ad cI) [(cI, .int)]) (AW ad 40 s.heap.size)) ([.ref (ad 0), .int a1, .int a2] : List Value).toArray s 0 0 (AW ad 40 s.heap.size)) (F0 m 164 ls []) := by
                  refine lv_iconst (v := (-1)) hx hb dX10_told_164 (by decide) ?_
                  exact rtI F hr hlocks hK hw hP hS dX10_told_165
                rcases (show (a2.toInt < 0 ∨ 5 < a2.toInt) by omega) with o_27
                · exact lv_tableOut (tgt := 164) hx hb dX10_told_13 o_27 (by decide) kd
    · have hw := hw.2 c_33
      refine lv_iconst (v := (-1)) hx hb dX10_told_8 (by decide) ?_
      exact rtI F hr hlocks hK hw hP hS dX10_told_9
  exact key s.heap [] hP hS

abbrev rm_X10_notes_was : Room := { frames := 2, cells := 0, slots := 0, locals := 46 }
set_option maxHeartbeats 4000000 in
set_option maxRecDepth 100000 in
theorem c_X10_notes_was (l : Launch) (D : va_G) (ad : Nat → Nat) (cI : ClassId) (hap : apart ad 40) (sz : Nat) (σ : St) (K : St → Prop) (hw : w_X10_notes_was σ K) : Met l yX10_notes wU_X10_notes rm_X10_notes_was (va_Pc [.ref (ad 0), .ref (ad 38)] (fun U => U.heap.size = sz ∧ inW D (wdM ad cI) [(cI, .int)] σ U)) (va_Qv K (inW D (wdM ad cI) [(cI, .int)]) (AW ad 40 sz)) 0 0 (AW ad 40 sz) := by
  refine Met.ofW (cc := cX10_notes) (maxL := 4) (ret := none) (by decide) rfl ?_
  intro p e s m args below meth c s₁ B hml hv
  obtain ⟨rfl, hsz, ⟨hP, hK⟩⟩ := hv
  have F : CallFix p m c cX10_notes 4 s ([.ref (ad 0), .ref (ad 38)] : List Value).toArray lw_U RX10 := ⟨B.exec, B.bytes, hml, findClass_of_methodNamed B.named, fun w h => atoms_spec (ws := wU_X10_notes) B.pre w (List.mem_cons_of_mem _ h)⟩
  have hx := F.1
  have hb := F.2.1
  have hown := F.2.2.2.1
  have hts := F.2.2.2.2
  have hr := B.returns
  have hlocks := B.notSynchronized
  subst hsz
  have hDs : ∀ σ, va_D (AW ad 40 s.heap.size) ((wdM ad cI) σ) := fun σ => wdM_D hap σ
  have hS : va_S (AW ad 40 s.heap.size) s.heap s.heap [] := va_S.rf
  have lab_87 : ∀ (n : Nat), ∀ (σ : St) (x2 : Int32) (H : Heap) (locs : List Loc) (ls : Array Slot), w_X10_notes_was_87 K n σ x2 → va_P D vwCl ((wdM ad cI) σ) H → va_S (AW ad 40 s.heap.size) s.heap H locs → lv_has ls 4 [(0, .ref (ad 0)), (1, .ref (ad 38)), (2, .int x2)] → W p l e (headSpec wU_X10_notes rm_X10_notes_was).room s m ([.ref (ad 0), .ref (ad 38)] : List Value).toArray below meth c H locs 0 0 (MQ below (va_Qv K (inW D (wdM ad cI) [(cI, .int)]) (AW ad 40 s.heap.size)) ([.ref (ad 0), .ref (ad 38)] : List Value).toArray s 0 0 (AW ad 40 s.heap.size)) (F0 m 87 ls []) := by
    intro n
    induction n with
    | zero =>
      intro σ x2 H locs ls hw
      exact hw.elim
    | succ n hL87 =>
      intro σ x2 H locs ls hw hP hS hl
      have hw : b_X10_notes_was_87 (w_X10_notes_was_87 K n) K σ x2 := hw
      unfold b_X10_notes_was_87 at hw
      generalize w_X10_notes_was_87 K n = L87 at hw hL87
      refine lv_iload_n hx hb dX10_notes_87 rfl (lv_at hl 2 rfl) ?_
      refine lv_bipush (v := 80) hx hb dX10_notes_88 (by decide) ?_
      refine lv_icmp_ge (tgt := 111) hx hb dX10_notes_90 (by decide) (fun c_3 => ?_) (fun c_3 => ?_)
      · have hw := hw.1 c_3
        exact rtV F hr hlocks hK hw hP hS dX10_notes_111
      · have hw := hw.2 c_3
        refine lv_aload_n hx hb dX10_notes_93 rfl (lv_at hl 1 rfl) ?_
        refine lv_bipush (v := 36) hx hb dX10_notes_94 (by decide) ?_
        refine lv_iload_n hx hb dX10_notes_96 rfl (lv_at hl 2 rfl) ?_
        refine lv_iadd hx hb dX10_notes_97 ?_
        refine lv_aload_n hx hb dX10_notes_98 rfl (lv_at hl 0 rfl) ?_
        refine gM_X10_fired F hK hP (hts _ mw_572) dX10_notes_99 ?_
        refine lv_iload_n hx hb dX10_notes_102 rfl (lv_at hl 2 rfl) ?_
        obtain ⟨i_2, hw⟩ := hw
        refine lM_X10_fired F hK hP i_2 dX10_notes_103 ?_
        obtain ⟨i_1, hw⟩ := hw
        refine sM_X10_was F hK hP hDs hS i_1 dX10_notes_104 (fun H locs hP hS => ?_)
        refine lv_iinc (v := (x2 + 1)) (lv' := [(2, .int (x2 + 1)), (0, .ref (ad 0)), (1, .ref (ad 38))]) hx hb dX10_notes_105 hl (k := 2) rfl rfl (by decide) rfl (fun ls hl => ?_)
        refine lv_goto (tgt := 87) hx hb dX10_notes_108 (by decide) ?_
        exact hL87 _ _ _ _ _ hw hP hS (lv_sub hl [1, 2, 0] rfl)
  have lab_52 : ∀ (L44 : St → Int32 → Prop) (hL44 : ∀ (σ : St) (x2 : Int32) (H : Heap) (locs : List Loc) (ls : Array Slot), L44 σ x2 → va_P D vwCl ((wdM ad cI) σ) H → va_S (AW ad 40 s.heap.size) s.heap H locs → lv_has ls 4 [(0, .ref (ad 0)), (1, .ref (ad 38)), (2, .int x2)] → W p l e (headSpec wU_X10_notes rm_X10_notes_was).room s m ([.ref (ad 0), .ref (ad 38)] : List Value).toArray below meth c H locs 0 0 (MQ below (va_Qv K (inW D (wdM ad cI) [(cI, .int)]) (AW ad 40 s.heap.size)) ([.ref (ad 0), .ref (ad 38)] : List Value).toArray s 0 0 (AW ad 40 s.heap.size)) (F0 m 44 ls [])) (n : Nat), ∀ (σ : St) (x2 : Int32) (x3 : Int32) (H : Heap) (locs : List Loc) (ls : Array Slot), w_X10_notes_was_52 L44 K n σ x2 x3 → va_P D vwCl ((wdM ad cI) σ) H → va_S (AW ad 40 s.heap.size) s.heap H locs → lv_has ls 4 [(0, .ref (ad 0)), (1, .ref (ad 38)), (2, .int x2), (3, .int x3)] → W p l e (headSpec wU_X10_notes rm_X10_notes_was).room s m ([.ref (ad 0), .ref (ad 38)] : List Value).toArray below meth c H locs 0 0 (MQ below (va_Qv K (inW D (wdM ad cI) [(cI, .int)]) (AW ad 40 s.heap.size)) ([.ref (ad 0), .ref (ad 38)] : List Value).toArray s 0 0 (AW ad 40 s.heap.size)) (F0 m 52 ls []) := by
    intro L44 hL44
    intro n
    induction n with
    | zero =>
      intro σ x2 x3 H locs ls hw
      exact hw.elim
    | succ n hL52 =>
      intro σ x2 x3 H locs ls hw hP hS hl
      have hw : b_X10_notes_was_52 L44 (w_X10_notes_was_52 L44 K n) K σ x2 x3 := hw
      unfold b_X10_notes_was_52 at hw
      generalize w_X10_notes_was_52 L44 K n = L52 at hw hL52
      refine lv_iload_n hx hb dX10_notes_52 rfl (lv_at hl 3 rfl) ?_
      refine lv_iconst (v := 3) hx hb dX10_notes_53 (by decide) ?_
      refine lv_icmp_ge (tgt := 79) hx hb dX10_notes_54 (by decide) (fun c_7 => ?_) (fun c_7 => ?_)
      · have hw := hw.1 c_7
        refine lv_iinc (v := (x2 + 1)) (lv' := [(2, .int (x2 + 1)), (0, .ref (ad 0)), (1, .ref (ad 38)), (3, .int x3)]) hx hb dX10_notes_79 hl (k := 2) rfl rfl (by decide) rfl (fun ls hl => ?_)
        refine lv_goto (tgt := 44) hx hb dX10_notes_82 (by decide) ?_
        exact hL44 _ _ _ _ _ hw hP hS (lv_sub hl [1, 2, 0] rfl)
      · have hw := hw.2 c_7
        refine lv_aload_n hx hb dX10_notes_57 rfl (lv_at hl 1 rfl) ?_
        refine lv_bipush (v := 6) hx hb dX10_notes_58 (by decide) ?_
        refine lv_iconst (v := 3) hx hb dX10_notes_60 (by decide) ?_
        refine lv_iload_n hx hb dX10_notes_61 rfl (lv_at hl 2 rfl) ?_
        refine lv_imul hx hb dX10_notes_62 ?_
        refine lv_iadd hx hb dX10_notes_63 ?_
        refine lv_iload_n hx hb dX10_notes_64 rfl (lv_at hl 3 rfl) ?_
        refine lv_iadd hx hb dX10_notes_65 ?_
        refine lv_aload_n hx hb dX10_notes_66 rfl (lv_at hl 0 rfl) ?_
        refine lv_iload_n hx hb dX10_notes_67 rfl (lv_at hl 2 rfl) ?_
        refine lv_iload_n hx hb dX10_notes_68 rfl (lv_at hl 3 rfl) ?_
        refine cvI (As := [.int x2, .int x3]) (rest := [.int ((6 + (3 * x2)) + x3), .ref (ad 38)]) F hK hP hS (c_X10_end l D ad cI hap H.size _ _ _ _ hw) (cwV 2 hts gU_X10_275 rfl rfl rfl (by decide +kernel) ⟨Nat.le_of_ble_eq_true rfl, Nat.le_of_ble_eq_true rfl⟩) (va_recv hK hP (ci := 7) (q0 := 0) rfl rfl) rfl hl.1 rfl (Nat.le_of_ble_eq_true rfl) dX10_notes_69 ⟨Nat.zero_le _, Nat.zero_le _⟩ (fun r_5 u_4 H locs hw hP hS => ?_)
        obtain ⟨i_6, hw⟩ := hw
        refine sM_X10_was F hK hP hDs hS i_6 dX10_notes_72 (fun H locs hP hS => ?_)
        refine lv_iinc (v := (x3 + 1)) (lv' := [(3, .int (x3 + 1)), (0, .ref (ad 0)), (1, .ref (ad 38)), (2, .int x2)]) hx hb dX10_notes_73 hl (k := 3) rfl rfl (by decide) rfl (fun ls hl => ?_)
        refine lv_goto (tgt := 52) hx hb dX10_notes_76 (by decide) ?_
        exact hL52 _ _ _ _ _ _ hw hP hS (lv_sub hl [1, 2, 3, 0] rfl)
  have lab_44 : ∀ (n : Nat), ∀ (σ : St) (x2 : Int32) (H : Heap) (locs : List Loc) (ls : Array Slot), w_X10_notes_was_44 K n σ x2 → va_P D vwCl ((wdM ad cI) σ) H → va_S (AW ad 40 s.heap.size) s.heap H locs → lv_has ls 4 [(0, .ref (ad 0)), (1, .ref (ad 38)), (2, .int x2)] → W p l e (headSpec wU_X10_notes rm_X10_notes_was).room s m ([.ref (ad 0), .ref (ad 38)] : List Value).toArray below meth c H locs 0 0 (MQ below (va_Qv K (inW D (wdM ad cI) [(cI, .int)]) (AW ad 40 s.heap.size)) ([.ref (ad 0), .ref (ad 38)] : List Value).toArray s 0 0 (AW ad 40 s.heap.size)) (F0 m 44 ls []) := by
    intro n
    induction n with
    | zero =>
      intro σ x2 H locs ls hw
      exact hw.elim
    | succ n hL44 =>
      intro σ x2 H locs ls hw hP hS hl
      have hw : b_X10_notes_was_44 (w_X10_notes_was_44 K n) K σ x2 := hw
      unfold b_X10_notes_was_44 at hw
      generalize w_X10_notes_was_44 K n = L44 at hw hL44
      refine lv_iload_n hx hb dX10_notes_44 rfl (lv_at hl 2 rfl) ?_
      refine lv_bipush (v := 10) hx hb dX10_notes_45 (by decide) ?_
      refine lv_icmp_ge (tgt := 85) hx hb dX10_notes_47 (by decide) (fun c_10 => ?_) (fun c_10 => ?_)
      · have hw := hw.1 c_10
        refine lv_iconst (v := 0) hx hb dX10_notes_85 (by decide) ?_
        refine lv_istore_n (lv' := [(2, .int 0), (0, .ref (ad 0)), (1, .ref (ad 38))]) hx hb dX10_notes_86 rfl hl (by decide) rfl (fun ls hl => ?_)
        obtain ⟨n_8, hw⟩ := hw
        exact lab_87 n_8 _ _ _ _ _ hw hP hS (lv_sub hl [1, 2, 0] rfl)
      · have hw := hw.2 c_10
        refine lv_iconst (v := 0) hx hb dX10_notes_50 (by decide) ?_
        refine lv_istore_n (lv' := [(3, .int 0), (0, .ref (ad 0)), (1, .ref (ad 38)), (2, .int x2)]) hx hb dX10_notes_51 rfl hl (by decide) rfl (fun ls hl => ?_)
        obtain ⟨n_9, hw⟩ := hw
        exact lab_52 L44 hL44 n_9 _ _ _ _ _ _ hw hP hS (lv_sub hl [1, 2, 3, 0] rfl)
  have hl := lv_entry ([.ref (ad 0), .ref (ad 38)]) (n := 4) (Nat.le_of_ble_eq_true rfl)
  rw [lg_entry_eq]
  generalize (lg_sl ([.ref (ad 0), .ref (ad 38)]) ++ List.replicate (4 - (lg_sl ([.ref (ad 0), .ref (ad 38)])).length) Slot.unset).toArray = ls at hl ⊢
  have hl : lv_has ls 4 [(0, .ref (ad 0)), (1, .ref (ad 38))] := hl
  have key : ∀ (H : Heap) (locs : List Loc), va_P D vwCl ((wdM ad cI) σ) H → va_S (AW ad 40 s.heap.size) s.heap H locs → W p l e (headSpec wU_X10_notes rm_X10_notes_was).room s m ([.ref (ad 0), .ref (ad 38)] : List Value).toArray below meth c H locs 0 0 (MQ below (va_Qv K (inW D (wdM ad cI) [(cI, .int)]) (AW ad 40 s.heap.size)) ([.ref (ad 0), .ref (ad 38)] : List Value).toArray s 0 0 (AW ad 40 s.heap.size)) (F0 m 0 ls []) := by
    intro H locs hP hS
    unfold w_X10_notes_was at hw
    refine lv_aload_n hx hb dX10_notes_0 rfl (lv_at hl 1 rfl) ?_
    refine lv_iconst (v := 0) hx hb dX10_notes_1 (by decide) ?_
    refine lv_aload_n hx hb dX10_notes_2 rfl (lv_at hl 0 rfl) ?_
    refine gM_X10_how F hK hP (hts _ mw_459) dX10_notes_3 ?_
    refine sM_X10_was F hK hP hDs hS (by unfold vp_in; decide) dX10_notes_6 (fun H locs hP hS => ?_)
    refine lv_aload_n hx hb dX10_notes_7 rfl (lv_at hl 1 rfl) ?_
    refine lv_iconst (v := 1) hx hb dX10_notes_8 (by decide) ?_
    refine lv_aload_n hx hb dX10_notes_9 rfl (lv_at hl 0 rfl) ?_
    refine gM_X10_steps F hK hP (hts _ mw_573) dX10_notes_10 ?_
    refine jvi (y := (gS σ 6)) (by simp only [gS_sS, gS_sA, gS_sL, gS_fA, gS_fL, gA_sS, gA_sA, gA_sL, gA_fA, gA_fL, gL_sS, gL_sA, gL_sL, gL_fA, gL_fL, reduceIte, Nat.reduceEqDiff]) ?_
    refine sM_X10_was F hK hP hDs hS (by unfold vp_in; decide) dX10_notes_13 (fun H locs hP hS => ?_)
    refine lv_aload_n hx hb dX10_notes_14 rfl (lv_at hl 1 rfl) ?_
    refine lv_iconst (v := 2) hx hb dX10_notes_15 (by decide) ?_
    refine lv_aload_n hx hb dX10_notes_16 rfl (lv_at hl 0 rfl) ?_
    refine cvI (As := []) (rest := [.int 2, .ref (ad 38)]) F hK hP hS (c_X10_left l D ad cI hap H.size _ _ hw) (cwV 0 hts gU_X10_265 rfl rfl rfl (by decide +kernel) ⟨Nat.le_of_ble_eq_true rfl, Nat.le_of_ble_eq_true rfl⟩) (va_recv hK hP (ci := 7) (q0 := 0) rfl rfl) rfl hl.1 rfl (Nat.le_of_ble_eq_true rfl) dX10_notes_17 ⟨Nat.zero_le _, Nat.zero_le _⟩ (fun r_12 u_11 H locs hw hP hS => ?_)
    refine sM_X10_was F hK hP hDs hS (by unfold vp_in; decide) dX10_notes_20 (fun H locs hP hS => ?_)
    refine lv_aload_n hx hb dX10_notes_21 rfl (lv_at hl 1 rfl) ?_
    refine lv_iconst (v := 3) hx hb dX10_notes_22 (by decide) ?_
    refine lv_aload_n hx hb dX10_notes_23 rfl (lv_at hl 0 rfl) ?_
    refine cvI (As := []) (rest := [.int 3, .ref (ad 38)]) F hK hP hS (c_X10_waiting l D ad cI hap H.size _ _ hw) (cwV 0 hts gU_X10_269 rfl rfl rfl (by decide +kernel) ⟨Nat.le_of_ble_eq_true rfl, Nat.le_of_ble_eq_true rfl⟩) (va_recv hK hP (ci := 7) (q0 := 0) rfl rfl) rfl hl.1 rfl (Nat.le_of_ble_eq_true rfl) dX10_notes_24 ⟨Nat.zero_le _, Nat.zero_le _⟩ (fun r_14 u_13 H locs hw hP hS => ?_)
    refine sM_X10_was F hK hP hDs hS (by unfold vp_in; decide) dX10_notes_27 (fun H locs hP hS => ?_)
    refine lv_aload_n hx hb dX10_notes_28 rfl (lv_at hl 1 rfl) ?_
    refine lv_iconst (v := 4) hx hb dX10_notes_29 (by decide) ?_
    refine lv_aload_n hx hb dX10_notes_30 rfl (lv_at hl 0 rfl) ?_
    refine gM_X10_lost F hK hP (hts _ mw_507) dX10_notes_31 ?_
    refine jvi (y := (gS u_13 9)) (by simp only [gS_sS, gS_sA, gS_sL, gS_fA, gS_fL, gA_sS, gA_sA, gA_sL, gA_fA, gA_fL, gL_sS, gL_sA, gL_sL, gL_fA, gL_fL, reduceIte, Nat.reduceEqDiff]) ?_
    refine sM_X10_was F hK hP hDs hS (by unfold vp_in; decide) dX10_notes_34 (fun H locs hP hS => ?_)
    refine lv_aload_n hx hb dX10_notes_35 rfl (lv_at hl 1 rfl) ?_
    refine lv_iconst (v := 5) hx hb dX10_notes_36 (by decide) ?_
    refine lv_aload_n hx hb dX10_notes_37 rfl (lv_at hl 0 rfl) ?_
    refine gM_X10_strays F hK hP (hts _ mw_519) dX10_notes_38 ?_
    refine jvi (y := (gS u_13 10)) (by simp only [gS_sS, gS_sA, gS_sL, gS_fA, gS_fL, gA_sS, gA_sA, gA_sL, gA_fA, gA_fL, gL_sS, gL_sA, gL_sL, gL_fA, gL_fL, reduceIte, Nat.reduceEqDiff]) ?_
    refine sM_X10_was F hK hP hDs hS (by unfold vp_in; decide) dX10_notes_41 (fun H locs hP hS => ?_)
    refine lv_iconst (v := 0) hx hb dX10_notes_42 (by decide) ?_
    refine lv_istore_n (lv' := [(2, .int 0), (0, .ref (ad 0)), (1, .ref (ad 38))]) hx hb dX10_notes_43 rfl hl (by decide) rfl (fun ls hl => ?_)
    obtain ⟨n_15, hw⟩ := hw
    exact lab_44 n_15 _ _ _ _ _ hw hP hS (lv_sub hl [1, 2, 0] rfl)
  exact key s.heap [] hP hS

abbrev rm_X10_notes_is : Room := { frames := 2, cells := 0, slots := 0, locals := 46 }
set_option maxHeartbeats 4000000 in
set_option maxRecDepth 100000 in
theorem c_X10_notes_is (l : Launch) (D : va_G) (ad : Nat → Nat) (cI : ClassId) (hap : apart ad 40) (sz : Nat) (σ : St) (K : St → Prop) (hw : w_X10_notes_is σ K) : Met l yX10_notes wU_X10_notes rm_X10_notes_is (va_Pc [.ref (ad 0), .ref (ad 39)] (fun U => U.heap.size = sz ∧ inW D (wdM ad cI) [(cI, .int)] σ U)) (va_Qv K (inW D (wdM ad cI) [(cI, .int)]) (AW ad 40 sz)) 0 0 (AW ad 40 sz) := by
  refine Met.ofW (cc := cX10_notes) (maxL := 4) (ret := none) (by decide) rfl ?_
  intro p e s m args below meth c s₁ B hml hv
  obtain ⟨rfl, hsz, ⟨hP, hK⟩⟩ := hv
  have F : CallFix p m c cX10_notes 4 s ([.ref (ad 0), .ref (ad 39)] : List Value).toArray lw_U RX10 := ⟨B.exec, B.bytes, hml, findClass_of_methodNamed B.named, fun w h => atoms_spec (ws := wU_X10_notes) B.pre w (List.mem_cons_of_mem _ h)⟩
  have hx := F.1
  have hb := F.2.1
  have hown := F.2.2.2.1
  have hts := F.2.2.2.2
  have hr := B.returns
  have hlocks := B.notSynchronized
  subst hsz
  have hDs : ∀ σ, va_D (AW ad 40 s.heap.size) ((wdM ad cI) σ) := fun σ => wdM_D hap σ
  have hS : va_S (AW ad 40 s.heap.size) s.heap s.heap [] := va_S.rf
  have lab_87 : ∀ (n : Nat), ∀ (σ : St) (x2 : Int32) (H : Heap) (locs : List Loc) (ls : Array Slot), w_X10_notes_is_87 K n σ x2 → va_P D vwCl ((wdM ad cI) σ) H → va_S (AW ad 40 s.heap.size) s.heap H locs → lv_has ls 4 [(0, .ref (ad 0)), (1, .ref (ad 39)), (2, .int x2)] → W p l e (headSpec wU_X10_notes rm_X10_notes_is).room s m ([.ref (ad 0), .ref (ad 39)] : List Value).toArray below meth c H locs 0 0 (MQ below (va_Qv K (inW D (wdM ad cI) [(cI, .int)]) (AW ad 40 s.heap.size)) ([.ref (ad 0), .ref (ad 39)] : List Value).toArray s 0 0 (AW ad 40 s.heap.size)) (F0 m 87 ls []) := by
    intro n
    induction n with
    | zero =>
      intro σ x2 H locs ls hw
      exact hw.elim
    | succ n hL87 =>
      intro σ x2 H locs ls hw hP hS hl
      have hw : b_X10_notes_is_87 (w_X10_notes_is_87 K n) K σ x2 := hw
      unfold b_X10_notes_is_87 at hw
      generalize w_X10_notes_is_87 K n = L87 at hw hL87
      refine lv_iload_n hx hb dX10_notes_87 rfl (lv_at hl 2 rfl) ?_
      refine lv_bipush (v := 80) hx hb dX10_notes_88 (by decide) ?_
      refine lv_icmp_ge (tgt := 111) hx hb dX10_notes_90 (by decide) (fun c_3 => ?_) (fun c_3 => ?_)
      · have hw := hw.1 c_3
        exact rtV F hr hlocks hK hw hP hS dX10_notes_111
      · have hw := hw.2 c_3
        refine lv_aload_n hx hb dX10_notes_93 rfl (lv_at hl 1 rfl) ?_
        refine lv_bipush (v := 36) hx hb dX10_notes_94 (by decide) ?_
        refine lv_iload_n hx hb dX10_notes_96 rfl (lv_at hl 2 rfl) ?_
        refine lv_iadd hx hb dX10_notes_97 ?_
        refine lv_aload_n hx hb dX10_notes_98 rfl (lv_at hl 0 rfl) ?_
        refine gM_X10_fired F hK hP (hts _ mw_572) dX10_notes_99 ?_
        refine lv_iload_n hx hb dX10_notes_102 rfl (lv_at hl 2 rfl) ?_
        obtain ⟨i_2, hw⟩ := hw
        refine lM_X10_fired F hK hP i_2 dX10_notes_103 ?_
        obtain ⟨i_1, hw⟩ := hw
        refine sM_X10_is F hK hP hDs hS i_1 dX10_notes_104 (fun H locs hP hS => ?_)
        refine lv_iinc (v := (x2 + 1)) (lv' := [(2, .int (x2 + 1)), (0, .ref (ad 0)), (1, .ref (ad 39))]) hx hb dX10_notes_105 hl (k := 2) rfl rfl (by decide) rfl (fun ls hl => ?_)
        refine lv_goto (tgt := 87) hx hb dX10_notes_108 (by decide) ?_
        exact hL87 _ _ _ _ _ hw hP hS (lv_sub hl [1, 2, 0] rfl)
  have lab_52 : ∀ (L44 : St → Int32 → Prop) (hL44 : ∀ (σ : St) (x2 : Int32) (H : Heap) (locs : List Loc) (ls : Array Slot), L44 σ x2 → va_P D vwCl ((wdM ad cI) σ) H → va_S (AW ad 40 s.heap.size) s.heap H locs → lv_has ls 4 [(0, .ref (ad 0)), (1, .ref (ad 39)), (2, .int x2)] → W p l e (headSpec wU_X10_notes rm_X10_notes_is).room s m ([.ref (ad 0), .ref (ad 39)] : List Value).toArray below meth c H locs 0 0 (MQ below (va_Qv K (inW D (wdM ad cI) [(cI, .int)]) (AW ad 40 s.heap.size)) ([.ref (ad 0), .ref (ad 39)] : List Value).toArray s 0 0 (AW ad 40 s.heap.size)) (F0 m 44 ls [])) (n : Nat), ∀ (σ : St) (x2 : Int32) (x3 : Int32) (H : Heap) (locs : List Loc) (ls : Array Slot), w_X10_notes_is_52 L44 K n σ x2 x3 → va_P D vwCl ((wdM ad cI) σ) H → va_S (AW ad 40 s.heap.size) s.heap H locs → lv_has ls 4 [(0, .ref (ad 0)), (1, .ref (ad 39)), (2, .int x2), (3, .int x3)] → W p l e (headSpec wU_X10_notes rm_X10_notes_is).room s m ([.ref (ad 0), .ref (ad 39)] : List Value).toArray below meth c H locs 0 0 (MQ below (va_Qv K (inW D (wdM ad cI) [(cI, .int)]) (AW ad 40 s.heap.size)) ([.ref (ad 0), .ref (ad 39)] : List Value).toArray s 0 0 (AW ad 40 s.heap.size)) (F0 m 52 ls []) := by
    intro L44 hL44
    intro n
    induction n with
    | zero =>
      intro σ x2 x3 H locs ls hw
      exact hw.elim
    | succ n hL52 =>
      intro σ x2 x3 H locs ls hw hP hS hl
      have hw : b_X10_notes_is_52 L44 (w_X10_notes_is_52 L44 K n) K σ x2 x3 := hw
      unfold b_X10_notes_is_52 at hw
      generalize w_X10_notes_is_52 L44 K n = L52 at hw hL52
      refine lv_iload_n hx hb dX10_notes_52 rfl (lv_at hl 3 rfl) ?_
      refine lv_iconst (v := 3) hx hb dX10_notes_53 (by decide) ?_
      refine lv_icmp_ge (tgt := 79) hx hb dX10_notes_54 (by decide) (fun c_7 => ?_) (fun c_7 => ?_)
      · have hw := hw.1 c_7
        refine lv_iinc (v := (x2 + 1)) (lv' := [(2, .int (x2 + 1)), (0, .ref (ad 0)), (1, .ref (ad 39)), (3, .int x3)]) hx hb dX10_notes_79 hl (k := 2) rfl rfl (by decide) rfl (fun ls hl => ?_)
        refine lv_goto (tgt := 44) hx hb dX10_notes_82 (by decide) ?_
        exact hL44 _ _ _ _ _ hw hP hS (lv_sub hl [1, 2, 0] rfl)
      · have hw := hw.2 c_7
        refine lv_aload_n hx hb dX10_notes_57 rfl (lv_at hl 1 rfl) ?_
        refine lv_bipush (v := 6) hx hb dX10_notes_58 (by decide) ?_
        refine lv_iconst (v := 3) hx hb dX10_notes_60 (by decide) ?_
        refine lv_iload_n hx hb dX10_notes_61 rfl (lv_at hl 2 rfl) ?_
        refine lv_imul hx hb dX10_notes_62 ?_
        refine lv_iadd hx hb dX10_notes_63 ?_
        refine lv_iload_n hx hb dX10_notes_64 rfl (lv_at hl 3 rfl) ?_
        refine lv_iadd hx hb dX10_notes_65 ?_
        refine lv_aload_n hx hb dX10_notes_66 rfl (lv_at hl 0 rfl) ?_
        refine lv_iload_n hx hb dX10_notes_67 rfl (lv_at hl 2 rfl) ?_
        refine lv_iload_n hx hb dX10_notes_68 rfl (lv_at hl 3 rfl) ?_
        refine cvI (As := [.int x2, .int x3]) (rest := [.int ((6 + (3 * x2)) + x3), .ref (ad 39)]) F hK hP hS (c_X10_end l D ad cI hap H.size _ _ _ _ hw) (cwV 2 hts gU_X10_275 rfl rfl rfl (by decide +kernel) ⟨Nat.le_of_ble_eq_true rfl, Nat.le_of_ble_eq_true rfl⟩) (va_recv hK hP (ci := 7) (q0 := 0) rfl rfl) rfl hl.1 rfl (Nat.le_of_ble_eq_true rfl) dX10_notes_69 ⟨Nat.zero_le _, Nat.zero_le _⟩ (fun r_5 u_4 H locs hw hP hS => ?_)
        obtain ⟨i_6, hw⟩ := hw
        refine sM_X10_is F hK hP hDs hS i_6 dX10_notes_72 (fun H locs hP hS => ?_)
        refine lv_iinc (v := (x3 + 1)) (lv' := [(3, .int (x3 + 1)), (0, .ref (ad 0)), (1, .ref (ad 39)), (2, .int x2)]) hx hb dX10_notes_73 hl (k := 3) rfl rfl (by decide) rfl (fun ls hl => ?_)
        refine lv_goto (tgt := 52) hx hb dX10_notes_76 (by decide) ?_
        exact hL52 _ _ _ _ _ _ hw hP hS (lv_sub hl [1, 2, 3, 0] rfl)
  have lab_44 : ∀ (n : Nat), ∀ (σ : St) (x2 : Int32) (H : Heap) (locs : List Loc) (ls : Array Slot), w_X10_notes_is_44 K n σ x2 → va_P D vwCl ((wdM ad cI) σ) H → va_S (AW ad 40 s.heap.size) s.heap H locs → lv_has ls 4 [(0, .ref (ad 0)), (1, .ref (ad 39)), (2, .int x2)] → W p l e (headSpec wU_X10_notes rm_X10_notes_is).room s m ([.ref (ad 0), .ref (ad 39)] : List Value).toArray below meth c H locs 0 0 (MQ below (va_Qv K (inW D (wdM ad cI) [(cI, .int)]) (AW ad 40 s.heap.size)) ([.ref (ad 0), .ref (ad 39)] : List Value).toArray s 0 0 (AW ad 40 s.heap.size)) (F0 m 44 ls []) := by
    intro n
    induction n with
    | zero =>
      intro σ x2 H locs ls hw
      exact hw.elim
    | succ n hL44 =>
      intro σ x2 H locs ls hw hP hS hl
      have hw : b_X10_notes_is_44 (w_X10_notes_is_44 K n) K σ x2 := hw
      unfold b_X10_notes_is_44 at hw
      generalize w_X10_notes_is_44 K n = L44 at hw hL44
      refine lv_iload_n hx hb dX10_notes_44 rfl (lv_at hl 2 rfl) ?_
      refine lv_bipush (v := 10) hx hb dX10_notes_45 (by decide) ?_
      refine lv_icmp_ge (tgt := 85) hx hb dX10_notes_47 (by decide) (fun c_10 => ?_) (fun c_10 => ?_)
      · have hw := hw.1 c_10
        refine lv_iconst (v := 0) hx hb dX10_notes_85 (by decide) ?_
        refine lv_istore_n (lv' := [(2, .int 0), (0, .ref (ad 0)), (1, .ref (ad 39))]) hx hb dX10_notes_86 rfl hl (by decide) rfl (fun ls hl => ?_)
        obtain ⟨n_8, hw⟩ := hw
        exact lab_87 n_8 _ _ _ _ _ hw hP hS (lv_sub hl [1, 2, 0] rfl)
      · have hw := hw.2 c_10
        refine lv_iconst (v := 0) hx hb dX10_notes_50 (by decide) ?_
        refine lv_istore_n (lv' := [(3, .int 0), (0, .ref (ad 0)), (1, .ref (ad 39)), (2, .int x2)]) hx hb dX10_notes_51 rfl hl (by decide) rfl (fun ls hl => ?_)
        obtain ⟨n_9, hw⟩ := hw
        exact lab_52 L44 hL44 n_9 _ _ _ _ _ _ hw hP hS (lv_sub hl [1, 2, 3, 0] rfl)
  have hl := lv_entry ([.ref (ad 0), .ref (ad 39)]) (n := 4) (Nat.le_of_ble_eq_true rfl)
  rw [lg_entry_eq]
  generalize (lg_sl ([.ref (ad 0), .ref (ad 39)]) ++ List.replicate (4 - (lg_sl ([.ref (ad 0), .ref (ad 39)])).length) Slot.unset).toArray = ls at hl ⊢
  have hl : lv_has ls 4 [(0, .ref (ad 0)), (1, .ref (ad 39))] := hl
  have key : ∀ (H : Heap) (locs : List Loc), va_P D vwCl ((wdM ad cI) σ) H → va_S (AW ad 40 s.heap.size) s.heap H locs → W p l e (headSpec wU_X10_notes rm_X10_notes_is).room s m ([.ref (ad 0), .ref (ad 39)] : List Value).toArray below meth c H locs 0 0 (MQ below (va_Qv K (inW D (wdM ad cI) [(cI, .int)]) (AW ad 40 s.heap.size)) ([.ref (ad 0), .ref (ad 39)] : List Value).toArray s 0 0 (AW ad 40 s.heap.size)) (F0 m 0 ls []) := by
    intro H locs hP hS
    unfold w_X10_notes_is at hw
    refine lv_aload_n hx hb dX10_notes_0 rfl (lv_at hl 1 rfl) ?_
    refine lv_iconst (v := 0) hx hb dX10_notes_1 (by decide) ?_
    refine lv_aload_n hx hb dX10_notes_2 rfl (lv_at hl 0 rfl) ?_
    refine gM_X10_how F hK hP (hts _ mw_459) dX10_notes_3 ?_
    refine sM_X10_is F hK hP hDs hS (by unfold vp_in; decide) dX10_notes_6 (fun H locs hP hS => ?_)
    refine lv_aload_n hx hb dX10_notes_7 rfl (lv_at hl 1 rfl) ?_
    refine lv_iconst (v := 1) hx hb dX10_notes_8 (by decide) ?_
    refine lv_aload_n hx hb dX10_notes_9 rfl (lv_at hl 0 rfl) ?_
    refine gM_X10_steps F hK hP (hts _ mw_573) dX10_notes_10 ?_
    refine jvi (y := (gS σ 6)) (by simp only [gS_sS, gS_sA, gS_sL, gS_fA, gS_fL, gA_sS, gA_sA, gA_sL, gA_fA, gA_fL, gL_sS, gL_sA, gL_sL, gL_fA, gL_fL, reduceIte, Nat.reduceEqDiff]) ?_
    refine sM_X10_is F hK hP hDs hS (by unfold vp_in; decide) dX10_notes_13 (fun H locs hP hS => ?_)
    refine lv_aload_n hx hb dX10_notes_14 rfl (lv_at hl 1 rfl) ?_
    refine lv_iconst (v := 2) hx hb dX10_notes_15 (by decide) ?_
    refine lv_aload_n hx hb dX10_notes_16 rfl (lv_at hl 0 rfl) ?_
    refine cvI (As := []) (rest := [.int 2, .ref (ad 39)]) F hK hP hS (c_X10_left l D ad cI hap H.size _ _ hw) (cwV 0 hts gU_X10_265 rfl rfl rfl (by decide +kernel) ⟨Nat.le_of_ble_eq_true rfl, Nat.le_of_ble_eq_true rfl⟩) (va_recv hK hP (ci := 7) (q0 := 0) rfl rfl) rfl hl.1 rfl (Nat.le_of_ble_eq_true rfl) dX10_notes_17 ⟨Nat.zero_le _, Nat.zero_le _⟩ (fun r_12 u_11 H locs hw hP hS => ?_)
    refine sM_X10_is F hK hP hDs hS (by unfold vp_in; decide) dX10_notes_20 (fun H locs hP hS => ?_)
    refine lv_aload_n hx hb dX10_notes_21 rfl (lv_at hl 1 rfl) ?_
    refine lv_iconst (v := 3) hx hb dX10_notes_22 (by decide) ?_
    refine lv_aload_n hx hb dX10_notes_23 rfl (lv_at hl 0 rfl) ?_
    refine cvI (As := []) (rest := [.int 3, .ref (ad 39)]) F hK hP hS (c_X10_waiting l D ad cI hap H.size _ _ hw) (cwV 0 hts gU_X10_269 rfl rfl rfl (by decide +kernel) ⟨Nat.le_of_ble_eq_true rfl, Nat.le_of_ble_eq_true rfl⟩) (va_recv hK hP (ci := 7) (q0 := 0) rfl rfl) rfl hl.1 rfl (Nat.le_of_ble_eq_true rfl) dX10_notes_24 ⟨Nat.zero_le _, Nat.zero_le _⟩ (fun r_14 u_13 H locs hw hP hS => ?_)
    refine sM_X10_is F hK hP hDs hS (by unfold vp_in; decide) dX10_notes_27 (fun H locs hP hS => ?_)
    refine lv_aload_n hx hb dX10_notes_28 rfl (lv_at hl 1 rfl) ?_
    refine lv_iconst (v := 4) hx hb dX10_notes_29 (by decide) ?_
    refine lv_aload_n hx hb dX10_notes_30 rfl (lv_at hl 0 rfl) ?_
    refine gM_X10_lost F hK hP (hts _ mw_507) dX10_notes_31 ?_
    refine jvi (y := (gS u_13 9)) (by simp only [gS_sS, gS_sA, gS_sL, gS_fA, gS_fL, gA_sS, gA_sA, gA_sL, gA_fA, gA_fL, gL_sS, gL_sA, gL_sL, gL_fA, gL_fL, reduceIte, Nat.reduceEqDiff]) ?_
    refine sM_X10_is F hK hP hDs hS (by unfold vp_in; decide) dX10_notes_34 (fun H locs hP hS => ?_)
    refine lv_aload_n hx hb dX10_notes_35 rfl (lv_at hl 1 rfl) ?_
    refine lv_iconst (v := 5) hx hb dX10_notes_36 (by decide) ?_
    refine lv_aload_n hx hb dX10_notes_37 rfl (lv_at hl 0 rfl) ?_
    refine gM_X10_strays F hK hP (hts _ mw_519) dX10_notes_38 ?_
    refine jvi (y := (gS u_13 10)) (by simp only [gS_sS, gS_sA, gS_sL, gS_fA, gS_fL, gA_sS, gA_sA, gA_sL, gA_fA, gA_fL, gL_sS, gL_sA, gL_sL, gL_fA, gL_fL, reduceIte, Nat.reduceEqDiff]) ?_
    refine sM_X10_is F hK hP hDs hS (by unfold vp_in; decide) dX10_notes_41 (fun H locs hP hS => ?_)
    refine lv_iconst (v := 0) hx hb dX10_notes_42 (by decide) ?_
    refine lv_istore_n (lv' := [(2, .int 0), (0, .ref (ad 0)), (1, .ref (ad 39))]) hx hb dX10_notes_43 rfl hl (by decide) rfl (fun ls hl => ?_)
    obtain ⟨n_15, hw⟩ := hw
    exact lab_44 n_15 _ _ _ _ _ hw hP hS (lv_sub hl [1, 2, 0] rfl)
  exact key s.heap [] hP hS

abbrev rm_X10_beside : Room := { frames := 10, cells := 0, slots := 0, locals := 243 }
set_option maxHeartbeats 4000000 in
set_option maxRecDepth 100000 in
theorem c_X10_beside (l : Launch) (D : va_G) (ad : Nat → Nat) (cI : ClassId) (hap : apart ad 40) (sz : Nat) (σ : St) (a1 : Int32) (a2 : Int32) (a3 : Int32) (K : Int32 → St → Prop) (hw : w_X10_beside σ a1 a2 a3 K) : Met l yX10_beside wU_X10_beside rm_X10_beside (va_Pc [.ref (ad 0), .int a1, .int a2, .int a3] (fun U => U.heap.size = sz ∧ inW D (wdM ad cI) [(cI, .int)] σ U)) (va_Qi K (inW D (wdM ad cI) [(cI, .int)]) (AW ad 40 sz)) 0 0 (AW ad 40 sz) := by
  refine Met.ofW (cc := cX10_beside) (maxL := 5) (ret := (some .int)) (by decide) rfl ?_
  intro p e s m args below meth c s₁ B hml hv
  obtain ⟨rfl, hsz, ⟨hP, hK⟩⟩ := hv
  have F : CallFix p m c cX10_beside 5 s ([.ref (ad 0), .int a1, .int a2, .int a3] : List Value).toArray lw_U RX10 := ⟨B.exec, B.bytes, hml, findClass_of_methodNamed B.named, fun w h => atoms_spec (ws := wU_X10_beside) B.pre w (List.mem_cons_of_mem _ h)⟩
  have hx := F.1
  have hb := F.2.1
  have hown := F.2.2.2.1
  have hts := F.2.2.2.2
  have hr := B.returns
  have hlocks := B.notSynchronized
  subst hsz
  have hDs : ∀ σ, va_D (AW ad 40 s.heap.size) ((wdM ad cI) σ) := fun σ => wdM_D hap σ
  have hS : va_S (AW ad 40 s.heap.size) s.heap s.heap [] := va_S.rf
  have lab_156 : ∀ (n : Nat), ∀ (σ : St) (x4 : Int32) (H : Heap) (locs : List Loc) (ls : Array Slot), w_X10_beside_156 K n σ x4 → va_P D vwCl ((wdM ad cI) σ) H → va_S (AW ad 40 s.heap.size) s.heap H locs → lv_has ls 5 [(0, .ref (ad 0)), (4, .int x4)] → W p l e (headSpec wU_X10_beside rm_X10_beside).room s m ([.ref (ad 0), .int a1, .int a2, .int a3] : List Value).toArray below meth c H locs 0 0 (MQ below (va_Qi K (inW D (wdM ad cI) [(cI, .int)]) (AW ad 40 s.heap.size)) ([.ref (ad 0), .int a1, .int a2, .int a3] : List Value).toArray s 0 0 (AW ad 40 s.heap.size)) (F0 m 156 ls []) := by
    intro n
    induction n with
    | zero =>
      intro σ x4 H locs ls hw
      exact hw.elim
    | succ n hL156 =>
      intro σ x4 H locs ls hw hP hS hl
      have hw : b_X10_beside_156 (w_X10_beside_156 K n) K σ x4 := hw
      unfold b_X10_beside_156 at hw
      generalize w_X10_beside_156 K n = L156 at hw hL156
      refine lv_iload hx hb dX10_beside_156 (lv_at hl 1 rfl) ?_
      refine lv_aload_n hx hb dX10_beside_158 rfl (lv_at hl 0 rfl) ?_
      refine gM_X10_acts F hK hP (hts _ mw_434) dX10_beside_159 ?_
      refine lv_icmp_ge (tgt := 200) hx hb dX10_beside_162 (by decide) (fun c_4 => ?_) (fun c_4 => ?_)
      · have hw := hw.1 c_4
        refine lv_iconst (v := (-1)) hx hb dX10_beside_200 (by decide) ?_
        exact rtI F hr hlocks hK hw hP hS dX10_beside_201
      · have hw := hw.2 c_4
        refine lv_aload_n hx hb dX10_beside_165 rfl (lv_at hl 0 rfl) ?_
        refine gM_X10_was F hK hP (hts _ mw_605) dX10_beside_166 ?_
        refine lv_bipush (v := 36) hx hb dX10_beside_169 (by decide) ?_
        refine lv_iload hx hb dX10_beside_171 (lv_at hl 1 rfl) ?_
        refine lv_iadd hx hb dX10_beside_173 ?_
        obtain ⟨i_3, hw⟩ := hw
        refine lM_X10_was F hK hP i_3 dX10_beside_174 ?_
        refine lv_aload_n hx hb dX10_beside_175 rfl (lv_at hl 0 rfl) ?_
        refine gM_X10_is F hK hP (hts _ mw_606) dX10_beside_176 ?_
        refine lv_bipush (v := 36) hx hb dX10_beside_179 (by decide) ?_
        refine lv_iload hx hb dX10_beside_181 (lv_at hl 1 rfl) ?_
        refine lv_iadd hx hb dX10_beside_183 ?_
        obtain ⟨i_2, hw⟩ := hw
        refine lM_X10_is F hK hP i_2 dX10_beside_184 ?_
        refine lv_icmp_eq (tgt := 194) hx hb dX10_beside_185 (by decide) (fun c_1 => ?_) (fun c_1 => ?_)
        · have hw := hw.1 c_1
          refine lv_iinc (v := (x4 + 1)) (lv' := [(4, .int (x4 + 1)), (0, .ref (ad 0))]) hx hb dX10_beside_194 hl (k := 1) rfl rfl (by decide) rfl (fun ls hl => ?_)
          refine lv_goto (tgt := 156) hx hb dX10_beside_197 (by decide) ?_
          exact hL156 _ _ _ _ _ hw hP hS (lv_sub hl [1, 0] rfl)
        · have hw := hw.2 c_1
          refine lv_bipush (v := 20) hx hb dX10_beside_188 (by decide) ?_
          refine lv_iload hx hb dX10_beside_190 (lv_at hl 1 rfl) ?_
          refine lv_iadd hx hb dX10_beside_192 ?_
          exact rtI F hr hlocks hK hw hP hS dX10_beside_193
  have lab_112 : ∀ (n : Nat), ∀ (σ : St) (x4 : Int32) (H : Heap) (locs : List Loc) (ls : Array Slot), w_X10_beside_112 K n σ x4 → va_P D vwCl ((wdM ad cI) σ) H → va_S (AW ad 40 s.heap.size) s.heap H locs → lv_has ls 5 [(0, .ref (ad 0)), (4, .int x4)] → W p l e (headSpec wU_X10_beside rm_X10_beside).room s m ([.ref (ad 0), .int a1, .int a2, .int a3] : List Value).toArray below meth c H locs 0 0 (MQ below (va_Qi K (inW D (wdM ad cI) [(cI, .int)]) (AW ad 40 s.heap.size)) ([.ref (ad 0), .int a1, .int a2, .int a3] : List Value).toArray s 0 0 (AW ad 40 s.heap.size)) (F0 m 112 ls []) := by
    intro n
    induction n with
    | zero =>
      intro σ x4 H locs ls hw
      exact hw.elim
    | succ n hL112 =>
      intro σ x4 H locs ls hw hP hS hl
      have hw : b_X10_beside_112 (w_X10_beside_112 K n) K σ x4 := hw
      unfold b_X10_beside_112 at hw
      generalize w_X10_beside_112 K n = L112 at hw hL112
      refine lv_iload hx hb dX10_beside_112 (lv_at hl 1 rfl) ?_
      refine lv_bipush (v := 36) hx hb dX10_beside_114 (by decide) ?_
      refine lv_icmp_ge (tgt := 153) hx hb dX10_beside_116 (by decide) (fun c_9 => ?_) (fun c_9 => ?_)
      · have hw := hw.1 c_9
        refine lv_iconst (v := 0) hx hb dX10_beside_153 (by decide) ?_
        refine lv_istore (lv' := [(4, .int 0), (0, .ref (ad 0))]) hx hb dX10_beside_154 hl (by decide) rfl (fun ls hl => ?_)
        obtain ⟨n_5, hw⟩ := hw
        exact lab_156 n_5 _ _ _ _ _ hw hP hS (lv_sub hl [1, 0] rfl)
      · have hw := hw.2 c_9
        refine lv_aload_n hx hb dX10_beside_119 rfl (lv_at hl 0 rfl) ?_
        refine gM_X10_was F hK hP (hts _ mw_605) dX10_beside_120 ?_
        refine lv_iload hx hb dX10_beside_123 (lv_at hl 1 rfl) ?_
        obtain ⟨i_8, hw⟩ := hw
        refine lM_X10_was F hK hP i_8 dX10_beside_125 ?_
        refine lv_aload_n hx hb dX10_beside_126 rfl (lv_at hl 0 rfl) ?_
        refine gM_X10_is F hK hP (hts _ mw_606) dX10_beside_127 ?_
        refine lv_iload hx hb dX10_beside_130 (lv_at hl 1 rfl) ?_
        obtain ⟨i_7, hw⟩ := hw
        refine lM_X10_is F hK hP i_7 dX10_beside_132 ?_
        refine lv_icmp_eq (tgt := 147) hx hb dX10_beside_133 (by decide) (fun c_6 => ?_) (fun c_6 => ?_)
        · have hw := hw.1 c_6
          refine lv_iinc (v := (x4 + 1)) (lv' := [(4, .int (x4 + 1)), (0, .ref (ad 0))]) hx hb dX10_beside_147 hl (k := 1) rfl rfl (by decide) rfl (fun ls hl => ?_)
          refine lv_goto (tgt := 112) hx hb dX10_beside_150 (by decide) ?_
          exact hL112 _ _ _ _ _ hw hP hS (lv_sub hl [1, 0] rfl)
        · have hw := hw.2 c_6
          refine lv_bipush (v := 10) hx hb dX10_beside_136 (by decide) ?_
          refine lv_iload hx hb dX10_beside_138 (lv_at hl 1 rfl) ?_
          refine lv_bipush (v := 6) hx hb dX10_beside_140 (by decide) ?_
          refine lv_isub hx hb dX10_beside_142 ?_
          refine lv_iconst (v := 3) hx hb dX10_beside_143 (by decide) ?_
          refine lv_idiv hx hb dX10_beside_144 (by decide) ?_
          refine lv_iadd hx hb dX10_beside_145 ?_
          exact rtI F hr hlocks hK hw hP hS dX10_beside_146
  have lab_75 : ∀ (n : Nat), ∀ (σ : St) (x4 : Int32) (H : Heap) (locs : List Loc) (ls : Array Slot), w_X10_beside_75 K n σ x4 → va_P D vwCl ((wdM ad cI) σ) H → va_S (AW ad 40 s.heap.size) s.heap H locs → lv_has ls 5 [(0, .ref (ad 0)), (4, .int x4)] → W p l e (headSpec wU_X10_beside rm_X10_beside).room s m ([.ref (ad 0), .int a1, .int a2, .int a3] : List Value).toArray below meth c H locs 0 0 (MQ below (va_Qi K (inW D (wdM ad cI) [(cI, .int)]) (AW ad 40 s.heap.size)) ([.ref (ad 0), .int a1, .int a2, .int a3] : List Value).toArray s 0 0 (AW ad 40 s.heap.size)) (F0 m 75 ls []) := by
    intro n
    induction n with
    | zero =>
      intro σ x4 H locs ls hw
      exact hw.elim
    | succ n hL75 =>
      intro σ x4 H locs ls hw hP hS hl
      have hw : b_X10_beside_75 (w_X10_beside_75 K n) K σ x4 := hw
      unfold b_X10_beside_75 at hw
      generalize w_X10_beside_75 K n = L75 at hw hL75
      refine lv_iload hx hb dX10_beside_75 (lv_at hl 1 rfl) ?_
      refine lv_bipush (v := 6) hx hb dX10_beside_77 (by decide) ?_
      refine lv_icmp_ge (tgt := 108) hx hb dX10_beside_79 (by decide) (fun c_14 => ?_) (fun c_14 => ?_)
      · have hw := hw.1 c_14
        refine lv_bipush (v := 6) hx hb dX10_beside_108 (by decide) ?_
        refine lv_istore (lv' := [(4, .int 6), (0, .ref (ad 0))]) hx hb dX10_beside_110 hl (by decide) rfl (fun ls hl => ?_)
        obtain ⟨n_10, hw⟩ := hw
        exact lab_112 n_10 _ _ _ _ _ hw hP hS (lv_sub hl [1, 0] rfl)
      · have hw := hw.2 c_14
        refine lv_aload_n hx hb dX10_beside_82 rfl (lv_at hl 0 rfl) ?_
        refine gM_X10_was F hK hP (hts _ mw_605) dX10_beside_83 ?_
        refine lv_iload hx hb dX10_beside_86 (lv_at hl 1 rfl) ?_
        obtain ⟨i_13, hw⟩ := hw
        refine lM_X10_was F hK hP i_13 dX10_beside_88 ?_
        refine lv_aload_n hx hb dX10_beside_89 rfl (lv_at hl 0 rfl) ?_
        refine gM_X10_is F hK hP (hts _ mw_606) dX10_beside_90 ?_
        refine lv_iload hx hb dX10_beside_93 (lv_at hl 1 rfl) ?_
        obtain ⟨i_12, hw⟩ := hw
        refine lM_X10_is F hK hP i_12 dX10_beside_95 ?_
        refine lv_icmp_eq (tgt := 102) hx hb dX10_beside_96 (by decide) (fun c_11 => ?_) (fun c_11 => ?_)
        · have hw := hw.1 c_11
          refine lv_iinc (v := (x4 + 1)) (lv' := [(4, .int (x4 + 1)), (0, .ref (ad 0))]) hx hb dX10_beside_102 hl (k := 1) rfl rfl (by decide) rfl (fun ls hl => ?_)
          refine lv_goto (tgt := 75) hx hb dX10_beside_105 (by decide) ?_
          exact hL75 _ _ _ _ _ hw hP hS (lv_sub hl [1, 0] rfl)
        · have hw := hw.2 c_11
          refine lv_iload hx hb dX10_beside_99 (lv_at hl 1 rfl) ?_
          exact rtI F hr hlocks hK hw hP hS dX10_beside_101
  have hl := lv_entry ([.ref (ad 0), .int a1, .int a2, .int a3]) (n := 5) (Nat.le_of_ble_eq_true rfl)
  rw [lg_entry_eq]
  generalize (lg_sl ([.ref (ad 0), .int a1, .int a2, .int a3]) ++ List.replicate (5 - (lg_sl ([.ref (ad 0), .int a1, .int a2, .int a3])).length) Slot.unset).toArray = ls at hl ⊢
  have hl : lv_has ls 5 [(0, .ref (ad 0)), (1, .int a1), (2, .int a2), (3, .int a3)] := hl
  have key : ∀ (H : Heap) (locs : List Loc), va_P D vwCl ((wdM ad cI) σ) H → va_S (AW ad 40 s.heap.size) s.heap H locs → W p l e (headSpec wU_X10_beside rm_X10_beside).room s m ([.ref (ad 0), .int a1, .int a2, .int a3] : List Value).toArray below meth c H locs 0 0 (MQ below (va_Qi K (inW D (wdM ad cI) [(cI, .int)]) (AW ad 40 s.heap.size)) ([.ref (ad 0), .int a1, .int a2, .int a3] : List Value).toArray s 0 0 (AW ad 40 s.heap.size)) (F0 m 0 ls []) := by
    intro H locs hP hS
    unfold w_X10_beside at hw
    refine lv_iload_n hx hb dX10_beside_0 rfl (lv_at hl 3 rfl) ?_
    refine lv_iconst (v := 0) hx hb dX10_beside_1 (by decide) ?_
    refine lv_sipush (v := 4000) hx hb dX10_beside_2 (by decide) ?_
    refine csI (As := [.int a3, .int 0, .int 4000]) (rest := []) F hK hP hS (c_X10_in l D ad cI hap H.size _ _ _ _ _ hw) (va_cwS 3 hts gU_X10_131 rfl rfl rfl (by decide +kernel) ⟨Nat.le_of_ble_eq_true rfl, Nat.le_of_ble_eq_true rfl⟩) rfl hl.1 rfl (Nat.le_of_ble_eq_true rfl) dX10_beside_5 ⟨Nat.zero_le _, Nat.zero_le _⟩ (fun r_16 u_15 H locs hw hP hS => ?_)
    obtain ⟨zr_16, hw⟩ := hw
    refine lv_if_ne (tgt := 14) hx hb dX10_beside_8 (by decide) (fun c_28 => ?_) (fun c_28 => ?_)
    · have hw := hw.1 c_28
      refine lv_aload_n hx hb dX10_beside_14 rfl (lv_at hl 0 rfl) ?_
      refine lv_iload_n hx hb dX10_beside_15 rfl (lv_at hl 1 rfl) ?_
      refine lv_iload_n hx hb dX10_beside_16 rfl (lv_at hl 3 rfl) ?_
      refine cvI (As := [.int a1, .int a3]) (rest := []) F hK hP hS (c_X10_run l D ad cI hap H.size _ _ _ _ hw) (cwV 2 hts gU_X10_278 rfl rfl rfl (by decide +kernel) ⟨Nat.le_of_ble_eq_true rfl, Nat.le_of_ble_eq_true rfl⟩) (va_recv hK hP (ci := 7) (q0 := 0) rfl rfl) rfl hl.1 rfl (Nat.le_of_ble_eq_true rfl) dX10_beside_17 ⟨Nat.zero_le _, Nat.zero_le _⟩ (fun r_18 u_17 H locs hw hP hS => ?_)
      refine lv_pop hx hb dX10_beside_20 rfl ?_
      refine lv_aload_n hx hb dX10_beside_21 rfl (lv_at hl 0 rfl) ?_
      refine lv_aload_n hx hb dX10_beside_22 rfl (lv_at hl 0 rfl) ?_
      refine gM_X10_was F hK hP (hts _ mw_605) dX10_beside_23 ?_
      refine cvV (As := [.ref (ad 38)]) (rest := []) F hK hP hS (c_X10_notes_was l D ad cI hap H.size _ _ hw) (cwV 1 hts gU_X10_281 rfl rfl rfl (by decide +kernel) ⟨Nat.le_of_ble_eq_true rfl, Nat.le_of_ble_eq_true rfl⟩) (va_recv hK hP (ci := 7) (q0 := 0) rfl rfl) rfl hl.1 rfl (Nat.le_of_ble_eq_true rfl) dX10_beside_26 ⟨Nat.zero_le _, Nat.zero_le _⟩ (fun u_19 H locs hw hP hS => ?_)
      refine lv_aload_n hx hb dX10_beside_29 rfl (lv_at hl 0 rfl) ?_
      refine lv_iload_n hx hb dX10_beside_30 rfl (lv_at hl 2 rfl) ?_
      refine lv_iload_n hx hb dX10_beside_31 rfl (lv_at hl 3 rfl) ?_
      refine cvI (As := [.int a2, .int a3]) (rest := []) F hK hP hS (c_X10_run l D ad cI hap H.size _ _ _ _ hw) (cwV 2 hts gU_X10_278 rfl rfl rfl (by decide +kernel) ⟨Nat.le_of_ble_eq_true rfl, Nat.le_of_ble_eq_true rfl⟩) (va_recv hK hP (ci := 7) (q0 := 0) rfl rfl) rfl hl.1 rfl (Nat.le_of_ble_eq_true rfl) dX10_beside_32 ⟨Nat.zero_le _, Nat.zero_le _⟩ (fun r_22 u_21 H locs hw hP hS => ?_)
      refine lv_pop hx hb dX10_beside_35 rfl ?_
      refine lv_aload_n hx hb dX10_beside_36 rfl (lv_at hl 0 rfl) ?_
      refine lv_aload_n hx hb dX10_beside_37 rfl (lv_at hl 0 rfl) ?_
      refine gM_X10_is F hK hP (hts _ mw_606) dX10_beside_38 ?_
      refine cvV (As := [.ref (ad 39)]) (rest := []) F hK hP hS (c_X10_notes_is l D ad cI hap H.size _ _ hw) (cwV 1 hts gU_X10_281 rfl rfl rfl (by decide +kernel) ⟨Nat.le_of_ble_eq_true rfl, Nat.le_of_ble_eq_true rfl⟩) (va_recv hK hP (ci := 7) (q0 := 0) rfl rfl) rfl hl.1 rfl (Nat.le_of_ble_eq_true rfl) dX10_beside_41 ⟨Nat.zero_le _, Nat.zero_le _⟩ (fun u_23 H locs hw hP hS => ?_)
      refine lv_aload_n hx hb dX10_beside_44 rfl (lv_at hl 0 rfl) ?_
      refine gM_X10_was F hK hP (hts _ mw_605) dX10_beside_45 ?_
      refine lv_iconst (v := 0) hx hb dX10_beside_48 (by decide) ?_
      refine lM_X10_was F hK hP (by unfold vp_in; decide) dX10_beside_49 ?_
      refine lv_aload_n hx hb dX10_beside_50 rfl (lv_at hl 0 rfl) ?_
      refine gM_X10_is F hK hP (hts _ mw_606) dX10_beside_51 ?_
      refine lv_iconst (v := 0) hx hb dX10_beside_54 (by decide) ?_
      refine lM_X10_is F hK hP (by unfold vp_in; decide) dX10_beside_55 ?_
      refine lv_icmp_eq (tgt := 61) hx hb dX10_beside_56 (by decide) (fun c_27 => ?_) (fun c_27 => ?_)
      · have hw := hw.1 c_27
        refine lv_aload_n hx hb dX10_beside_61 rfl (lv_at hl 0 rfl) ?_
        refine gM_X10_is F hK hP (hts _ mw_606) dX10_beside_62 ?_
        refine lv_iconst (v := 0) hx hb dX10_beside_65 (by decide) ?_
        refine lM_X10_is F hK hP (by unfold vp_in; decide) dX10_beside_66 ?_
        refine lv_if_eq (tgt := 72) hx hb dX10_beside_67 (by decide) (fun c_26 => ?_) (fun c_26 => ?_)
        · have hw := hw.1 c_26
          refine lv_iconst (v := 1) hx hb dX10_beside_72 (by decide) ?_
          refine lv_istore (lv' := [(4, .int 1), (0, .ref (ad 0)), (1, .int a1), (2, .int a2), (3, .int a3)]) hx hb dX10_beside_73 hl (by decide) rfl (fun ls hl => ?_)
          obtain ⟨n_25, hw⟩ := hw
          exact lab_75 n_25 _ _ _ _ _ hw hP hS (lv_sub hl [1, 0] rfl)
        · have hw := hw.2 c_26
          refine lv_iconst (v := (-1)) hx hb dX10_beside_70 (by decide) ?_
          exact rtI F hr hlocks hK hw hP hS dX10_beside_71
      · have hw := hw.2 c_27
        refine lv_iconst (v := 0) hx hb dX10_beside_59 (by decide) ?_
        exact rtI F hr hlocks hK hw hP hS dX10_beside_60
    · have hw := hw.2 c_28
      refine lv_bipush (v := (-2)) hx hb dX10_beside_11 (by decide) ?_
      exact rtI F hr hlocks hK hw hP hS dX10_beside_13
  exact key s.heap [] hP hS
