abbrev rm_X4_goOff : Room := { frames := 5, cells := 0, slots := 0, locals := 127 }
set_option maxHeartbeats 4000000 in
set_option maxRecDepth 100000 in
theorem c_X4_goOff (l : Launch) (D : va_G) (ad : Nat → Nat) (cI cJ : ClassId) (hap : apart ad 42) (sz : Nat) (σ : St) (a1 : Int32) (K : St → Prop) (hw : w_X4_goOff σ a1 K) : Met l yX4_goOff wsX4_goOff rm_X4_goOff (va_Pc [.ref (ad 2), .int a1] (fun U => U.heap.size = sz ∧ inW D (wdC ad cI cJ) [(cI, .int), (cJ, .long)] σ U)) (va_Qv K (inW D (wdC ad cI cJ) [(cI, .int), (cJ, .long)]) (AW ad 42 sz)) 0 0 (AW ad 42 sz) := by
  refine Met.ofW (cc := cX4_goOff) (maxL := 6) (ret := none) (by decide) rfl ?_
  intro p e s m args below meth c s₁ B hml hv
  obtain ⟨rfl, hsz, ⟨hP, hK⟩⟩ := hv
  have F : CallFix p m c cX4_goOff 6 s ([.ref (ad 2), .int a1] : List Value).toArray wsX4_goOff RX4 := ⟨B.exec, B.bytes, hml, findClass_of_methodNamed B.named, atoms_spec (ws := wsX4_goOff) B.pre⟩
  have hx := F.1
  have hb := F.2.1
  have hown := F.2.2.2.1
  have hts := F.2.2.2.2
  have hr := B.returns
  have hlocks := B.notSynchronized
  subst hsz
  have hDs : ∀ σ, va_D (AW ad 42 s.heap.size) ((wdC ad cI cJ) σ) := fun σ => wdC_D hap σ
  have hS : va_S (AW ad 42 s.heap.size) s.heap s.heap [] := va_S.rf
  have iw_X1 : ∀ w ∈ u_ws RX1 TX1 8, w ∈ wsX4_goOff := by decide +kernel
  have iw_X2 : ∀ w ∈ u_ws RX2 TX2 15, w ∈ wsX4_goOff := by decide +kernel
  have iw_X4 : ∀ w ∈ u_ws RX4 TX4 14, w ∈ wsX4_goOff := by decide +kernel
  have f_f170 := hts (.fieldLink RX4 170 "TokenFloor$Floor" "actOf" "[I") (by decide +kernel)
  have f_f172 := hts (.fieldLink RX4 172 "TokenFloor$Floor" "colourOf" "[I") (by decide +kernel)
  have f_f179 := hts (.fieldLink RX4 179 "TokenFloor$Graph" "kind" "[I") (by decide +kernel)
  have f_f18 := hts (.fieldLink RX4 18 "TokenFloor$Machine" "firings" "[I") (by decide +kernel)
  have f_f186 := hts (.fieldLink RX4 186 "TokenFloor$Graph" "number" "[I") (by decide +kernel)
  have f_f29 := hts (.fieldLink RX4 29 "TokenFloor$Machine" "colours" "LTokenFloor$Colours;") (by decide +kernel)
  have f_f36 := hts (.fieldLink RX4 36 "TokenFloor$Machine" "floor" "LTokenFloor$Floor;") (by decide +kernel)
  have f_f47 := hts (.fieldLink RX4 47 "TokenFloor$Machine" "graph" "LTokenFloor$Graph;") (by decide +kernel)
  have f_f71 := hts (.fieldLink RX4 71 "TokenFloor$Machine" "steps" "I") (by decide +kernel)
  have hl := lv_entry ([.ref (ad 2), .int a1]) (n := 6) (Nat.le_of_ble_eq_true rfl)
  rw [lg_entry_eq]
  generalize (lg_sl ([.ref (ad 2), .int a1]) ++ List.replicate (6 - (lg_sl ([.ref (ad 2), .int a1])).length) Slot.unset).toArray = ls at hl ⊢
  have hl : lv_has ls 6 [(0, .ref (ad 2)), (1, .int a1)] := hl
  have key : ∀ (H : Heap), va_P D vwCl ((wdC ad cI cJ) σ) H → va_S (AW ad 42 s.heap.size) s.heap H [] → W p l e (headSpec wsX4_goOff rm_X4_goOff).room s m ([.ref (ad 2), .int a1] : List Value).toArray below meth c H [] 0 0 (MQ below (va_Qv K (inW D (wdC ad cI cJ) [(cI, .int), (cJ, .long)]) (AW ad 42 s.heap.size)) ([.ref (ad 2), .int a1] : List Value).toArray s 0 0 (AW ad 42 s.heap.size)) (F0 m 0 ls []) := by
    intro H hP hS
    unfold w_X4_goOff at hw
    refine lv_iload_n hx hb dX4_goOff_0 rfl (lv_at hl 1 rfl) ?_
    refine lv_iconst (v := (-1)) hx hb dX4_goOff_1 (by decide) ?_
    refine lv_icmp_ne (tgt := 6) hx hb dX4_goOff_2 (by decide) (fun c_64 => ?_) (fun c_64 => ?_)
    · have hw := hw.1 c_64
      refine lv_aload_n hx hb dX4_goOff_6 rfl (lv_at hl 0 rfl) ?_
      refine gC_X4_floor F hK iw_X4 hP f_f36 dX4_goOff_7 ?_
      refine gC_X1_actOf F hK iw_X1 hP f_f170 dX4_goOff_10 ?_
      refine lv_iload_n hx hb dX4_goOff_13 rfl (lv_at hl 1 rfl) ?_
      obtain ⟨i_63, hw⟩ := hw
      refine lC_X1_actOf F hK hP i_63 dX4_goOff_14 ?_
      refine lv_istore_n (lv' := [(2, .int (gA σ 24 (a1).toNatClampNeg)), (0, .ref (ad 2)), (1, .int a1)]) hx hb dX4_goOff_15 rfl hl (by decide) rfl (fun ls hl => ?_)
      refine lv_aload_n hx hb dX4_goOff_16 rfl (lv_at hl 1 rfl) ?_
      refine gC_X4_floor F hK iw_X4 hP f_f36 dX4_goOff_17 ?_
      refine gC_X1_colourOf F hK iw_X1 hP f_f172 dX4_goOff_20 ?_
      refine lv_iload_n hx hb dX4_goOff_23 rfl (lv_at hl 2 rfl) ?_
      obtain ⟨i_62, hw⟩ := hw
      refine lC_X1_colourOf F hK hP i_62 dX4_goOff_24 ?_
      refine lv_istore_n (lv' := [(3, .int (gA σ 25 (a1).toNatClampNeg)), (2, .int (gA σ 24 (a1).toNatClampNeg)), (0, .ref (ad 2)), (1, .int a1)]) hx hb dX4_goOff_25 rfl hl (by decide) rfl (fun ls hl => ?_)
      refine lv_aload_n hx hb dX4_goOff_26 rfl (lv_at hl 2 rfl) ?_
      refine gC_X4_floor F hK iw_X4 hP f_f36 dX4_goOff_27 ?_
      refine lv_iload_n hx hb dX4_goOff_30 rfl (lv_at hl 3 rfl) ?_
      refine lv_iconst (v := 0) hx hb dX4_goOff_31 (by decide) ?_
      refine cvL (As := [.int a1, .int 0]) (rest := []) F hK hP hS (c_X1_cameTo l D ad cI cJ hap H.size _ _ _ _ hw) (cwV 2 hts gX4_goOff_X1_cameTo rfl rfl rfl (by decide +kernel) ⟨Nat.le_of_ble_eq_true rfl, Nat.le_of_ble_eq_true rfl⟩) (va_recv hK hP (ci := 1) (q0 := 5) rfl rfl) rfl hl.1 rfl (Nat.le_of_ble_eq_true rfl) dX4_goOff_32 ⟨Nat.zero_le _, Nat.zero_le _⟩ (fun r_2 u_1 H locs hw hP hS => ?_)
      refine lv_lstore (lv' := [(4, .long r_2), (3, .int (gA σ 25 (a1).toNatClampNeg)), (2, .int (gA σ 24 (a1).toNatClampNeg)), (0, .ref (ad 2)), (1, .int a1)]) hx hb dX4_goOff_35 hl (by decide) rfl (fun ls hl => ?_)
      refine lv_aload_n hx hb dX4_goOff_37 rfl (lv_at hl 3 rfl) ?_
      refine lv_dup hx hb dX4_goOff_38 rfl ?_
      refine gC_X4_steps F hK iw_X4 hP f_f71 dX4_goOff_39 ?_
      refine W.eq (g2 := F0 m 42 ls [.int (gS u_1 5), .ref (ad 2)]) rfl ?_
      refine lv_iconst (v := 1) hx hb dX4_goOff_42 (by decide) ?_
      refine lv_iadd hx hb dX4_goOff_43 ?_
      refine pC_X4_steps F hK iw_X4 hP hDs hS f_f71 dX4_goOff_44 (fun H locs hP hS => ?_)
      refine lv_aload_n hx hb dX4_goOff_47 rfl (lv_at hl 3 rfl) ?_
      refine gC_X4_firings F hK iw_X4 hP f_f18 dX4_goOff_48 ?_
      refine lv_iload_n hx hb dX4_goOff_51 rfl (lv_at hl 2 rfl) ?_
      refine lv_dup2_11 hx hb dX4_goOff_52 rfl rfl ?_
      obtain ⟨i_61, hw⟩ := hw
      refine lC_X4_firings F hK hP i_61 dX4_goOff_53 ?_
      refine W.eq (g2 := F0 m 54 ls [.int (gA u_1 12 ((gA σ 24 (a1).toNatClampNeg)).toNatClampNeg), .int (gA σ 24 (a1).toNatClampNeg), .ref (ad 21)]) rfl ?_
      refine lv_iconst (v := 1) hx hb dX4_goOff_54 (by decide) ?_
      refine lv_iadd hx hb dX4_goOff_55 ?_
      obtain ⟨i_60, hw⟩ := hw
      refine sC_X4_firings F hK hP hDs hS i_60 dX4_goOff_56 (fun H locs hP hS => ?_)
      refine lv_aload_n hx hb dX4_goOff_57 rfl (lv_at hl 3 rfl) ?_
      refine gC_X4_graph F hK iw_X4 hP f_f47 dX4_goOff_58 ?_
      refine gC_X2_kind F hK iw_X2 hP f_f179 dX4_goOff_61 ?_
      refine lv_iload_n hx hb dX4_goOff_64 rfl (lv_at hl 2 rfl) ?_
      obtain ⟨i_59, hw⟩ := hw
      refine lC_X2_kind F hK hP i_59 dX4_goOff_65 ?_
      refine W.eq (g2 := F0 m 66 ls [.int (gA u_1 0 ((gA σ 24 (a1).toNatClampNeg)).toNatClampNeg)]) rfl ?_
      by_cases k_3 : (gA u_1 0 ((gA σ 24 (a1).toNatClampNeg)).toNatClampNeg) = 10
      · have hw := hw.1 k_3
        refine sw_in 10 (tgt := 128) F dX4_goOff_66 k_3 (by decide) (by decide) rfl (by decide) ?_
        refine lv_aload_n hx hb dX4_goOff_128 rfl (lv_at hl 3 rfl) ?_
        refine lv_iload_n hx hb dX4_goOff_129 rfl (lv_at hl 2 rfl) ?_
        refine lv_iload_n hx hb dX4_goOff_130 rfl (lv_at hl 1 rfl) ?_
        refine lv_lload hx hb dX4_goOff_131 (lv_at hl 0 rfl) ?_
        refine lv_aload_n hx hb dX4_goOff_133 rfl (lv_at hl 3 rfl) ?_
        refine gC_X4_floor F hK iw_X4 hP f_f36 dX4_goOff_134 ?_
        refine lv_iload_n hx hb dX4_goOff_137 rfl (lv_at hl 4 rfl) ?_
        refine lv_iconst (v := 1) hx hb dX4_goOff_138 (by decide) ?_
        refine cvL (As := [.int a1, .int 1]) (rest := [.long r_2, .int (gA σ 25 (a1).toNatClampNeg), .int (gA σ 24 (a1).toNatClampNeg), .ref (ad 2)]) F hK hP hS (c_X1_cameTo l D ad cI cJ hap H.size _ _ _ _ hw) (cwV 2 hts gX4_goOff_X1_cameTo rfl rfl rfl (by decide +kernel) ⟨Nat.le_of_ble_eq_true rfl, Nat.le_of_ble_eq_true rfl⟩) (va_recv hK hP (ci := 1) (q0 := 5) rfl rfl) rfl hl.1 rfl (Nat.le_of_ble_eq_true rfl) dX4_goOff_139 ⟨Nat.zero_le _, Nat.zero_le _⟩ (fun r_5 u_4 H locs hw hP hS => ?_)
        refine cvV (As := [.int (gA σ 24 (a1).toNatClampNeg), .int (gA σ 25 (a1).toNatClampNeg), .long r_2, .long r_5]) (rest := []) F hK hP hS (c_X4_goSwitch l D ad cI cJ hap H.size _ _ _ _ _ _ hw) (cwV 4 hts gX4_goOff_X4_goSwitch rfl rfl rfl (by decide +kernel) ⟨Nat.le_of_ble_eq_true rfl, Nat.le_of_ble_eq_true rfl⟩) (va_recv hK hP (ci := 3) (q0 := 2) rfl rfl) rfl hl.1 rfl (Nat.le_of_ble_eq_true rfl) dX4_goOff_142 ⟨Nat.zero_le _, Nat.zero_le _⟩ (fun u_6 H locs hw hP hS => ?_)
        refine lv_goto (tgt := 263) hx hb dX4_goOff_145 (by decide) ?_
        exact rtV F hr hlocks hK hw hP hS dX4_goOff_263
      · have hw := hw.2 k_3
        by_cases k_8 : (gA u_1 0 ((gA σ 24 (a1).toNatClampNeg)).toNatClampNeg) = 11
        · have hw := hw.1 k_8
          refine sw_in 11 (tgt := 148) F dX4_goOff_66 k_8 (by decide) (by decide) rfl (by decide) ?_
          refine lv_aload_n hx hb dX4_goOff_148 rfl (lv_at hl 3 rfl) ?_
          refine lv_iload_n hx hb dX4_goOff_149 rfl (lv_at hl 2 rfl) ?_
          refine lv_aload_n hx hb dX4_goOff_150 rfl (lv_at hl 3 rfl) ?_
          refine gC_X4_colours F hK iw_X4 hP f_f29 dX4_goOff_151 ?_
          refine lv_iload_n hx hb dX4_goOff_154 rfl (lv_at hl 1 rfl) ?_
          refine lv_aload_n hx hb dX4_goOff_155 rfl (lv_at hl 3 rfl) ?_
          refine gC_X4_graph F hK iw_X4 hP f_f47 dX4_goOff_156 ?_
          refine gC_X2_number F hK iw_X2 hP f_f186 dX4_goOff_159 ?_
          refine lv_iload_n hx hb dX4_goOff_162 rfl (lv_at hl 2 rfl) ?_
          obtain ⟨i_13, hw⟩ := hw
          refine lC_X2_number F hK hP i_13 dX4_goOff_163 ?_
          refine W.eq (g2 := F0 m 164 ls [.int (gA u_1 1 ((gA σ 24 (a1).toNatClampNeg)).toNatClampNeg), .int (gA σ 25 (a1).toNatClampNeg), .ref (ad 4), .int (gA σ 24 (a1).toNatClampNeg), .ref (ad 2)]) rfl ?_
          refine cvI (As := [.int (gA σ 25 (a1).toNatClampNeg), .int (gA u_1 1 ((gA σ 24 (a1).toNatClampNeg)).toNatClampNeg)]) (rest := [.int (gA σ 24 (a1).toNatClampNeg), .ref (ad 2)]) F hK hP hS (c_X0_enter l D ad cI cJ hap H.size _ _ _ _ hw) (cwV 2 hts gX4_goOff_X0_enter rfl rfl rfl (by decide +kernel) ⟨Nat.le_of_ble_eq_true rfl, Nat.le_of_ble_eq_true rfl⟩) (va_recv hK hP (ci := 0) (q0 := 4) rfl rfl) rfl hl.1 rfl (Nat.le_of_ble_eq_true rfl) dX4_goOff_164 ⟨Nat.zero_le _, Nat.zero_le _⟩ (fun r_10 u_9 H locs hw hP hS => ?_)
          refine lv_lload hx hb dX4_goOff_167 (lv_at hl 0 rfl) ?_
          refine cvV (As := [.int (gA σ 24 (a1).toNatClampNeg), .int r_10, .long r_2]) (rest := []) F hK hP hS (c_X4_giveInside l D ad cI cJ hap H.size _ _ _ _ _ hw) (cwV 3 hts gX4_goOff_X4_giveInside rfl rfl rfl (by decide +kernel) ⟨Nat.le_of_ble_eq_true rfl, Nat.le_of_ble_eq_true rfl⟩) (va_recv hK hP (ci := 3) (q0 := 2) rfl rfl) rfl hl.1 rfl (Nat.le_of_ble_eq_true rfl) dX4_goOff_169 ⟨Nat.zero_le _, Nat.zero_le _⟩ (fun u_11 H locs hw hP hS => ?_)
          refine lv_goto (tgt := 263) hx hb dX4_goOff_172 (by decide) ?_
          exact rtV F hr hlocks hK hw hP hS dX4_goOff_263
        · have hw := hw.2 k_8
          by_cases k_14 : (gA u_1 0 ((gA σ 24 (a1).toNatClampNeg)).toNatClampNeg) = 12 ∨ (gA u_1 0 ((gA σ 24 (a1).toNatClampNeg)).toNatClampNeg) = 13
          · have hw := hw.1 k_14
            have kd : W p l e (headSpec wsX4_goOff rm_X4_goOff).room s m ([.ref (ad 2), .int a1] : List Value).toArray below meth c H locs 0 0 (MQ below (va_Qv K (inW D (wdC ad cI cJ) [(cI, .int), (cJ, .long)]) (AW ad 42 s.heap.size)) ([.ref (ad 2), .int a1] : List Value).toArray s 0 0 (AW ad 42 s.heap.size)) (F0 m 175 ls []) := by
              refine lv_aload_n hx hb dX4_goOff_175 rfl (lv_at hl 3 rfl) ?_
              refine lv_iload_n hx hb dX4_goOff_176 rfl (lv_at hl 2 rfl) ?_
              refine lv_iload_n hx hb dX4_goOff_177 rfl (lv_at hl 1 rfl) ?_
              refine lv_lload hx hb dX4_goOff_178 (lv_at hl 0 rfl) ?_
              refine cvV (As := [.int (gA σ 24 (a1).toNatClampNeg), .int (gA σ 25 (a1).toNatClampNeg), .long r_2]) (rest := []) F hK hP hS (c_X4_goTurn l D ad cI cJ hap H.size _ _ _ _ _ hw) (cwV 3 hts gX4_goOff_X4_goTurn rfl rfl rfl (by decide +kernel) ⟨Nat.le_of_ble_eq_true rfl, Nat.le_of_ble_eq_true rfl⟩) (va_recv hK hP (ci := 3) (q0 := 2) rfl rfl) rfl hl.1 rfl (Nat.le_of_ble_eq_true rfl) dX4_goOff_180 ⟨Nat.zero_le _, Nat.zero_le _⟩ (fun u_15 H locs hw hP hS => ?_)
              refine lv_goto (tgt := 263) hx hb dX4_goOff_183 (by decide) ?_
              exact rtV F hr hlocks hK hw hP hS dX4_goOff_263
            rcases k_14 with k_56 | k_56
            · exact sw_in 12 (tgt := 175) F dX4_goOff_66 k_56 (by decide) (by decide) rfl (by decide) kd
            · exact sw_in 13 (tgt := 175) F dX4_goOff_66 k_56 (by decide) (by decide) rfl (by decide) kd
          · have hw := hw.2 k_14
            by_cases k_17 : (gA u_1 0 ((gA σ 24 (a1).toNatClampNeg)).toNatClampNeg) = 14
            · have hw := hw.1 k_17
              refine sw_in 14 (tgt := 186) F dX4_goOff_66 k_17 (by decide) (by decide) rfl (by decide) ?_
              refine lv_aload_n hx hb dX4_goOff_186 rfl (lv_at hl 3 rfl) ?_
              refine lv_iload_n hx hb dX4_goOff_187 rfl (lv_at hl 4 rfl) ?_
              refine lv_iload_n hx hb dX4_goOff_188 rfl (lv_at hl 2 rfl) ?_
              refine lv_iload_n hx hb dX4_goOff_189 rfl (lv_at hl 1 rfl) ?_
              refine cvV (As := [.int a1, .int (gA σ 24 (a1).toNatClampNeg), .int (gA σ 25 (a1).toNatClampNeg)]) (rest := []) F hK hP hS (c_X4_goCall l D ad cI cJ hap H.size _ _ _ _ _ hw) (cwV 3 hts gX4_goOff_X4_goCall rfl rfl rfl (by decide +kernel) ⟨Nat.le_of_ble_eq_true rfl, Nat.le_of_ble_eq_true rfl⟩) (va_recv hK hP (ci := 3) (q0 := 2) rfl rfl) rfl hl.1 rfl (Nat.le_of_ble_eq_true rfl) dX4_goOff_190 ⟨Nat.zero_le _, Nat.zero_le _⟩ (fun u_18 H locs hw hP hS => ?_)
              refine lv_goto (tgt := 263) hx hb dX4_goOff_193 (by decide) ?_
              exact rtV F hr hlocks hK hw hP hS dX4_goOff_263
            · have hw := hw.2 k_17
              by_cases k_20 : (gA u_1 0 ((gA σ 24 (a1).toNatClampNeg)).toNatClampNeg) = 16
              · have hw := hw.1 k_20
                refine sw_in 16 (tgt := 196) F dX4_goOff_66 k_20 (by decide) (by decide) rfl (by decide) ?_
                refine lv_aload_n hx hb dX4_goOff_196 rfl (lv_at hl 3 rfl) ?_
                refine lv_iload_n hx hb dX4_goOff_197 rfl (lv_at hl 1 rfl) ?_
                refine lv_lload hx hb dX4_goOff_198 (lv_at hl 0 rfl) ?_
                refine cvV (As := [.int (gA σ 25 (a1).toNatClampNeg), .long r_2]) (rest := []) F hK hP hS (c_X4_goReturn l D ad cI cJ hap H.size _ _ _ _ hw) (cwV 2 hts gX4_goOff_X4_goReturn rfl rfl rfl (by decide +kernel) ⟨Nat.le_of_ble_eq_true rfl, Nat.le_of_ble_eq_true rfl⟩) (va_recv hK hP (ci := 3) (q0 := 2) rfl rfl) rfl hl.1 rfl (Nat.le_of_ble_eq_true rfl) dX4_goOff_200 ⟨Nat.zero_le _, Nat.zero_le _⟩ (fun u_21 H locs hw hP hS => ?_)
                refine lv_goto (tgt := 263) hx hb dX4_goOff_203 (by decide) ?_
                exact rtV F hr hlocks hK hw hP hS dX4_goOff_263
              · have hw := hw.2 k_20
                by_cases k_23 : (gA u_1 0 ((gA σ 24 (a1).toNatClampNeg)).toNatClampNeg) = 17
                · have hw := hw.1 k_23
                  refine sw_in 17 (tgt := 206) F dX4_goOff_66 k_23 (by decide) (by decide) rfl (by decide) ?_
                  refine lv_aload_n hx hb dX4_goOff_206 rfl (lv_at hl 3 rfl) ?_
                  refine lv_iload_n hx hb dX4_goOff_207 rfl (lv_at hl 2 rfl) ?_
                  refine lv_iload_n hx hb dX4_goOff_208 rfl (lv_at hl 1 rfl) ?_
                  refine lv_lload hx hb dX4_goOff_209 (lv_at hl 0 rfl) ?_
                  refine cvV (As := [.int (gA σ 24 (a1).toNatClampNeg), .int (gA σ 25 (a1).toNatClampNeg), .long r_2]) (rest := []) F hK hP hS (c_X4_goMake l D ad cI cJ hap H.size _ _ _ _ _ hw) (cwV 3 hts gX4_goOff_X4_goMake rfl rfl rfl (by decide +kernel) ⟨Nat.le_of_ble_eq_true rfl, Nat.le_of_ble_eq_true rfl⟩) (va_recv hK hP (ci := 3) (q0 := 2) rfl rfl) rfl hl.1 rfl (Nat.le_of_ble_eq_true rfl) dX4_goOff_211 ⟨Nat.zero_le _, Nat.zero_le _⟩ (fun u_24 H locs hw hP hS => ?_)
                  refine lv_goto (tgt := 263) hx hb dX4_goOff_214 (by decide) ?_
                  exact rtV F hr hlocks hK hw hP hS dX4_goOff_263
                · have hw := hw.2 k_23
                  by_cases k_26 : (gA u_1 0 ((gA σ 24 (a1).toNatClampNeg)).toNatClampNeg) = 18
                  · have hw := hw.1 k_26
                    refine sw_in 18 (tgt := 217) F dX4_goOff_66 k_26 (by decide) (by decide) rfl (by decide) ?_
                    refine lv_aload_n hx hb dX4_goOff_217 rfl (lv_at hl 3 rfl) ?_
                    refine lv_iload_n hx hb dX4_goOff_218 rfl (lv_at hl 4 rfl) ?_
                    refine lv_iload_n hx hb dX4_goOff_219 rfl (lv_at hl 2 rfl) ?_
                    refine lv_iload_n hx hb dX4_goOff_220 rfl (lv_at hl 1 rfl) ?_
                    refine cvV (As := [.int a1, .int (gA σ 24 (a1).toNatClampNeg), .int (gA σ 25 (a1).toNatClampNeg)]) (rest := []) F hK hP hS (c_X4_goRead l D ad cI cJ hap H.size _ _ _ _ _ hw) (cwV 3 hts gX4_goOff_X4_goRead rfl rfl rfl (by decide +kernel) ⟨Nat.le_of_ble_eq_true rfl, Nat.le_of_ble_eq_true rfl⟩) (va_recv hK hP (ci := 3) (q0 := 2) rfl rfl) rfl hl.1 rfl (Nat.le_of_ble_eq_true rfl) dX4_goOff_221 ⟨Nat.zero_le _, Nat.zero_le _⟩ (fun u_27 H locs hw hP hS => ?_)
                    refine lv_goto (tgt := 263) hx hb dX4_goOff_224 (by decide) ?_
                    exact rtV F hr hlocks hK hw hP hS dX4_goOff_263
                  · have hw := hw.2 k_26
                    by_cases k_29 : (gA u_1 0 ((gA σ 24 (a1).toNatClampNeg)).toNatClampNeg) = 19
                    · have hw := hw.1 k_29
                      refine sw_in 19 (tgt := 227) F dX4_goOff_66 k_29 (by decide) (by decide) rfl (by decide) ?_
                      refine lv_aload_n hx hb dX4_goOff_227 rfl (lv_at hl 3 rfl) ?_
                      refine lv_iload_n hx hb dX4_goOff_228 rfl (lv_at hl 4 rfl) ?_
                      refine lv_iload_n hx hb dX4_goOff_229 rfl (lv_at hl 2 rfl) ?_
                      refine lv_iload_n hx hb dX4_goOff_230 rfl (lv_at hl 1 rfl) ?_
                      refine cvV (As := [.int a1, .int (gA σ 24 (a1).toNatClampNeg), .int (gA σ 25 (a1).toNatClampNeg)]) (rest := []) F hK hP hS (c_X4_goWrite l D ad cI cJ hap H.size _ _ _ _ _ hw) (cwV 3 hts gX4_goOff_X4_goWrite rfl rfl rfl (by decide +kernel) ⟨Nat.le_of_ble_eq_true rfl, Nat.le_of_ble_eq_true rfl⟩) (va_recv hK hP (ci := 3) (q0 := 2) rfl rfl) rfl hl.1 rfl (Nat.le_of_ble_eq_true rfl) dX4_goOff_231 ⟨Nat.zero_le _, Nat.zero_le _⟩ (fun u_30 H locs hw hP hS => ?_)
                      refine lv_goto (tgt := 263) hx hb dX4_goOff_234 (by decide) ?_
                      exact rtV F hr hlocks hK hw hP hS dX4_goOff_263
                    · have hw := hw.2 k_29
                      by_cases k_32 : (gA u_1 0 ((gA σ 24 (a1).toNatClampNeg)).toNatClampNeg) = 21
                      · have hw := hw.1 k_32
                        refine sw_in 21 (tgt := 237) F dX4_goOff_66 k_32 (by decide) (by decide) rfl (by decide) ?_
                        refine lv_aload_n hx hb dX4_goOff_237 rfl (lv_at hl 3 rfl) ?_
                        refine lv_iload_n hx hb dX4_goOff_238 rfl (lv_at hl 2 rfl) ?_
                        refine lv_iload_n hx hb dX4_goOff_239 rfl (lv_at hl 1 rfl) ?_
                        refine lv_lload hx hb dX4_goOff_240 (lv_at hl 0 rfl) ?_
                        refine cvV (As := [.int (gA σ 24 (a1).toNatClampNeg), .int (gA σ 25 (a1).toNatClampNeg), .long r_2]) (rest := []) F hK hP hS (c_X4_goEnd l D ad cI cJ hap H.size _ _ _ _ _ hw) (cwV 3 hts gX4_goOff_X4_goEnd rfl rfl rfl (by decide +kernel) ⟨Nat.le_of_ble_eq_true rfl, Nat.le_of_ble_eq_true rfl⟩) (va_recv hK hP (ci := 3) (q0 := 2) rfl rfl) rfl hl.1 rfl (Nat.le_of_ble_eq_true rfl) dX4_goOff_242 ⟨Nat.zero_le _, Nat.zero_le _⟩ (fun u_33 H locs hw hP hS => ?_)
                        refine lv_goto (tgt := 263) hx hb dX4_goOff_245 (by decide) ?_
                        exact rtV F hr hlocks hK hw hP hS dX4_goOff_263
                      · have hw := hw.2 k_32
                        have z_39 : ¬ (gA u_1 0 ((gA σ 24 (a1).toNatClampNeg)).toNatClampNeg).toInt = 10 := lv_neT (fun z => k_3 z) (k := 10) (by decide)
                        have z_40 : ¬ (gA u_1 0 ((gA σ 24 (a1).toNatClampNeg)).toNatClampNeg).toInt = 11 := lv_neT (fun z => k_8 z) (k := 11) (by decide)
                        have z_41 : ¬ (gA u_1 0 ((gA σ 24 (a1).toNatClampNeg)).toNatClampNeg).toInt = 12 := lv_neT (fun z => k_14 (Or.inl z)) (k := 12) (by decide)
                        have z_42 : ¬ (gA u_1 0 ((gA σ 24 (a1).toNatClampNeg)).toNatClampNeg).toInt = 13 := lv_neT (fun z => k_14 (Or.inr z)) (k := 13) (by decide)
                        have z_43 : ¬ (gA u_1 0 ((gA σ 24 (a1).toNatClampNeg)).toNatClampNeg).toInt = 14 := lv_neT (fun z => k_17 z) (k := 14) (by decide)
                        have z_44 : ¬ (gA u_1 0 ((gA σ 24 (a1).toNatClampNeg)).toNatClampNeg).toInt = 16 := lv_neT (fun z => k_20 z) (k := 16) (by decide)
                        have z_45 : ¬ (gA u_1 0 ((gA σ 24 (a1).toNatClampNeg)).toNatClampNeg).toInt = 17 := lv_neT (fun z => k_23 z) (k := 17) (by decide)
                        have z_46 : ¬ (gA u_1 0 ((gA σ 24 (a1).toNatClampNeg)).toNatClampNeg).toInt = 18 := lv_neT (fun z => k_26 z) (k := 18) (by decide)
                        have z_47 : ¬ (gA u_1 0 ((gA σ 24 (a1).toNatClampNeg)).toNatClampNeg).toInt = 19 := lv_neT (fun z => k_29 z) (k := 19) (by decide)
                        have z_48 : ¬ (gA u_1 0 ((gA σ 24 (a1).toNatClampNeg)).toNatClampNeg).toInt = 21 := lv_neT (fun z => k_32 z) (k := 21) (by decide)
                        have kd : W p l e (headSpec wsX4_goOff rm_X4_goOff).room s m ([.ref (ad 2), .int a1] : List Value).toArray below meth c H locs 0 0 (MQ below (va_Qv K (inW D (wdC ad cI cJ) [(cI, .int), (cJ, .long)]) (AW ad 42 s.heap.size)) ([.ref (ad 2), .int a1] : List Value).toArray s 0 0 (AW ad 42 s.heap.size)) (F0 m 248 ls []) := by
                          refine lv_aload_n hx hb dX4_goOff_248 rfl (lv_at hl 3 rfl) ?_
                          refine lv_iload_n hx hb dX4_goOff_249 rfl (lv_at hl 2 rfl) ?_
                          refine lv_iconst (v := 0) hx hb dX4_goOff_250 (by decide) ?_
                          refine lv_iload_n hx hb dX4_goOff_251 rfl (lv_at hl 1 rfl) ?_
                          refine lv_aload_n hx hb dX4_goOff_252 rfl (lv_at hl 3 rfl) ?_
                          refine lv_iload_n hx hb dX4_goOff_253 rfl (lv_at hl 4 rfl) ?_
                          refine lv_iload_n hx hb dX4_goOff_254 rfl (lv_at hl 2 rfl) ?_
                          refine lv_lload hx hb dX4_goOff_255 (lv_at hl 0 rfl) ?_
                          refine cvL (As := [.int a1, .int (gA σ 24 (a1).toNatClampNeg), .long r_2]) (rest := [.int (gA σ 25 (a1).toNatClampNeg), .int 0, .int (gA σ 24 (a1).toNatClampNeg), .ref (ad 2)]) F hK hP hS (c_X4_plainResult l D ad cI cJ hap H.size _ _ _ _ _ hw) (cwV 3 hts gX4_goOff_X4_plainResult rfl rfl rfl (by decide +kernel) ⟨Nat.le_of_ble_eq_true rfl, Nat.le_of_ble_eq_true rfl⟩) (va_recv hK hP (ci := 3) (q0 := 2) rfl rfl) rfl hl.1 rfl (Nat.le_of_ble_eq_true rfl) dX4_goOff_257 ⟨Nat.zero_le _, Nat.zero_le _⟩ (fun r_36 u_35 H locs hw hP hS => ?_)
                          refine cvV (As := [.int (gA σ 24 (a1).toNatClampNeg), .int 0, .int (gA σ 25 (a1).toNatClampNeg), .long r_36]) (rest := []) F hK hP hS (c_X4_give l D ad cI cJ hap H.size _ _ _ _ _ _ hw) (cwV 4 hts gX4_goOff_X4_give rfl rfl rfl (by decide +kernel) ⟨Nat.le_of_ble_eq_true rfl, Nat.le_of_ble_eq_true rfl⟩) (va_recv hK hP (ci := 3) (q0 := 2) rfl rfl) rfl hl.1 rfl (Nat.le_of_ble_eq_true rfl) dX4_goOff_260 ⟨Nat.zero_le _, Nat.zero_le _⟩ (fun u_37 H locs hw hP hS => ?_)
                          exact rtV F hr hlocks hK hw hP hS dX4_goOff_263
                        rcases (show ((gA u_1 0 ((gA σ 24 (a1).toNatClampNeg)).toNatClampNeg).toInt < 10 ∨ 21 < (gA u_1 0 ((gA σ 24 (a1).toNatClampNeg)).toNatClampNeg).toInt) ∨ ((gA u_1 0 ((gA σ 24 (a1).toNatClampNeg)).toNatClampNeg).toInt = 15) ∨ ((gA u_1 0 ((gA σ 24 (a1).toNatClampNeg)).toNatClampNeg).toInt = 20) by omega) with o_49 | o_49 | o_49
                        · exact lv_tableOut hx hb dX4_goOff_66 o_49 (by decide) kd
                        · exact sw_in 15 F dX4_goOff_66 (Int32.toInt_inj.mp (by rw [o_49]; decide)) (by decide) (by decide) rfl (by decide) kd
                        · exact sw_in 20 F dX4_goOff_66 (Int32.toInt_inj.mp (by rw [o_49]; decide)) (by decide) (by decide) rfl (by decide) kd
    · have hw := hw.2 c_64
      exact rtV F hr hlocks hK hw hP hS dX4_goOff_5
  exact key s.heap hP hS

abbrev rm_X4_goBySeed : Room := { frames := 6, cells := 0, slots := 0, locals := 152 }
set_option maxHeartbeats 4000000 in
set_option maxRecDepth 100000 in
theorem c_X4_goBySeed (l : Launch) (D : va_G) (ad : Nat → Nat) (cI cJ : ClassId) (hap : apart ad 42) (sz : Nat) (σ : St) (a1 : Int32) (a2 : Int32) (K : Int32 → St → Prop) (hw : w_X4_goBySeed σ a1 a2 K) : Met l yX4_goBySeed wsX4_goBySeed rm_X4_goBySeed (va_Pc [.ref (ad 2), .int a1, .int a2] (fun U => U.heap.size = sz ∧ inW D (wdC ad cI cJ) [(cI, .int), (cJ, .long)] σ U)) (va_Qi K (inW D (wdC ad cI cJ) [(cI, .int), (cJ, .long)]) (AW ad 42 sz)) 0 0 (AW ad 42 sz) := by
  refine Met.ofW (cc := cX4_goBySeed) (maxL := 6) (ret := (some .int)) (by decide) rfl ?_
  intro p e s m args below meth c s₁ B hml hv
  obtain ⟨rfl, hsz, ⟨hP, hK⟩⟩ := hv
  have F : CallFix p m c cX4_goBySeed 6 s ([.ref (ad 2), .int a1, .int a2] : List Value).toArray wsX4_goBySeed RX4 := ⟨B.exec, B.bytes, hml, findClass_of_methodNamed B.named, atoms_spec (ws := wsX4_goBySeed) B.pre⟩
  have hx := F.1
  have hb := F.2.1
  have hown := F.2.2.2.1
  have hts := F.2.2.2.2
  have hr := B.returns
  have hlocks := B.notSynchronized
  subst hsz
  have hDs : ∀ σ, va_D (AW ad 42 s.heap.size) ((wdC ad cI cJ) σ) := fun σ => wdC_D hap σ
  have hS : va_S (AW ad 42 s.heap.size) s.heap s.heap [] := va_S.rf
  have iw_X4 : ∀ w ∈ u_ws RX4 TX4 14, w ∈ wsX4_goBySeed := by decide +kernel
  have f_c58 := hts (.constant RX4 58 1103515245) (by decide +kernel)
  have f_f43 := hts (.fieldLink RX4 43 "TokenFloor$Machine" "ready" "LTokenFloor$ReadyRow;") (by decide +kernel)
  have f_f71 := hts (.fieldLink RX4 71 "TokenFloor$Machine" "steps" "I") (by decide +kernel)
  have f_f75 := hts (.fieldLink RX4 75 "TokenFloor$Machine" "most" "I") (by decide +kernel)
  have f_f78 := hts (.fieldLink RX4 78 "TokenFloor$Machine" "how" "I") (by decide +kernel)
  have lab_74 : ∀ (σ : St) (H : Heap) (locs : List Loc) (ls : Array Slot), b_X4_goBySeed_74 K σ → va_P D vwCl ((wdC ad cI cJ) σ) H → va_S (AW ad 42 s.heap.size) s.heap H locs → lv_has ls 6 [(0, .ref (ad 2))] → W p l e (headSpec wsX4_goBySeed rm_X4_goBySeed).room s m ([.ref (ad 2), .int a1, .int a2] : List Value).toArray below meth c H locs 0 0 (MQ below (va_Qi K (inW D (wdC ad cI cJ) [(cI, .int), (cJ, .long)]) (AW ad 42 s.heap.size)) ([.ref (ad 2), .int a1, .int a2] : List Value).toArray s 0 0 (AW ad 42 s.heap.size)) (F0 m 74 ls []) := by
    intro σ H locs ls hw hP hS hl
    unfold b_X4_goBySeed_74 at hw
    refine lv_aload_n hx hb dX4_goBySeed_74 rfl (lv_at hl 0 rfl) ?_
    refine lv_aload_n hx hb dX4_goBySeed_75 rfl (lv_at hl 0 rfl) ?_
    refine gC_X4_steps F hK iw_X4 hP f_f71 dX4_goBySeed_76 ?_
    refine W.eq (g2 := F0 m 79 ls [.int (gS σ 5), .ref (ad 2)]) rfl ?_
    refine lv_if_le (tgt := 86) hx hb dX4_goBySeed_79 (by decide) (fun c_1 => ?_) (fun c_1 => ?_)
    · have hw := hw.1 c_1
      refine lv_iconst (v := 0) hx hb dX4_goBySeed_86 (by decide) ?_
      refine pC_X4_most F hK iw_X4 hP hDs hS f_f75 dX4_goBySeed_87 (fun H locs hP hS => ?_)
      refine lv_aload_n hx hb dX4_goBySeed_90 rfl (lv_at hl 0 rfl) ?_
      refine gC_X4_how F hK iw_X4 hP f_f78 dX4_goBySeed_91 ?_
      refine W.eq (g2 := F0 m 94 ls [.int (gS σ 4)]) rfl ?_
      exact rtI F hr hlocks hK hw hP hS dX4_goBySeed_94
    · have hw := hw.2 c_1
      refine lv_iconst (v := 1) hx hb dX4_goBySeed_82 (by decide) ?_
      refine lv_goto (tgt := 87) hx hb dX4_goBySeed_83 (by decide) ?_
      refine pC_X4_most F hK iw_X4 hP hDs hS f_f75 dX4_goBySeed_87 (fun H locs hP hS => ?_)
      refine lv_aload_n hx hb dX4_goBySeed_90 rfl (lv_at hl 0 rfl) ?_
      refine gC_X4_how F hK iw_X4 hP f_f78 dX4_goBySeed_91 ?_
      refine W.eq (g2 := F0 m 94 ls [.int (gS σ 4)]) rfl ?_
      exact rtI F hr hlocks hK hw hP hS dX4_goBySeed_94
  have lab_9 : ∀ (n : Nat), ∀ (σ : St) (x2 : Int32) (x3 : Int32) (x4 : Int32) (H : Heap) (locs : List Loc) (ls : Array Slot), w_X4_goBySeed_9 K n σ x2 x3 x4 → va_P D vwCl ((wdC ad cI cJ) σ) H → va_S (AW ad 42 s.heap.size) s.heap H locs → lv_has ls 6 [(0, .ref (ad 2)), (2, .int x2), (3, .int x3), (4, .int x4)] → W p l e (headSpec wsX4_goBySeed rm_X4_goBySeed).room s m ([.ref (ad 2), .int a1, .int a2] : List Value).toArray below meth c H locs 0 0 (MQ below (va_Qi K (inW D (wdC ad cI cJ) [(cI, .int), (cJ, .long)]) (AW ad 42 s.heap.size)) ([.ref (ad 2), .int a1, .int a2] : List Value).toArray s 0 0 (AW ad 42 s.heap.size)) (F0 m 9 ls []) := by
    intro n
    induction n with
    | zero =>
      intro σ x2 x3 x4 H locs ls hw
      exact hw.elim
    | succ n hL9 =>
      intro σ x2 x3 x4 H locs ls hw hP hS hl
      have hw : b_X4_goBySeed_9 (w_X4_goBySeed_9 K n) K σ x2 x3 x4 := hw
      unfold b_X4_goBySeed_9 at hw
      generalize w_X4_goBySeed_9 K n = L9 at hw hL9
      refine lv_iload hx hb dX4_goBySeed_9 (lv_at hl 3 rfl) ?_
      refine lv_iload_n hx hb dX4_goBySeed_11 rfl (lv_at hl 1 rfl) ?_
      refine lv_icmp_gt (tgt := 74) hx hb dX4_goBySeed_12 (by decide) (fun c_17 => ?_) (fun c_17 => ?_)
      · have hw := hw.1 c_17
        exact lab_74 _ _ _ _ hw hP hS (lv_sub hl [0] rfl)
      · have hw := hw.2 c_17
        refine lv_aload_n hx hb dX4_goBySeed_15 rfl (lv_at hl 0 rfl) ?_
        refine lv_iload_n hx hb dX4_goBySeed_16 rfl (lv_at hl 1 rfl) ?_
        refine cvI (As := [.int x2]) (rest := []) F hK hP hS (c_X4_mayStep l D ad cI cJ hap H.size _ _ _ hw) (cwV 1 hts gX4_goBySeed_X4_mayStep rfl rfl rfl (by decide +kernel) ⟨Nat.le_of_ble_eq_true rfl, Nat.le_of_ble_eq_true rfl⟩) (va_recv hK hP (ci := 3) (q0 := 2) rfl rfl) rfl hl.1 rfl (Nat.le_of_ble_eq_true rfl) dX4_goBySeed_17 ⟨Nat.zero_le _, Nat.zero_le _⟩ (fun r_3 u_2 H locs hw hP hS => ?_)
        obtain ⟨zr_3, hw⟩ := hw
        refine lv_if_eq (tgt := 74) hx hb dX4_goBySeed_20 (by decide) (fun c_16 => ?_) (fun c_16 => ?_)
        · have hw := hw.1 c_16
          exact lab_74 _ _ _ _ hw hP hS (lv_sub hl [0] rfl)
        · have hw := hw.2 c_16
          refine lv_ldc (v := 1103515245) hx hb hown f_c58 dX4_goBySeed_23 ?_
          refine lv_iload_n hx hb dX4_goBySeed_25 rfl (lv_at hl 2 rfl) ?_
          refine lv_imul hx hb dX4_goBySeed_26 ?_
          refine lv_sipush (v := 12345) hx hb dX4_goBySeed_27 (by decide) ?_
          refine lv_iadd hx hb dX4_goBySeed_30 ?_
          refine lv_istore_n (lv' := [(3, .int ((1103515245 * x3) + 12345)), (0, .ref (ad 2)), (2, .int x2), (4, .int x4)]) hx hb dX4_goBySeed_31 rfl hl (by decide) rfl (fun ls hl => ?_)
          refine lv_aload_n hx hb dX4_goBySeed_32 rfl (lv_at hl 1 rfl) ?_
          refine gC_X4_ready F hK iw_X4 hP f_f43 dX4_goBySeed_33 ?_
          refine cvI (As := []) (rest := []) F hK hP hS (c_X5_size l D ad cI cJ hap H.size _ _ hw) (cwV 0 hts gX4_goBySeed_X5_size rfl rfl rfl (by decide +kernel) ⟨Nat.le_of_ble_eq_true rfl, Nat.le_of_ble_eq_true rfl⟩) (va_recv hK hP (ci := 4) (q0 := 6) rfl rfl) rfl hl.1 rfl (Nat.le_of_ble_eq_true rfl) dX4_goBySeed_36 ⟨Nat.zero_le _, Nat.zero_le _⟩ (fun r_5 u_4 H locs hw hP hS => ?_)
          refine lv_istore (lv' := [(5, .int r_5), (3, .int ((1103515245 * x3) + 12345)), (0, .ref (ad 2)), (2, .int x2), (4, .int x4)]) hx hb dX4_goBySeed_39 hl (by decide) rfl (fun ls hl => ?_)
          refine lv_aload_n hx hb dX4_goBySeed_41 rfl (lv_at hl 2 rfl) ?_
          refine lv_aload_n hx hb dX4_goBySeed_42 rfl (lv_at hl 2 rfl) ?_
          refine gC_X4_ready F hK iw_X4 hP f_f43 dX4_goBySeed_43 ?_
          refine lv_iload hx hb dX4_goBySeed_46 (lv_at hl 0 rfl) ?_
          refine lv_if_ne (tgt := 55) hx hb dX4_goBySeed_48 (by decide) (fun c_15 => ?_) (fun c_15 => ?_)
          · have hw := hw.1 c_15
            refine lv_iload_n hx hb dX4_goBySeed_55 rfl (lv_at hl 1 rfl) ?_
            refine lv_bipush (v := 16) hx hb dX4_goBySeed_56 (by decide) ?_
            refine lv_iushr hx hb dX4_goBySeed_58 rfl ?_
            refine lv_iload hx hb dX4_goBySeed_59 (lv_at hl 0 rfl) ?_
            obtain ⟨h_10, hw⟩ := hw
            refine lv_irem hx hb dX4_goBySeed_61 h_10 ?_
            refine cvI (As := [.int (((((1103515245 * x3) + 12345).toUInt32 >>> ((16 : Int32).toUInt32 &&& Int32.toUInt32 31)).toInt32) - ((((1103515245 * x3) + 12345).toUInt32 >>> ((16 : Int32).toUInt32 &&& Int32.toUInt32 31)).toInt32) / r_5 * r_5)]) (rest := [.ref (ad 2)]) F hK hP hS (c_X5_take l D ad cI cJ hap H.size _ _ _ hw) (cwV 1 hts gX4_goBySeed_X5_take rfl rfl rfl (by decide +kernel) ⟨Nat.le_of_ble_eq_true rfl, Nat.le_of_ble_eq_true rfl⟩) (va_recv hK hP (ci := 4) (q0 := 6) rfl rfl) rfl hl.1 rfl (Nat.le_of_ble_eq_true rfl) dX4_goBySeed_62 ⟨Nat.zero_le _, Nat.zero_le _⟩ (fun r_7 u_6 H locs hw hP hS => ?_)
            refine cvV (As := [.int r_7]) (rest := []) F hK hP hS (c_X4_goOff l D ad cI cJ hap H.size _ _ _ hw) (cwV 1 hts gX4_goBySeed_X4_goOff rfl rfl rfl (by decide +kernel) ⟨Nat.le_of_ble_eq_true rfl, Nat.le_of_ble_eq_true rfl⟩) (va_recv hK hP (ci := 3) (q0 := 2) rfl rfl) rfl hl.1 rfl (Nat.le_of_ble_eq_true rfl) dX4_goBySeed_65 ⟨Nat.zero_le _, Nat.zero_le _⟩ (fun u_8 H locs hw hP hS => ?_)
            refine lv_iinc (v := (x4 + 1)) (lv' := [(4, .int (x4 + 1)), (5, .int r_5), (3, .int ((1103515245 * x3) + 12345)), (0, .ref (ad 2)), (2, .int x2)]) hx hb dX4_goBySeed_68 hl (k := 4) rfl rfl (by decide) rfl (fun ls hl => ?_)
            refine lv_goto (tgt := 9) hx hb dX4_goBySeed_71 (by decide) ?_
            exact hL9 _ _ _ _ _ _ _ hw hP hS (lv_sub hl [3, 4, 2, 0] rfl)
          · have hw := hw.2 c_15
            refine lv_iconst (v := 0) hx hb dX4_goBySeed_51 (by decide) ?_
            refine lv_goto (tgt := 62) hx hb dX4_goBySeed_52 (by decide) ?_
            refine cvI (As := [.int 0]) (rest := [.ref (ad 2)]) F hK hP hS (c_X5_take l D ad cI cJ hap H.size _ _ _ hw) (cwV 1 hts gX4_goBySeed_X5_take rfl rfl rfl (by decide +kernel) ⟨Nat.le_of_ble_eq_true rfl, Nat.le_of_ble_eq_true rfl⟩) (va_recv hK hP (ci := 4) (q0 := 6) rfl rfl) rfl hl.1 rfl (Nat.le_of_ble_eq_true rfl) dX4_goBySeed_62 ⟨Nat.zero_le _, Nat.zero_le _⟩ (fun r_12 u_11 H locs hw hP hS => ?_)
            refine cvV (As := [.int r_12]) (rest := []) F hK hP hS (c_X4_goOff l D ad cI cJ hap H.size _ _ _ hw) (cwV 1 hts gX4_goBySeed_X4_goOff rfl rfl rfl (by decide +kernel) ⟨Nat.le_of_ble_eq_true rfl, Nat.le_of_ble_eq_true rfl⟩) (va_recv hK hP (ci := 3) (q0 := 2) rfl rfl) rfl hl.1 rfl (Nat.le_of_ble_eq_true rfl) dX4_goBySeed_65 ⟨Nat.zero_le _, Nat.zero_le _⟩ (fun u_13 H locs hw hP hS => ?_)
            refine lv_iinc (v := (x4 + 1)) (lv' := [(4, .int (x4 + 1)), (5, .int r_5), (3, .int ((1103515245 * x3) + 12345)), (0, .ref (ad 2)), (2, .int x2)]) hx hb dX4_goBySeed_68 hl (k := 4) rfl rfl (by decide) rfl (fun ls hl => ?_)
            refine lv_goto (tgt := 9) hx hb dX4_goBySeed_71 (by decide) ?_
            exact hL9 _ _ _ _ _ _ _ hw hP hS (lv_sub hl [3, 4, 2, 0] rfl)
  have hl := lv_entry ([.ref (ad 2), .int a1, .int a2]) (n := 6) (Nat.le_of_ble_eq_true rfl)
  rw [lg_entry_eq]
  generalize (lg_sl ([.ref (ad 2), .int a1, .int a2]) ++ List.replicate (6 - (lg_sl ([.ref (ad 2), .int a1, .int a2])).length) Slot.unset).toArray = ls at hl ⊢
  have hl : lv_has ls 6 [(0, .ref (ad 2)), (1, .int a1), (2, .int a2)] := hl
  have key : ∀ (H : Heap), va_P D vwCl ((wdC ad cI cJ) σ) H → va_S (AW ad 42 s.heap.size) s.heap H [] → W p l e (headSpec wsX4_goBySeed rm_X4_goBySeed).room s m ([.ref (ad 2), .int a1, .int a2] : List Value).toArray below meth c H [] 0 0 (MQ below (va_Qi K (inW D (wdC ad cI cJ) [(cI, .int), (cJ, .long)]) (AW ad 42 s.heap.size)) ([.ref (ad 2), .int a1, .int a2] : List Value).toArray s 0 0 (AW ad 42 s.heap.size)) (F0 m 0 ls []) := by
    intro H hP hS
    unfold w_X4_goBySeed at hw
    refine lv_aload_n hx hb dX4_goBySeed_0 rfl (lv_at hl 0 rfl) ?_
    refine cvV (As := []) (rest := []) F hK hP hS (c_X4_begin l D ad cI cJ hap H.size _ _ hw) (cwV 0 hts gX4_goBySeed_X4_begin rfl rfl rfl (by decide +kernel) ⟨Nat.le_of_ble_eq_true rfl, Nat.le_of_ble_eq_true rfl⟩) (va_recv hK hP (ci := 3) (q0 := 2) rfl rfl) rfl hl.1 rfl (Nat.le_of_ble_eq_true rfl) dX4_goBySeed_1 ⟨Nat.zero_le _, Nat.zero_le _⟩ (fun u_18 H locs hw hP hS => ?_)
    refine lv_iload_n hx hb dX4_goBySeed_4 rfl (lv_at hl 1 rfl) ?_
    refine lv_istore_n (lv' := [(3, .int a1), (0, .ref (ad 2)), (1, .int a1), (2, .int a2)]) hx hb dX4_goBySeed_5 rfl hl (by decide) rfl (fun ls hl => ?_)
    refine lv_iconst (v := 0) hx hb dX4_goBySeed_6 (by decide) ?_
    refine lv_istore (lv' := [(4, .int 0), (3, .int a1), (0, .ref (ad 2)), (1, .int a1), (2, .int a2)]) hx hb dX4_goBySeed_7 hl (by decide) rfl (fun ls hl => ?_)
    obtain ⟨n_20, hw⟩ := hw
    exact lab_9 n_20 _ _ _ _ _ _ _ hw hP hS (lv_sub hl [2, 4, 1, 0] rfl)
  exact key s.heap hP hS

abbrev rm_X4_goTick : Room := { frames := 6, cells := 0, slots := 0, locals := 152 }
set_option maxHeartbeats 4000000 in
set_option maxRecDepth 100000 in
theorem c_X4_goTick (l : Launch) (D : va_G) (ad : Nat → Nat) (cI cJ : ClassId) (hap : apart ad 42) (sz : Nat) (σ : St) (a1 : Int32) (K : St → Prop) (hw : w_X4_goTick σ a1 K) : Met l yX4_goTick wsX4_goTick rm_X4_goTick (va_Pc [.ref (ad 2), .int a1] (fun U => U.heap.size = sz ∧ inW D (wdC ad cI cJ) [(cI, .int), (cJ, .long)] σ U)) (va_Qv K (inW D (wdC ad cI cJ) [(cI, .int), (cJ, .long)]) (AW ad 42 sz)) 0 0 (AW ad 42 sz) := by
  refine Met.ofW (cc := cX4_goTick) (maxL := 4) (ret := none) (by decide) rfl ?_
  intro p e s m args below meth c s₁ B hml hv
  obtain ⟨rfl, hsz, ⟨hP, hK⟩⟩ := hv
  have F : CallFix p m c cX4_goTick 4 s ([.ref (ad 2), .int a1] : List Value).toArray wsX4_goTick RX4 := ⟨B.exec, B.bytes, hml, findClass_of_methodNamed B.named, atoms_spec (ws := wsX4_goTick) B.pre⟩
  have hx := F.1
  have hb := F.2.1
  have hown := F.2.2.2.1
  have hts := F.2.2.2.2
  have hr := B.returns
  have hlocks := B.notSynchronized
  subst hsz
  have hDs : ∀ σ, va_D (AW ad 42 s.heap.size) ((wdC ad cI cJ) σ) := fun σ => wdC_D hap σ
  have hS : va_S (AW ad 42 s.heap.size) s.heap s.heap [] := va_S.rf
  have iw_X4 : ∀ w ∈ u_ws RX4 TX4 14, w ∈ wsX4_goTick := by decide +kernel
  have f_f43 := hts (.fieldLink RX4 43 "TokenFloor$Machine" "ready" "LTokenFloor$ReadyRow;") (by decide +kernel)
  have f_f75 := hts (.fieldLink RX4 75 "TokenFloor$Machine" "most" "I") (by decide +kernel)
  have f_f84 := hts (.fieldLink RX4 84 "TokenFloor$Machine" "tickCount" "I") (by decide +kernel)
  have f_m164 := hts (.methodLink RX4 164 Lib.Math.max.name) (by decide +kernel)
  have f_mxc0 := hts (.code Lib.Math.max.name Lib.Math.max.code 2 (some .int)) (by decide +kernel)
  have f_mxi0 := hts (.initialized "java/lang/Math") (by decide +kernel)
  have f_mxs0 := hts (.static Lib.Math.max.name) (by decide +kernel)
  have lab_41 : ∀ (σ : St) (x3 : Int32) (H : Heap) (locs : List Loc) (ls : Array Slot), b_X4_goTick_41 K σ x3 → va_P D vwCl ((wdC ad cI cJ) σ) H → va_S (AW ad 42 s.heap.size) s.heap H locs → lv_has ls 4 [(0, .ref (ad 2)), (3, .int x3)] → W p l e (headSpec wsX4_goTick rm_X4_goTick).room s m ([.ref (ad 2), .int a1] : List Value).toArray below meth c H locs 0 0 (MQ below (va_Qv K (inW D (wdC ad cI cJ) [(cI, .int), (cJ, .long)]) (AW ad 42 s.heap.size)) ([.ref (ad 2), .int a1] : List Value).toArray s 0 0 (AW ad 42 s.heap.size)) (F0 m 41 ls []) := by
    intro σ x3 H locs ls hw hP hS hl
    unfold b_X4_goTick_41 at hw
    refine lv_aload_n hx hb dX4_goTick_41 rfl (lv_at hl 0 rfl) ?_
    refine lv_dup hx hb dX4_goTick_42 rfl ?_
    refine gC_X4_tickCount F hK iw_X4 hP f_f84 dX4_goTick_43 ?_
    refine W.eq (g2 := F0 m 46 ls [.int (gS σ 6), .ref (ad 2)]) rfl ?_
    refine lv_iconst (v := 1) hx hb dX4_goTick_46 (by decide) ?_
    refine lv_iadd hx hb dX4_goTick_47 ?_
    refine pC_X4_tickCount F hK iw_X4 hP hDs hS f_f84 dX4_goTick_48 (fun H locs hP hS => ?_)
    refine lv_aload_n hx hb dX4_goTick_51 rfl (lv_at hl 0 rfl) ?_
    refine lv_aload_n hx hb dX4_goTick_52 rfl (lv_at hl 0 rfl) ?_
    refine gC_X4_most F hK iw_X4 hP f_f75 dX4_goTick_53 ?_
    refine W.eq (g2 := F0 m 56 ls [.int (gS σ 7), .ref (ad 2)]) rfl ?_
    refine lv_iload_n hx hb dX4_goTick_56 rfl (lv_at hl 1 rfl) ?_
    refine va_mmax hx hb (hml.trans hl.1.symm) hown f_m164 f_mxs0 f_mxi0 f_mxc0 (Nat.le_of_ble_eq_true rfl) (Nat.le_of_ble_eq_true rfl) (Nat.zero_le _) (Nat.zero_le _) dX4_goTick_57 ?_
    refine pC_X4_most F hK iw_X4 hP hDs hS f_f75 dX4_goTick_60 (fun H locs hP hS => ?_)
    exact rtV F hr hlocks hK hw hP hS dX4_goTick_63
  have lab_10 : ∀ (n : Nat), ∀ (σ : St) (x1 : Int32) (x2 : Int32) (x3 : Int32) (H : Heap) (locs : List Loc) (ls : Array Slot), w_X4_goTick_10 K n σ x1 x2 x3 → va_P D vwCl ((wdC ad cI cJ) σ) H → va_S (AW ad 42 s.heap.size) s.heap H locs → lv_has ls 4 [(0, .ref (ad 2)), (1, .int x1), (2, .int x2), (3, .int x3)] → W p l e (headSpec wsX4_goTick rm_X4_goTick).room s m ([.ref (ad 2), .int a1] : List Value).toArray below meth c H locs 0 0 (MQ below (va_Qv K (inW D (wdC ad cI cJ) [(cI, .int), (cJ, .long)]) (AW ad 42 s.heap.size)) ([.ref (ad 2), .int a1] : List Value).toArray s 0 0 (AW ad 42 s.heap.size)) (F0 m 10 ls []) := by
    intro n
    induction n with
    | zero =>
      intro σ x1 x2 x3 H locs ls hw
      exact hw.elim
    | succ n hL10 =>
      intro σ x1 x2 x3 H locs ls hw hP hS hl
      have hw : b_X4_goTick_10 (w_X4_goTick_10 K n) K σ x1 x2 x3 := hw
      unfold b_X4_goTick_10 at hw
      generalize w_X4_goTick_10 K n = L10 at hw hL10
      refine lv_iload_n hx hb dX4_goTick_10 rfl (lv_at hl 3 rfl) ?_
      refine lv_iload_n hx hb dX4_goTick_11 rfl (lv_at hl 2 rfl) ?_
      refine lv_icmp_ge (tgt := 41) hx hb dX4_goTick_12 (by decide) (fun c_8 => ?_) (fun c_8 => ?_)
      · have hw := hw.1 c_8
        exact lab_41 _ _ _ _ _ hw hP hS (lv_sub hl [0, 3] rfl)
      · have hw := hw.2 c_8
        refine lv_aload_n hx hb dX4_goTick_15 rfl (lv_at hl 0 rfl) ?_
        refine lv_iload_n hx hb dX4_goTick_16 rfl (lv_at hl 1 rfl) ?_
        refine cvI (As := [.int x1]) (rest := []) F hK hP hS (c_X4_mayStep l D ad cI cJ hap H.size _ _ _ hw) (cwV 1 hts gX4_goTick_X4_mayStep rfl rfl rfl (by decide +kernel) ⟨Nat.le_of_ble_eq_true rfl, Nat.le_of_ble_eq_true rfl⟩) (va_recv hK hP (ci := 3) (q0 := 2) rfl rfl) rfl hl.1 rfl (Nat.le_of_ble_eq_true rfl) dX4_goTick_17 ⟨Nat.zero_le _, Nat.zero_le _⟩ (fun r_2 u_1 H locs hw hP hS => ?_)
        obtain ⟨zr_2, hw⟩ := hw
        refine lv_if_eq (tgt := 41) hx hb dX4_goTick_20 (by decide) (fun c_7 => ?_) (fun c_7 => ?_)
        · have hw := hw.1 c_7
          exact lab_41 _ _ _ _ _ hw hP hS (lv_sub hl [0, 3] rfl)
        · have hw := hw.2 c_7
          refine lv_aload_n hx hb dX4_goTick_23 rfl (lv_at hl 0 rfl) ?_
          refine lv_aload_n hx hb dX4_goTick_24 rfl (lv_at hl 0 rfl) ?_
          refine gC_X4_ready F hK iw_X4 hP f_f43 dX4_goTick_25 ?_
          refine lv_iconst (v := 0) hx hb dX4_goTick_28 (by decide) ?_
          refine cvI (As := [.int 0]) (rest := [.ref (ad 2)]) F hK hP hS (c_X5_take l D ad cI cJ hap H.size _ _ _ hw) (cwV 1 hts gX4_goTick_X5_take rfl rfl rfl (by decide +kernel) ⟨Nat.le_of_ble_eq_true rfl, Nat.le_of_ble_eq_true rfl⟩) (va_recv hK hP (ci := 4) (q0 := 6) rfl rfl) rfl hl.1 rfl (Nat.le_of_ble_eq_true rfl) dX4_goTick_29 ⟨Nat.zero_le _, Nat.zero_le _⟩ (fun r_4 u_3 H locs hw hP hS => ?_)
          refine cvV (As := [.int r_4]) (rest := []) F hK hP hS (c_X4_goOff l D ad cI cJ hap H.size _ _ _ hw) (cwV 1 hts gX4_goTick_X4_goOff rfl rfl rfl (by decide +kernel) ⟨Nat.le_of_ble_eq_true rfl, Nat.le_of_ble_eq_true rfl⟩) (va_recv hK hP (ci := 3) (q0 := 2) rfl rfl) rfl hl.1 rfl (Nat.le_of_ble_eq_true rfl) dX4_goTick_32 ⟨Nat.zero_le _, Nat.zero_le _⟩ (fun u_5 H locs hw hP hS => ?_)
          refine lv_iinc (v := (x3 + 1)) (lv' := [(3, .int (x3 + 1)), (0, .ref (ad 2)), (1, .int x1), (2, .int x2)]) hx hb dX4_goTick_35 hl (k := 3) rfl rfl (by decide) rfl (fun ls hl => ?_)
          refine lv_goto (tgt := 10) hx hb dX4_goTick_38 (by decide) ?_
          exact hL10 _ _ _ _ _ _ _ hw hP hS (lv_sub hl [1, 2, 3, 0] rfl)
  have hl := lv_entry ([.ref (ad 2), .int a1]) (n := 4) (Nat.le_of_ble_eq_true rfl)
  rw [lg_entry_eq]
  generalize (lg_sl ([.ref (ad 2), .int a1]) ++ List.replicate (4 - (lg_sl ([.ref (ad 2), .int a1])).length) Slot.unset).toArray = ls at hl ⊢
  have hl : lv_has ls 4 [(0, .ref (ad 2)), (1, .int a1)] := hl
  have key : ∀ (H : Heap), va_P D vwCl ((wdC ad cI cJ) σ) H → va_S (AW ad 42 s.heap.size) s.heap H [] → W p l e (headSpec wsX4_goTick rm_X4_goTick).room s m ([.ref (ad 2), .int a1] : List Value).toArray below meth c H [] 0 0 (MQ below (va_Qv K (inW D (wdC ad cI cJ) [(cI, .int), (cJ, .long)]) (AW ad 42 s.heap.size)) ([.ref (ad 2), .int a1] : List Value).toArray s 0 0 (AW ad 42 s.heap.size)) (F0 m 0 ls []) := by
    intro H hP hS
    unfold w_X4_goTick at hw
    refine lv_aload_n hx hb dX4_goTick_0 rfl (lv_at hl 0 rfl) ?_
    refine gC_X4_ready F hK iw_X4 hP f_f43 dX4_goTick_1 ?_
    refine cvI (As := []) (rest := []) F hK hP hS (c_X5_size l D ad cI cJ hap H.size _ _ hw) (cwV 0 hts gX4_goTick_X5_size rfl rfl rfl (by decide +kernel) ⟨Nat.le_of_ble_eq_true rfl, Nat.le_of_ble_eq_true rfl⟩) (va_recv hK hP (ci := 4) (q0 := 6) rfl rfl) rfl hl.1 rfl (Nat.le_of_ble_eq_true rfl) dX4_goTick_4 ⟨Nat.zero_le _, Nat.zero_le _⟩ (fun r_10 u_9 H locs hw hP hS => ?_)
    refine lv_istore_n (lv' := [(2, .int r_10), (0, .ref (ad 2)), (1, .int a1)]) hx hb dX4_goTick_7 rfl hl (by decide) rfl (fun ls hl => ?_)
    refine lv_iconst (v := 0) hx hb dX4_goTick_8 (by decide) ?_
    refine lv_istore_n (lv' := [(3, .int 0), (2, .int r_10), (0, .ref (ad 2)), (1, .int a1)]) hx hb dX4_goTick_9 rfl hl (by decide) rfl (fun ls hl => ?_)
    obtain ⟨n_11, hw⟩ := hw
    exact lab_10 n_11 _ _ _ _ _ _ _ hw hP hS (lv_sub hl [2, 3, 1, 0] rfl)
  exact key s.heap hP hS

abbrev rm_X4_goByTicks : Room := { frames := 7, cells := 0, slots := 0, locals := 175 }
set_option maxHeartbeats 4000000 in
set_option maxRecDepth 100000 in
theorem c_X4_goByTicks (l : Launch) (D : va_G) (ad : Nat → Nat) (cI cJ : ClassId) (hap : apart ad 42) (sz : Nat) (σ : St) (a1 : Int32) (K : Int32 → St → Prop) (hw : w_X4_goByTicks σ a1 K) : Met l yX4_goByTicks wsX4_goByTicks rm_X4_goByTicks (va_Pc [.ref (ad 2), .int a1] (fun U => U.heap.size = sz ∧ inW D (wdC ad cI cJ) [(cI, .int), (cJ, .long)] σ U)) (va_Qi K (inW D (wdC ad cI cJ) [(cI, .int), (cJ, .long)]) (AW ad 42 sz)) 0 0 (AW ad 42 sz) := by
  refine Met.ofW (cc := cX4_goByTicks) (maxL := 3) (ret := (some .int)) (by decide) rfl ?_
  intro p e s m args below meth c s₁ B hml hv
  obtain ⟨rfl, hsz, ⟨hP, hK⟩⟩ := hv
  have F : CallFix p m c cX4_goByTicks 3 s ([.ref (ad 2), .int a1] : List Value).toArray wsX4_goByTicks RX4 := ⟨B.exec, B.bytes, hml, findClass_of_methodNamed B.named, atoms_spec (ws := wsX4_goByTicks) B.pre⟩
  have hx := F.1
  have hb := F.2.1
  have hown := F.2.2.2.1
  have hts := F.2.2.2.2
  have hr := B.returns
  have hlocks := B.notSynchronized
  subst hsz
  have hDs : ∀ σ, va_D (AW ad 42 s.heap.size) ((wdC ad cI cJ) σ) := fun σ => wdC_D hap σ
  have hS : va_S (AW ad 42 s.heap.size) s.heap s.heap [] := va_S.rf
  have iw_X4 : ∀ w ∈ u_ws RX4 TX4 14, w ∈ wsX4_goByTicks := by decide +kernel
  have f_f78 := hts (.fieldLink RX4 78 "TokenFloor$Machine" "how" "I") (by decide +kernel)
  have lab_6 : ∀ (n : Nat), ∀ (σ : St) (x1 : Int32) (x2 : Int32) (H : Heap) (locs : List Loc) (ls : Array Slot), w_X4_goByTicks_6 K n σ x1 x2 → va_P D vwCl ((wdC ad cI cJ) σ) H → va_S (AW ad 42 s.heap.size) s.heap H locs → lv_has ls 3 [(0, .ref (ad 2)), (1, .int x1), (2, .int x2)] → W p l e (headSpec wsX4_goByTicks rm_X4_goByTicks).room s m ([.ref (ad 2), .int a1] : List Value).toArray below meth c H locs 0 0 (MQ below (va_Qi K (inW D (wdC ad cI cJ) [(cI, .int), (cJ, .long)]) (AW ad 42 s.heap.size)) ([.ref (ad 2), .int a1] : List Value).toArray s 0 0 (AW ad 42 s.heap.size)) (F0 m 6 ls []) := by
    intro n
    induction n with
    | zero =>
      intro σ x1 x2 H locs ls hw
      exact hw.elim
    | succ n hL6 =>
      intro σ x1 x2 H locs ls hw hP hS hl
      have hw : b_X4_goByTicks_6 (w_X4_goByTicks_6 K n) K σ x1 x2 := hw
      unfold b_X4_goByTicks_6 at hw
      generalize w_X4_goByTicks_6 K n = L6 at hw hL6
      refine lv_iload_n hx hb dX4_goByTicks_6 rfl (lv_at hl 2 rfl) ?_
      refine lv_iload_n hx hb dX4_goByTicks_7 rfl (lv_at hl 1 rfl) ?_
      refine lv_icmp_gt (tgt := 30) hx hb dX4_goByTicks_8 (by decide) (fun c_6 => ?_) (fun c_6 => ?_)
      · have hw := hw.1 c_6
        refine lv_aload_n hx hb dX4_goByTicks_30 rfl (lv_at hl 0 rfl) ?_
        refine gC_X4_how F hK iw_X4 hP f_f78 dX4_goByTicks_31 ?_
        refine W.eq (g2 := F0 m 34 ls [.int (gS σ 4)]) rfl ?_
        exact rtI F hr hlocks hK hw hP hS dX4_goByTicks_34
      · have hw := hw.2 c_6
        refine lv_aload_n hx hb dX4_goByTicks_11 rfl (lv_at hl 0 rfl) ?_
        refine lv_iload_n hx hb dX4_goByTicks_12 rfl (lv_at hl 1 rfl) ?_
        refine cvI (As := [.int x1]) (rest := []) F hK hP hS (c_X4_mayStep l D ad cI cJ hap H.size _ _ _ hw) (cwV 1 hts gX4_goByTicks_X4_mayStep rfl rfl rfl (by decide +kernel) ⟨Nat.le_of_ble_eq_true rfl, Nat.le_of_ble_eq_true rfl⟩) (va_recv hK hP (ci := 3) (q0 := 2) rfl rfl) rfl hl.1 rfl (Nat.le_of_ble_eq_true rfl) dX4_goByTicks_13 ⟨Nat.zero_le _, Nat.zero_le _⟩ (fun r_2 u_1 H locs hw hP hS => ?_)
        obtain ⟨zr_2, hw⟩ := hw
        refine lv_if_eq (tgt := 30) hx hb dX4_goByTicks_16 (by decide) (fun c_5 => ?_) (fun c_5 => ?_)
        · have hw := hw.1 c_5
          refine lv_aload_n hx hb dX4_goByTicks_30 rfl (lv_at hl 0 rfl) ?_
          refine gC_X4_how F hK iw_X4 hP f_f78 dX4_goByTicks_31 ?_
          refine W.eq (g2 := F0 m 34 ls [.int (gS u_1 4)]) rfl ?_
          exact rtI F hr hlocks hK hw hP hS dX4_goByTicks_34
        · have hw := hw.2 c_5
          refine lv_aload_n hx hb dX4_goByTicks_19 rfl (lv_at hl 0 rfl) ?_
          refine lv_iload_n hx hb dX4_goByTicks_20 rfl (lv_at hl 1 rfl) ?_
          refine cvV (As := [.int x1]) (rest := []) F hK hP hS (c_X4_goTick l D ad cI cJ hap H.size _ _ _ hw) (cwV 1 hts gX4_goByTicks_X4_goTick rfl rfl rfl (by decide +kernel) ⟨Nat.le_of_ble_eq_true rfl, Nat.le_of_ble_eq_true rfl⟩) (va_recv hK hP (ci := 3) (q0 := 2) rfl rfl) rfl hl.1 rfl (Nat.le_of_ble_eq_true rfl) dX4_goByTicks_21 ⟨Nat.zero_le _, Nat.zero_le _⟩ (fun u_3 H locs hw hP hS => ?_)
          refine lv_iinc (v := (x2 + 1)) (lv' := [(2, .int (x2 + 1)), (0, .ref (ad 2)), (1, .int x1)]) hx hb dX4_goByTicks_24 hl (k := 2) rfl rfl (by decide) rfl (fun ls hl => ?_)
          refine lv_goto (tgt := 6) hx hb dX4_goByTicks_27 (by decide) ?_
          exact hL6 _ _ _ _ _ _ hw hP hS (lv_sub hl [1, 2, 0] rfl)
  have hl := lv_entry ([.ref (ad 2), .int a1]) (n := 3) (Nat.le_of_ble_eq_true rfl)
  rw [lg_entry_eq]
  generalize (lg_sl ([.ref (ad 2), .int a1]) ++ List.replicate (3 - (lg_sl ([.ref (ad 2), .int a1])).length) Slot.unset).toArray = ls at hl ⊢
  have hl : lv_has ls 3 [(0, .ref (ad 2)), (1, .int a1)] := hl
  have key : ∀ (H : Heap), va_P D vwCl ((wdC ad cI cJ) σ) H → va_S (AW ad 42 s.heap.size) s.heap H [] → W p l e (headSpec wsX4_goByTicks rm_X4_goByTicks).room s m ([.ref (ad 2), .int a1] : List Value).toArray below meth c H [] 0 0 (MQ below (va_Qi K (inW D (wdC ad cI cJ) [(cI, .int), (cJ, .long)]) (AW ad 42 s.heap.size)) ([.ref (ad 2), .int a1] : List Value).toArray s 0 0 (AW ad 42 s.heap.size)) (F0 m 0 ls []) := by
    intro H hP hS
    unfold w_X4_goByTicks at hw
    refine lv_aload_n hx hb dX4_goByTicks_0 rfl (lv_at hl 0 rfl) ?_
    refine cvV (As := []) (rest := []) F hK hP hS (c_X4_begin l D ad cI cJ hap H.size _ _ hw) (cwV 0 hts gX4_goByTicks_X4_begin rfl rfl rfl (by decide +kernel) ⟨Nat.le_of_ble_eq_true rfl, Nat.le_of_ble_eq_true rfl⟩) (va_recv hK hP (ci := 3) (q0 := 2) rfl rfl) rfl hl.1 rfl (Nat.le_of_ble_eq_true rfl) dX4_goByTicks_1 ⟨Nat.zero_le _, Nat.zero_le _⟩ (fun u_7 H locs hw hP hS => ?_)
    refine lv_iconst (v := 0) hx hb dX4_goByTicks_4 (by decide) ?_
    refine lv_istore_n (lv' := [(2, .int 0), (0, .ref (ad 2)), (1, .int a1)]) hx hb dX4_goByTicks_5 rfl hl (by decide) rfl (fun ls hl => ?_)
    obtain ⟨n_9, hw⟩ := hw
    exact lab_6 n_9 _ _ _ _ _ _ hw hP hS (lv_sub hl [1, 2, 0] rfl)
  exact key s.heap hP hS

abbrev rm_X4_figure : Room := { frames := 1, cells := 0, slots := 0, locals := 20 }
set_option maxHeartbeats 4000000 in
set_option maxRecDepth 100000 in
theorem c_X4_figure (l : Launch) (D : va_G) (ad : Nat → Nat) (cI cJ : ClassId) (hap : apart ad 42) (sz : Nat) (σ : St) (a1 : Int32) (K : Int32 → St → Prop) (hw : w_X4_figure σ a1 K) : Met l yX4_figure wsX4_figure rm_X4_figure (va_Pc [.ref (ad 2), .int a1] (fun U => U.heap.size = sz ∧ inW D (wdC ad cI cJ) [(cI, .int), (cJ, .long)] σ U)) (va_Qi K (inW D (wdC ad cI cJ) [(cI, .int), (cJ, .long)]) (AW ad 42 sz)) 0 0 (AW ad 42 sz) := by
  refine Met.ofW (cc := cX4_figure) (maxL := 2) (ret := (some .int)) (by decide) rfl ?_
  intro p e s m args below meth c s₁ B hml hv
  obtain ⟨rfl, hsz, ⟨hP, hK⟩⟩ := hv
  have F : CallFix p m c cX4_figure 2 s ([.ref (ad 2), .int a1] : List Value).toArray wsX4_figure RX4 := ⟨B.exec, B.bytes, hml, findClass_of_methodNamed B.named, atoms_spec (ws := wsX4_figure) B.pre⟩
  have hx := F.1
  have hb := F.2.1
  have hown := F.2.2.2.1
  have hts := F.2.2.2.2
  have hr := B.returns
  have hlocks := B.notSynchronized
  subst hsz
  have hDs : ∀ σ, va_D (AW ad 42 s.heap.size) ((wdC ad cI cJ) σ) := fun σ => wdC_D hap σ
  have hS : va_S (AW ad 42 s.heap.size) s.heap s.heap [] := va_S.rf
  have iw_X0 : ∀ w ∈ u_ws RX0 TX0 6, w ∈ wsX4_figure := by decide +kernel
  have iw_X1 : ∀ w ∈ u_ws RX1 TX1 8, w ∈ wsX4_figure := by decide +kernel
  have iw_X4 : ∀ w ∈ u_ws RX4 TX4 14, w ∈ wsX4_figure := by decide +kernel
  have iw_X6 : ∀ w ∈ u_ws RX6 TX6 10, w ∈ wsX4_figure := by decide +kernel
  have f_f102 := hts (.fieldLink RX4 102 "TokenFloor$Machine" "clashAct" "I") (by decide +kernel)
  have f_f12 := hts (.fieldLink RX4 12 "TokenFloor$Machine" "store" "LTokenFloor$Store;") (by decide +kernel)
  have f_f29 := hts (.fieldLink RX4 29 "TokenFloor$Machine" "colours" "LTokenFloor$Colours;") (by decide +kernel)
  have f_f36 := hts (.fieldLink RX4 36 "TokenFloor$Machine" "floor" "LTokenFloor$Floor;") (by decide +kernel)
  have f_f43 := hts (.fieldLink RX4 43 "TokenFloor$Machine" "ready" "LTokenFloor$ReadyRow;") (by decide +kernel)
  have f_f71 := hts (.fieldLink RX4 71 "TokenFloor$Machine" "steps" "I") (by decide +kernel)
  have f_f75 := hts (.fieldLink RX4 75 "TokenFloor$Machine" "most" "I") (by decide +kernel)
  have f_f78 := hts (.fieldLink RX4 78 "TokenFloor$Machine" "how" "I") (by decide +kernel)
  have f_f84 := hts (.fieldLink RX4 84 "TokenFloor$Machine" "tickCount" "I") (by decide +kernel)
  have f_f87 := hts (.fieldLink RX4 87 "TokenFloor$Floor" "left" "I") (by decide +kernel)
  have f_f90 := hts (.fieldLink RX4 90 "TokenFloor$Store" "waiting" "I") (by decide +kernel)
  have f_f93 := hts (.fieldLink RX4 93 "TokenFloor$Machine" "lost" "I") (by decide +kernel)
  have f_f96 := hts (.fieldLink RX4 96 "TokenFloor$Machine" "strays" "I") (by decide +kernel)
  have f_f99 := hts (.fieldLink RX4 99 "TokenFloor$Colours" "count" "I") (by decide +kernel)
  have hl := lv_entry ([.ref (ad 2), .int a1]) (n := 2) (Nat.le_of_ble_eq_true rfl)
  rw [lg_entry_eq]
  generalize (lg_sl ([.ref (ad 2), .int a1]) ++ List.replicate (2 - (lg_sl ([.ref (ad 2), .int a1])).length) Slot.unset).toArray = ls at hl ⊢
  have hl : lv_has ls 2 [(0, .ref (ad 2)), (1, .int a1)] := hl
  have key : ∀ (H : Heap), va_P D vwCl ((wdC ad cI cJ) σ) H → va_S (AW ad 42 s.heap.size) s.heap H [] → W p l e (headSpec wsX4_figure rm_X4_figure).room s m ([.ref (ad 2), .int a1] : List Value).toArray below meth c H [] 0 0 (MQ below (va_Qi K (inW D (wdC ad cI cJ) [(cI, .int), (cJ, .long)]) (AW ad 42 s.heap.size)) ([.ref (ad 2), .int a1] : List Value).toArray s 0 0 (AW ad 42 s.heap.size)) (F0 m 0 ls []) := by
    intro H hP hS
    unfold w_X4_figure at hw
    refine lv_iload_n hx hb dX4_figure_0 rfl (lv_at hl 1 rfl) ?_
    by_cases k_1 : a1 = 0
    · have hw := hw.1 k_1
      refine sw_in 0 (tgt := 60) F dX4_figure_1 k_1 (by decide) (by decide) rfl (by decide) ?_
      refine lv_aload_n hx hb dX4_figure_60 rfl (lv_at hl 0 rfl) ?_
      refine gC_X4_how F hK iw_X4 hP f_f78 dX4_figure_61 ?_
      refine W.eq (g2 := F0 m 64 ls [.int (gS σ 4)]) rfl ?_
      exact rtI F hr hlocks hK hw hP hS dX4_figure_64
    · have hw := hw.2 k_1
      by_cases k_2 : a1 = 1
      · have hw := hw.1 k_2
        refine sw_in 1 (tgt := 65) F dX4_figure_1 k_2 (by decide) (by decide) rfl (by decide) ?_
        refine lv_aload_n hx hb dX4_figure_65 rfl (lv_at hl 0 rfl) ?_
        refine gC_X4_steps F hK iw_X4 hP f_f71 dX4_figure_66 ?_
        refine W.eq (g2 := F0 m 69 ls [.int (gS σ 5)]) rfl ?_
        exact rtI F hr hlocks hK hw hP hS dX4_figure_69
      · have hw := hw.2 k_2
        by_cases k_3 : a1 = 2
        · have hw := hw.1 k_3
          refine sw_in 2 (tgt := 70) F dX4_figure_1 k_3 (by decide) (by decide) rfl (by decide) ?_
          refine lv_aload_n hx hb dX4_figure_70 rfl (lv_at hl 0 rfl) ?_
          refine gC_X4_tickCount F hK iw_X4 hP f_f84 dX4_figure_71 ?_
          refine W.eq (g2 := F0 m 74 ls [.int (gS σ 6)]) rfl ?_
          exact rtI F hr hlocks hK hw hP hS dX4_figure_74
        · have hw := hw.2 k_3
          by_cases k_4 : a1 = 3
          · have hw := hw.1 k_4
            refine sw_in 3 (tgt := 75) F dX4_figure_1 k_4 (by decide) (by decide) rfl (by decide) ?_
            refine lv_aload_n hx hb dX4_figure_75 rfl (lv_at hl 0 rfl) ?_
            refine gC_X4_most F hK iw_X4 hP f_f75 dX4_figure_76 ?_
            refine W.eq (g2 := F0 m 79 ls [.int (gS σ 7)]) rfl ?_
            exact rtI F hr hlocks hK hw hP hS dX4_figure_79
          · have hw := hw.2 k_4
            by_cases k_5 : a1 = 4
            · have hw := hw.1 k_5
              refine sw_in 4 (tgt := 80) F dX4_figure_1 k_5 (by decide) (by decide) rfl (by decide) ?_
              refine lv_aload_n hx hb dX4_figure_80 rfl (lv_at hl 0 rfl) ?_
              refine gC_X4_floor F hK iw_X4 hP f_f36 dX4_figure_81 ?_
              refine gC_X1_left F hK iw_X1 hP f_f87 dX4_figure_84 ?_
              refine W.eq (g2 := F0 m 87 ls [.int (gS σ 15)]) rfl ?_
              exact rtI F hr hlocks hK hw hP hS dX4_figure_87
            · have hw := hw.2 k_5
              by_cases k_6 : a1 = 5
              · have hw := hw.1 k_6
                refine sw_in 5 (tgt := 88) F dX4_figure_1 k_6 (by decide) (by decide) rfl (by decide) ?_
                refine lv_aload_n hx hb dX4_figure_88 rfl (lv_at hl 0 rfl) ?_
                refine gC_X4_store F hK iw_X4 hP f_f12 dX4_figure_89 ?_
                refine gC_X6_waiting F hK iw_X6 hP f_f90 dX4_figure_92 ?_
                refine W.eq (g2 := F0 m 95 ls [.int (gS σ 11)]) rfl ?_
                exact rtI F hr hlocks hK hw hP hS dX4_figure_95
              · have hw := hw.2 k_6
                by_cases k_7 : a1 = 6
                · have hw := hw.1 k_7
                  refine sw_in 6 (tgt := 96) F dX4_figure_1 k_7 (by decide) (by decide) rfl (by decide) ?_
                  refine lv_aload_n hx hb dX4_figure_96 rfl (lv_at hl 0 rfl) ?_
                  refine gC_X4_lost F hK iw_X4 hP f_f93 dX4_figure_97 ?_
                  refine W.eq (g2 := F0 m 100 ls [.int (gS σ 8)]) rfl ?_
                  exact rtI F hr hlocks hK hw hP hS dX4_figure_100
                · have hw := hw.2 k_7
                  by_cases k_8 : a1 = 7
                  · have hw := hw.1 k_8
                    refine sw_in 7 (tgt := 101) F dX4_figure_1 k_8 (by decide) (by decide) rfl (by decide) ?_
                    refine lv_aload_n hx hb dX4_figure_101 rfl (lv_at hl 0 rfl) ?_
                    refine gC_X4_strays F hK iw_X4 hP f_f96 dX4_figure_102 ?_
                    refine W.eq (g2 := F0 m 105 ls [.int (gS σ 9)]) rfl ?_
                    exact rtI F hr hlocks hK hw hP hS dX4_figure_105
                  · have hw := hw.2 k_8
                    by_cases k_9 : a1 = 8
                    · have hw := hw.1 k_9
                      refine sw_in 8 (tgt := 106) F dX4_figure_1 k_9 (by decide) (by decide) rfl (by decide) ?_
                      refine lv_aload_n hx hb dX4_figure_106 rfl (lv_at hl 0 rfl) ?_
                      refine gC_X4_colours F hK iw_X4 hP f_f29 dX4_figure_107 ?_
                      refine gC_X0_count F hK iw_X0 hP f_f99 dX4_figure_110 ?_
                      refine W.eq (g2 := F0 m 113 ls [.int (gS σ 14)]) rfl ?_
                      exact rtI F hr hlocks hK hw hP hS dX4_figure_113
                    · have hw := hw.2 k_9
                      by_cases k_10 : a1 = 9
                      · have hw := hw.1 k_10
                        refine sw_in 9 (tgt := 114) F dX4_figure_1 k_10 (by decide) (by decide) rfl (by decide) ?_
                        refine lv_aload_n hx hb dX4_figure_114 rfl (lv_at hl 0 rfl) ?_
                        refine gC_X4_clashAct F hK iw_X4 hP f_f102 dX4_figure_115 ?_
                        refine W.eq (g2 := F0 m 118 ls [.int (gS σ 10)]) rfl ?_
                        exact rtI F hr hlocks hK hw hP hS dX4_figure_118
                      · have hw := hw.2 k_10
                        by_cases k_11 : a1 = 10
                        · have hw := hw.1 k_11
                          refine sw_in 10 (tgt := 119) F dX4_figure_1 k_11 (by decide) (by decide) rfl (by decide) ?_
                          refine lv_aload_n hx hb dX4_figure_119 rfl (lv_at hl 0 rfl) ?_
                          refine gC_X4_ready F hK iw_X4 hP f_f43 dX4_figure_120 ?_
                          refine cvI (As := []) (rest := []) F hK hP hS (c_X5_size l D ad cI cJ hap H.size _ _ hw) (cwV 0 hts gX4_figure_X5_size rfl rfl rfl (by decide +kernel) ⟨Nat.le_of_ble_eq_true rfl, Nat.le_of_ble_eq_true rfl⟩) (va_recv hK hP (ci := 4) (q0 := 6) rfl rfl) rfl hl.1 rfl (Nat.le_of_ble_eq_true rfl) dX4_figure_123 ⟨Nat.zero_le _, Nat.zero_le _⟩ (fun r_13 u_12 H locs hw hP hS => ?_)
                          exact rtI F hr hlocks hK hw hP hS dX4_figure_126
                        · have hw := hw.2 k_11
                          have z_14 : ¬ a1.toInt = 0 := lv_neT (fun z => k_1 z) (k := 0) (by decide)
                          have z_15 : ¬ a1.toInt = 1 := lv_neT (fun z => k_2 z) (k := 1) (by decide)
                          have z_16 : ¬ a1.toInt = 2 := lv_neT (fun z => k_3 z) (k := 2) (by decide)
                          have z_17 : ¬ a1.toInt = 3 := lv_neT (fun z => k_4 z) (k := 3) (by decide)
                          have z_18 : ¬ a1.toInt = 4 := lv_neT (fun z => k_5 z) (k := 4) (by decide)
                          have z_19 : ¬ a1.toInt = 5 := lv_neT (fun z => k_6 z) (k := 5) (by decide)
                          have z_20 : ¬ a1.toInt = 6 := lv_neT (fun z => k_7 z) (k := 6) (by decide)
                          have z_21 : ¬ a1.toInt = 7 := lv_neT (fun z => k_8 z) (k := 7) (by decide)
                          have z_22 : ¬ a1.toInt = 8 := lv_neT (fun z => k_9 z) (k := 8) (by decide)
                          have z_23 : ¬ a1.toInt = 9 := lv_neT (fun z => k_10 z) (k := 9) (by decide)
                          have z_24 : ¬ a1.toInt = 10 := lv_neT (fun z => k_11 z) (k := 10) (by decide)
                          have kd : W p l e (headSpec wsX4_figure rm_X4_figure).room s m ([.ref (ad 2), .int a1] : List Value).toArray below meth c H locs 0 0 (MQ below (va_Qi K (inW D (wdC ad cI cJ) [(cI, .int), (cJ, .long)]) (AW ad 42 s.heap.size)) ([.ref (ad 2), .int a1] : List Value).toArray s 0 0 (AW ad 42 s.heap.size)) (F0 m 127 ls []) := by
                            refine lv_iconst (v := (-1)) hx hb dX4_figure_127 (by decide) ?_
                            exact rtI F hr hlocks hK hw hP hS dX4_figure_128
                          rcases (show (a1.toInt < 0 ∨ 10 < a1.toInt) by omega) with o_25
                          · exact lv_tableOut hx hb dX4_figure_1 o_25 (by decide) kd
  exact key s.heap hP hS

abbrev rm_X8_actOf : Room := { frames := 0, cells := 0, slots := 0, locals := 0 }
set_option maxHeartbeats 4000000 in
set_option maxRecDepth 100000 in
theorem c_X8_actOf (l : Launch) (D : va_G) (ad : Nat → Nat) (cI cJ : ClassId) (hap : apart ad 42) (sz : Nat) (σ : St) (a1 : Int64) (K : Int32 → St → Prop) (hw : w_X8_actOf σ a1 K) : Met l yX8_actOf wsX8_actOf rm_X8_actOf (va_Pc [.long a1] (fun U => U.heap.size = sz ∧ inW D (wdC ad cI cJ) [(cI, .int), (cJ, .long)] σ U)) (va_Qi K (inW D (wdC ad cI cJ) [(cI, .int), (cJ, .long)]) (AW ad 42 sz)) 0 0 (AW ad 42 sz) := by
  refine Met.ofW (cc := cX8_actOf) (maxL := 2) (ret := (some .int)) (by decide) rfl ?_
  intro p e s m args below meth c s₁ B hml hv
  obtain ⟨rfl, hsz, ⟨hP, hK⟩⟩ := hv
  have F : CallFix p m c cX8_actOf 2 s ([.long a1] : List Value).toArray wsX8_actOf RX8 := ⟨B.exec, B.bytes, hml, findClass_of_methodNamed B.named, atoms_spec (ws := wsX8_actOf) B.pre⟩
  have hx := F.1
  have hb := F.2.1
  have hown := F.2.2.2.1
  have hts := F.2.2.2.2
  have hr := B.returns
  have hlocks := B.notSynchronized
  subst hsz
  have hDs : ∀ σ, va_D (AW ad 42 s.heap.size) ((wdC ad cI cJ) σ) := fun σ => wdC_D hap σ
  have hS : va_S (AW ad 42 s.heap.size) s.heap s.heap [] := va_S.rf
  have hl := lv_entry ([.long a1]) (n := 2) (Nat.le_of_ble_eq_true rfl)
  rw [lg_entry_eq]
  generalize (lg_sl ([.long a1]) ++ List.replicate (2 - (lg_sl ([.long a1])).length) Slot.unset).toArray = ls at hl ⊢
  have hl : lv_has ls 2 [(0, .long a1)] := hl
  have key : ∀ (H : Heap), va_P D vwCl ((wdC ad cI cJ) σ) H → va_S (AW ad 42 s.heap.size) s.heap H [] → W p l e (headSpec wsX8_actOf rm_X8_actOf).room s m ([.long a1] : List Value).toArray below meth c H [] 0 0 (MQ below (va_Qi K (inW D (wdC ad cI cJ) [(cI, .int), (cJ, .long)]) (AW ad 42 s.heap.size)) ([.long a1] : List Value).toArray s 0 0 (AW ad 42 s.heap.size)) (F0 m 0 ls []) := by
    intro H hP hS
    unfold w_X8_actOf at hw
    refine lv_lload_n hx hb dX8_actOf_0 rfl (lv_at hl 0 rfl) ?_
    refine lv_bipush (v := 32) hx hb dX8_actOf_1 (by decide) ?_
    refine lv_lushr hx hb dX8_actOf_3 rfl ?_
    refine lv_l2i hx hb dX8_actOf_4 rfl ?_
    refine lv_sipush (v := 255) hx hb dX8_actOf_5 (by decide) ?_
    refine lv_iand hx hb dX8_actOf_8 ?_
    exact rtI F hr hlocks hK hw hP hS dX8_actOf_9
  exact key s.heap hP hS

abbrev rm_X4_describe : Room := { frames := 1, cells := 0, slots := 0, locals := 21 }
set_option maxHeartbeats 4000000 in
set_option maxRecDepth 100000 in
theorem c_X4_describe (l : Launch) (D : va_G) (ad : Nat → Nat) (cI cJ : ClassId) (hap : apart ad 42) (sz : Nat) (σ : St) (a1 : Int64) (a2 : Int32) (K : Int32 → St → Prop) (hw : w_X4_describe σ a1 a2 K) : Met l yX4_describe wsX4_describe rm_X4_describe (va_Pc [.ref (ad 2), .long a1, .int a2] (fun U => U.heap.size = sz ∧ inW D (wdC ad cI cJ) [(cI, .int), (cJ, .long)] σ U)) (va_Qi K (inW D (wdC ad cI cJ) [(cI, .int), (cJ, .long)]) (AW ad 42 sz)) 0 0 (AW ad 42 sz) := by
  refine Met.ofW (cc := cX4_describe) (maxL := 6) (ret := (some .int)) (by decide) rfl ?_
  intro p e s m args below meth c s₁ B hml hv
  obtain ⟨rfl, hsz, ⟨hP, hK⟩⟩ := hv
  have F : CallFix p m c cX4_describe 6 s ([.ref (ad 2), .long a1, .int a2] : List Value).toArray wsX4_describe RX4 := ⟨B.exec, B.bytes, hml, findClass_of_methodNamed B.named, atoms_spec (ws := wsX4_describe) B.pre⟩
  have hx := F.1
  have hb := F.2.1
  have hown := F.2.2.2.1
  have hts := F.2.2.2.2
  have hr := B.returns
  have hlocks := B.notSynchronized
  subst hsz
  have hDs : ∀ σ, va_D (AW ad 42 s.heap.size) ((wdC ad cI cJ) σ) := fun σ => wdC_D hap σ
  have hS : va_S (AW ad 42 s.heap.size) s.heap s.heap [] := va_S.rf
  have iw_X4 : ∀ w ∈ u_ws RX4 TX4 14, w ∈ wsX4_describe := by decide +kernel
  have f_f12 := hts (.fieldLink RX4 12 "TokenFloor$Machine" "store" "LTokenFloor$Store;") (by decide +kernel)
  have hl := lv_entry ([.ref (ad 2), .long a1, .int a2]) (n := 6) (Nat.le_of_ble_eq_true rfl)
  rw [lg_entry_eq]
  generalize (lg_sl ([.ref (ad 2), .long a1, .int a2]) ++ List.replicate (6 - (lg_sl ([.ref (ad 2), .long a1, .int a2])).length) Slot.unset).toArray = ls at hl ⊢
  have hl : lv_has ls 6 [(0, .ref (ad 2)), (1, .long a1), (3, .int a2)] := hl
  have key : ∀ (H : Heap), va_P D vwCl ((wdC ad cI cJ) σ) H → va_S (AW ad 42 s.heap.size) s.heap H [] → W p l e (headSpec wsX4_describe rm_X4_describe).room s m ([.ref (ad 2), .long a1, .int a2] : List Value).toArray below meth c H [] 0 0 (MQ below (va_Qi K (inW D (wdC ad cI cJ) [(cI, .int), (cJ, .long)]) (AW ad 42 s.heap.size)) ([.ref (ad 2), .long a1, .int a2] : List Value).toArray s 0 0 (AW ad 42 s.heap.size)) (F0 m 0 ls []) := by
    intro H hP hS
    unfold w_X4_describe at hw
    refine lv_lload_n hx hb dX4_describe_0 rfl (lv_at hl 1 rfl) ?_
    refine csI (As := [.long a1]) (rest := []) F hK hP hS (c_X8_sortOf l D ad cI cJ hap H.size _ _ _ hw) (va_cwS 1 hts gX4_describe_X8_sortOf rfl rfl rfl (by decide +kernel) ⟨Nat.le_of_ble_eq_true rfl, Nat.le_of_ble_eq_true rfl⟩) rfl hl.1 rfl (Nat.le_of_ble_eq_true rfl) dX4_describe_1 ⟨Nat.zero_le _, Nat.zero_le _⟩ (fun r_2 u_1 H locs hw hP hS => ?_)
    refine lv_istore (lv' := [(4, .int r_2), (0, .ref (ad 2)), (1, .long a1), (3, .int a2)]) hx hb dX4_describe_4 hl (by decide) rfl (fun ls hl => ?_)
    refine lv_iload_n hx hb dX4_describe_6 rfl (lv_at hl 3 rfl) ?_
    by_cases k_3 : a2 = 0
    · have hw := hw.1 k_3
      refine sw_in 0 (tgt := 32) F dX4_describe_7 k_3 (by decide) (by decide) rfl (by decide) ?_
      refine lv_iload hx hb dX4_describe_32 (lv_at hl 0 rfl) ?_
      exact rtI F hr hlocks hK hw hP hS dX4_describe_34
    · have hw := hw.2 k_3
      by_cases k_4 : a2 = 1
      · have hw := hw.1 k_4
        refine sw_in 1 (tgt := 35) F dX4_describe_7 k_4 (by decide) (by decide) rfl (by decide) ?_
        refine lv_lload_n hx hb dX4_describe_35 rfl (lv_at hl 2 rfl) ?_
        refine lv_lconst (v := 0) hx hb dX4_describe_36 (by decide) ?_
        refine W.lcmp hx hb dX4_describe_37 ?_
        refine lv_if_ne (tgt := 43) hx hb dX4_describe_38 (by decide) (fun c_10 => ?_) (fun c_10 => ?_)
        · have hw := hw.1 c_10
          refine lv_lload_n hx hb dX4_describe_43 rfl (lv_at hl 2 rfl) ?_
          refine csI (As := [.long a1]) (rest := []) F hK hP hS (c_X8_contentOf l D ad cI cJ hap H.size _ _ _ hw) (va_cwS 1 hts gX4_describe_X8_contentOf rfl rfl rfl (by decide +kernel) ⟨Nat.le_of_ble_eq_true rfl, Nat.le_of_ble_eq_true rfl⟩) rfl hl.1 rfl (Nat.le_of_ble_eq_true rfl) dX4_describe_44 ⟨Nat.zero_le _, Nat.zero_le _⟩ (fun r_6 u_5 H locs hw hP hS => ?_)
          refine lv_istore (lv' := [(5, .int r_6), (4, .int r_2), (0, .ref (ad 2)), (1, .long a1), (3, .int a2)]) hx hb dX4_describe_47 hl (by decide) rfl (fun ls hl => ?_)
          refine lv_iload hx hb dX4_describe_49 (lv_at hl 1 rfl) ?_
          refine lv_iconst (v := 2) hx hb dX4_describe_51 (by decide) ?_
          refine lv_icmp_ne (tgt := 67) hx hb dX4_describe_52 (by decide) (fun c_9 => ?_) (fun c_9 => ?_)
          · have hw := hw.1 c_9
            refine lv_iload hx hb dX4_describe_67 (lv_at hl 0 rfl) ?_
            exact rtI F hr hlocks hK hw hP hS dX4_describe_69
          · have hw := hw.2 c_9
            refine lv_aload_n hx hb dX4_describe_55 rfl (lv_at hl 2 rfl) ?_
            refine gC_X4_store F hK iw_X4 hP f_f12 dX4_describe_56 ?_
            refine lv_iload hx hb dX4_describe_59 (lv_at hl 0 rfl) ?_
            refine cvI (As := [.int r_6]) (rest := []) F hK hP hS (c_X6_sizeOf l D ad cI cJ hap H.size _ _ _ hw) (cwV 1 hts gX4_describe_X6_sizeOf rfl rfl rfl (by decide +kernel) ⟨Nat.le_of_ble_eq_true rfl, Nat.le_of_ble_eq_true rfl⟩) (va_recv hK hP (ci := 5) (q0 := 3) rfl rfl) rfl hl.1 rfl (Nat.le_of_ble_eq_true rfl) dX4_describe_61 ⟨Nat.zero_le _, Nat.zero_le _⟩ (fun r_8 u_7 H locs hw hP hS => ?_)
            refine lv_goto (tgt := 69) hx hb dX4_describe_64 (by decide) ?_
            exact rtI F hr hlocks hK hw hP hS dX4_describe_69
        · have hw := hw.2 c_10
          refine lv_iconst (v := (-1)) hx hb dX4_describe_41 (by decide) ?_
          exact rtI F hr hlocks hK hw hP hS dX4_describe_42
      · have hw := hw.2 k_4
        by_cases k_11 : a2 = 2
        · have hw := hw.1 k_11
          refine sw_in 2 (tgt := 70) F dX4_describe_7 k_11 (by decide) (by decide) rfl (by decide) ?_
          refine lv_iload hx hb dX4_describe_70 (lv_at hl 0 rfl) ?_
          refine lv_iconst (v := 3) hx hb dX4_describe_72 (by decide) ?_
          refine lv_icmp_ne (tgt := 83) hx hb dX4_describe_73 (by decide) (fun c_14 => ?_) (fun c_14 => ?_)
          · have hw := hw.1 c_14
            refine lv_iconst (v := (-1)) hx hb dX4_describe_83 (by decide) ?_
            exact rtI F hr hlocks hK hw hP hS dX4_describe_84
          · have hw := hw.2 c_14
            refine lv_lload_n hx hb dX4_describe_76 rfl (lv_at hl 2 rfl) ?_
            refine csI (As := [.long a1]) (rest := []) F hK hP hS (c_X8_actOf l D ad cI cJ hap H.size _ _ _ hw) (va_cwS 1 hts gX4_describe_X8_actOf rfl rfl rfl (by decide +kernel) ⟨Nat.le_of_ble_eq_true rfl, Nat.le_of_ble_eq_true rfl⟩) rfl hl.1 rfl (Nat.le_of_ble_eq_true rfl) dX4_describe_77 ⟨Nat.zero_le _, Nat.zero_le _⟩ (fun r_13 u_12 H locs hw hP hS => ?_)
            refine lv_goto (tgt := 84) hx hb dX4_describe_80 (by decide) ?_
            exact rtI F hr hlocks hK hw hP hS dX4_describe_84
        · have hw := hw.2 k_11
          have z_15 : ¬ a2.toInt = 0 := lv_neT (fun z => k_3 z) (k := 0) (by decide)
          have z_16 : ¬ a2.toInt = 1 := lv_neT (fun z => k_4 z) (k := 1) (by decide)
          have z_17 : ¬ a2.toInt = 2 := lv_neT (fun z => k_11 z) (k := 2) (by decide)
          have kd : W p l e (headSpec wsX4_describe rm_X4_describe).room s m ([.ref (ad 2), .long a1, .int a2] : List Value).toArray below meth c H locs 0 0 (MQ below (va_Qi K (inW D (wdC ad cI cJ) [(cI, .int), (cJ, .long)]) (AW ad 42 s.heap.size)) ([.ref (ad 2), .long a1, .int a2] : List Value).toArray s 0 0 (AW ad 42 s.heap.size)) (F0 m 85 ls []) := by
            refine lv_iconst (v := (-1)) hx hb dX4_describe_85 (by decide) ?_
            exact rtI F hr hlocks hK hw hP hS dX4_describe_86
          rcases (show (a2.toInt < 0 ∨ 2 < a2.toInt) by omega) with o_18
          · exact lv_tableOut hx hb dX4_describe_7 o_18 (by decide) kd
  exact key s.heap hP hS
