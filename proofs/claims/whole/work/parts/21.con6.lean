abbrev rm_X7_ofTwo : Room := { frames := 2, cells := 0, slots := 0, locals := 48 }
set_option maxHeartbeats 4000000 in
set_option maxRecDepth 100000 in
theorem c_X7_ofTwo (l : Launch) (D : va_G) (ad : Nat → Nat) (cI cJ : ClassId) (hap : apart ad 42) (sz : Nat) (σ : St) (a1 : Int32) (a2 : Int32) (a3 : Int64) (a4 : Int64) (K : Int64 → St → Prop) (hw : w_X7_ofTwo σ a1 a2 a3 a4 K) : Met l yX7_ofTwo wU_X7_ofTwo rm_X7_ofTwo (va_Pc [.int a1, .int a2, .long a3, .long a4] (fun U => U.heap.size = sz ∧ inW D (wdC ad cI cJ) [(cI, .int), (cJ, .long)] σ U)) (va_Ql K (inW D (wdC ad cI cJ) [(cI, .int), (cJ, .long)]) (AW ad 42 sz)) 0 0 (AW ad 42 sz) := by
  refine Met.ofW (cc := cX7_ofTwo) (maxL := 11) (ret := (some .long)) (by decide) rfl ?_
  intro p e s m args below meth c s₁ B hml hv
  obtain ⟨rfl, hsz, ⟨hP, hK⟩⟩ := hv
  have F : CallFix p m c cX7_ofTwo 11 s ([.int a1, .int a2, .long a3, .long a4] : List Value).toArray lw_U RX7 := ⟨B.exec, B.bytes, hml, findClass_of_methodNamed B.named, fun w h => atoms_spec (ws := wU_X7_ofTwo) B.pre w (List.mem_cons_of_mem _ h)⟩
  have hx := F.1
  have hb := F.2.1
  have hown := F.2.2.2.1
  have hts := F.2.2.2.2
  have hr := B.returns
  have hlocks := B.notSynchronized
  subst hsz
  have hDs : ∀ σ, va_D (AW ad 42 s.heap.size) ((wdC ad cI cJ) σ) := fun σ => wdC_D hap σ
  have hS : va_S (AW ad 42 s.heap.size) s.heap s.heap [] := va_S.rf
  have lab_14 : ∀ (σ : St) (x0 : Int32) (x1 : Int32) (x2 : Int64) (x4 : Int64) (t0 : Int32) (H : Heap) (locs : List Loc) (ls : Array Slot), b_X7_ofTwo_14 K σ x0 x1 x2 x4 t0 → va_P D vwCl ((wdC ad cI cJ) σ) H → va_S (AW ad 42 s.heap.size) s.heap H locs → lv_has ls 11 [(0, .int x0), (1, .int x1), (2, .long x2), (4, .long x4)] → W p l e (headSpec wU_X7_ofTwo rm_X7_ofTwo).room s m ([.int a1, .int a2, .long a3, .long a4] : List Value).toArray below meth c H locs 0 0 (MQ below (va_Ql K (inW D (wdC ad cI cJ) [(cI, .int), (cJ, .long)]) (AW ad 42 s.heap.size)) ([.int a1, .int a2, .long a3, .long a4] : List Value).toArray s 0 0 (AW ad 42 s.heap.size)) (F0 m 14 ls [.int t0]) := by
    intro σ x0 x1 x2 x4 t0 H locs ls hw hP hS hl
    unfold b_X7_ofTwo_14 at hw
    refine lv_istore (lv' := [(6, .int t0), (0, .int x0), (1, .int x1), (2, .long x2), (4, .long x4)]) hx hb dX7_ofTwo_14 hl (by decide) rfl (fun ls hl => ?_)
    refine lv_iload_n hx hb dX7_ofTwo_16 rfl (lv_at hl 2 rfl) ?_
    refine lv_lload_n hx hb dX7_ofTwo_17 rfl (lv_at hl 3 rfl) ?_
    refine lv_iload hx hb dX7_ofTwo_18 (lv_at hl 0 rfl) ?_
    refine lv_lload hx hb dX7_ofTwo_20 (lv_at hl 4 rfl) ?_
    refine lv_iload hx hb dX7_ofTwo_22 (lv_at hl 0 rfl) ?_
    refine csL (As := [.int x1, .long x2, .int t0, .long x4, .int t0]) (rest := []) F hK hP hS (c_X8_refuseTwo l D ad cI cJ hap H.size _ _ _ _ _ _ _ hw) (va_cwS 5 hts gU_X7_15 rfl rfl rfl (by decide +kernel) ⟨Nat.le_of_ble_eq_true rfl, Nat.le_of_ble_eq_true rfl⟩) rfl hl.1 rfl (Nat.le_of_ble_eq_true rfl) dX7_ofTwo_24 ⟨Nat.zero_le _, Nat.zero_le _⟩ (fun r_2 u_1 H locs hw hP hS => ?_)
    refine lv_lstore (lv' := [(7, .long r_2), (6, .int t0), (0, .int x0), (1, .int x1), (2, .long x2), (4, .long x4)]) hx hb dX7_ofTwo_27 hl (by decide) rfl (fun ls hl => ?_)
    refine lv_lload hx hb dX7_ofTwo_29 (lv_at hl 0 rfl) ?_
    refine lv_lconst (v := 0) hx hb dX7_ofTwo_31 (by decide) ?_
    refine W.lcmp hx hb dX7_ofTwo_32 ?_
    refine lv_if_eq (tgt := 39) hx hb dX7_ofTwo_33 (by decide) (fun c_54 => ?_) (fun c_54 => ?_)
    · have hw := hw.1 c_54
      refine lv_lload_n hx hb dX7_ofTwo_39 rfl (lv_at hl 4 rfl) ?_
      refine csI (As := [.long x2]) (rest := []) F hK hP hS (c_X8_contentOf l D ad cI cJ hap H.size _ _ _ hw) (va_cwS 1 hts gU_X7_19 rfl rfl rfl (by decide +kernel) ⟨Nat.le_of_ble_eq_true rfl, Nat.le_of_ble_eq_true rfl⟩) rfl hl.1 rfl (Nat.le_of_ble_eq_true rfl) dX7_ofTwo_40 ⟨Nat.zero_le _, Nat.zero_le _⟩ (fun r_4 u_3 H locs hw hP hS => ?_)
      refine lv_istore (lv' := [(9, .int r_4), (7, .long r_2), (6, .int t0), (0, .int x0), (1, .int x1), (2, .long x2), (4, .long x4)]) hx hb dX7_ofTwo_43 hl (by decide) rfl (fun ls hl => ?_)
      refine lv_lload hx hb dX7_ofTwo_45 (lv_at hl 6 rfl) ?_
      refine csI (As := [.long x4]) (rest := []) F hK hP hS (c_X8_contentOf l D ad cI cJ hap H.size _ _ _ hw) (va_cwS 1 hts gU_X7_19 rfl rfl rfl (by decide +kernel) ⟨Nat.le_of_ble_eq_true rfl, Nat.le_of_ble_eq_true rfl⟩) rfl hl.1 rfl (Nat.le_of_ble_eq_true rfl) dX7_ofTwo_47 ⟨Nat.zero_le _, Nat.zero_le _⟩ (fun r_6 u_5 H locs hw hP hS => ?_)
      refine lv_istore (lv' := [(10, .int r_6), (9, .int r_4), (7, .long r_2), (6, .int t0), (0, .int x0), (1, .int x1), (2, .long x2), (4, .long x4)]) hx hb dX7_ofTwo_50 hl (by decide) rfl (fun ls hl => ?_)
      refine lv_iload_n hx hb dX7_ofTwo_52 rfl (lv_at hl 4 rfl) ?_
      by_cases k_7 : x0 = 2
      · have hw := hw.1 k_7
        refine sw_in 2 (tgt := 92) F dX7_ofTwo_53 k_7 (by decide) (by decide) rfl (by decide) ?_
        refine lv_iload hx hb dX7_ofTwo_92 (lv_at hl 1 rfl) ?_
        refine lv_iload hx hb dX7_ofTwo_94 (lv_at hl 0 rfl) ?_
        refine lv_iadd hx hb dX7_ofTwo_96 ?_
        refine csL (As := [.int (r_4 + r_6)]) (rest := []) F hK hP hS (c_X8_ofNumber l D ad cI cJ hap H.size _ _ _ hw) (va_cwS 1 hts gU_X7_22 rfl rfl rfl (by decide +kernel) ⟨Nat.le_of_ble_eq_true rfl, Nat.le_of_ble_eq_true rfl⟩) rfl hl.1 rfl (Nat.le_of_ble_eq_true rfl) dX7_ofTwo_97 ⟨Nat.zero_le _, Nat.zero_le _⟩ (fun r_9 u_8 H locs hw hP hS => ?_)
        exact rtL F hr hlocks hK hw hP hS dX7_ofTwo_100
      · have hw := hw.2 k_7
        by_cases k_10 : x0 = 3
        · have hw := hw.1 k_10
          refine sw_in 3 (tgt := 101) F dX7_ofTwo_53 k_10 (by decide) (by decide) rfl (by decide) ?_
          refine lv_iload hx hb dX7_ofTwo_101 (lv_at hl 1 rfl) ?_
          refine lv_iload hx hb dX7_ofTwo_103 (lv_at hl 0 rfl) ?_
          refine lv_isub hx hb dX7_ofTwo_105 ?_
          refine csL (As := [.int (r_4 - r_6)]) (rest := []) F hK hP hS (c_X8_ofNumber l D ad cI cJ hap H.size _ _ _ hw) (va_cwS 1 hts gU_X7_22 rfl rfl rfl (by decide +kernel) ⟨Nat.le_of_ble_eq_true rfl, Nat.le_of_ble_eq_true rfl⟩) rfl hl.1 rfl (Nat.le_of_ble_eq_true rfl) dX7_ofTwo_106 ⟨Nat.zero_le _, Nat.zero_le _⟩ (fun r_12 u_11 H locs hw hP hS => ?_)
          exact rtL F hr hlocks hK hw hP hS dX7_ofTwo_109
        · have hw := hw.2 k_10
          by_cases k_13 : x0 = 4
          · have hw := hw.1 k_13
            refine sw_in 4 (tgt := 110) F dX7_ofTwo_53 k_13 (by decide) (by decide) rfl (by decide) ?_
            refine lv_iload hx hb dX7_ofTwo_110 (lv_at hl 1 rfl) ?_
            refine lv_iload hx hb dX7_ofTwo_112 (lv_at hl 0 rfl) ?_
            refine lv_imul hx hb dX7_ofTwo_114 ?_
            refine csL (As := [.int (r_4 * r_6)]) (rest := []) F hK hP hS (c_X8_ofNumber l D ad cI cJ hap H.size _ _ _ hw) (va_cwS 1 hts gU_X7_22 rfl rfl rfl (by decide +kernel) ⟨Nat.le_of_ble_eq_true rfl, Nat.le_of_ble_eq_true rfl⟩) rfl hl.1 rfl (Nat.le_of_ble_eq_true rfl) dX7_ofTwo_115 ⟨Nat.zero_le _, Nat.zero_le _⟩ (fun r_15 u_14 H locs hw hP hS => ?_)
            exact rtL F hr hlocks hK hw hP hS dX7_ofTwo_118
          · have hw := hw.2 k_13
            by_cases k_16 : x0 = 5
            · have hw := hw.1 k_16
              refine sw_in 5 (tgt := 119) F dX7_ofTwo_53 k_16 (by decide) (by decide) rfl (by decide) ?_
              refine lv_iload hx hb dX7_ofTwo_119 (lv_at hl 0 rfl) ?_
              refine lv_if_ne (tgt := 132) hx hb dX7_ofTwo_121 (by decide) (fun c_22 => ?_) (fun c_22 => ?_)
              · have hw := hw.1 c_22
                refine lv_iload hx hb dX7_ofTwo_132 (lv_at hl 1 rfl) ?_
                refine lv_iload hx hb dX7_ofTwo_134 (lv_at hl 0 rfl) ?_
                obtain ⟨h_19, hw⟩ := hw
                refine lv_idiv hx hb dX7_ofTwo_136 h_19 ?_
                refine csL (As := [.int (r_4 / r_6)]) (rest := []) F hK hP hS (c_X8_ofNumber l D ad cI cJ hap H.size _ _ _ hw) (va_cwS 1 hts gU_X7_22 rfl rfl rfl (by decide +kernel) ⟨Nat.le_of_ble_eq_true rfl, Nat.le_of_ble_eq_true rfl⟩) rfl hl.1 rfl (Nat.le_of_ble_eq_true rfl) dX7_ofTwo_137 ⟨Nat.zero_le _, Nat.zero_le _⟩ (fun r_18 u_17 H locs hw hP hS => ?_)
                exact rtL F hr hlocks hK hw hP hS dX7_ofTwo_140
              · have hw := hw.2 c_22
                refine lv_iconst (v := 1) hx hb dX7_ofTwo_124 (by decide) ?_
                refine lv_iload_n hx hb dX7_ofTwo_125 rfl (lv_at hl 5 rfl) ?_
                refine csL (As := [.int 1, .int x1]) (rest := []) F hK hP hS (c_X8_ofFault l D ad cI cJ hap H.size _ _ _ _ hw) (va_cwS 2 hts gU_X7_26 rfl rfl rfl (by decide +kernel) ⟨Nat.le_of_ble_eq_true rfl, Nat.le_of_ble_eq_true rfl⟩) rfl hl.1 rfl (Nat.le_of_ble_eq_true rfl) dX7_ofTwo_126 ⟨Nat.zero_le _, Nat.zero_le _⟩ (fun r_21 u_20 H locs hw hP hS => ?_)
                refine lv_goto (tgt := 140) hx hb dX7_ofTwo_129 (by decide) ?_
                exact rtL F hr hlocks hK hw hP hS dX7_ofTwo_140
            · have hw := hw.2 k_16
              by_cases k_23 : x0 = 6
              · have hw := hw.1 k_23
                refine sw_in 6 (tgt := 141) F dX7_ofTwo_53 k_23 (by decide) (by decide) rfl (by decide) ?_
                refine lv_iload hx hb dX7_ofTwo_141 (lv_at hl 0 rfl) ?_
                refine lv_if_ne (tgt := 154) hx hb dX7_ofTwo_143 (by decide) (fun c_29 => ?_) (fun c_29 => ?_)
                · have hw := hw.1 c_29
                  refine lv_iload hx hb dX7_ofTwo_154 (lv_at hl 1 rfl) ?_
                  refine lv_iload hx hb dX7_ofTwo_156 (lv_at hl 0 rfl) ?_
                  obtain ⟨h_26, hw⟩ := hw
                  refine lv_irem hx hb dX7_ofTwo_158 h_26 ?_
                  refine csL (As := [.int (r_4 - r_4 / r_6 * r_6)]) (rest := []) F hK hP hS (c_X8_ofNumber l D ad cI cJ hap H.size _ _ _ hw) (va_cwS 1 hts gU_X7_22 rfl rfl rfl (by decide +kernel) ⟨Nat.le_of_ble_eq_true rfl, Nat.le_of_ble_eq_true rfl⟩) rfl hl.1 rfl (Nat.le_of_ble_eq_true rfl) dX7_ofTwo_159 ⟨Nat.zero_le _, Nat.zero_le _⟩ (fun r_25 u_24 H locs hw hP hS => ?_)
                  exact rtL F hr hlocks hK hw hP hS dX7_ofTwo_162
                · have hw := hw.2 c_29
                  refine lv_iconst (v := 1) hx hb dX7_ofTwo_146 (by decide) ?_
                  refine lv_iload_n hx hb dX7_ofTwo_147 rfl (lv_at hl 5 rfl) ?_
                  refine csL (As := [.int 1, .int x1]) (rest := []) F hK hP hS (c_X8_ofFault l D ad cI cJ hap H.size _ _ _ _ hw) (va_cwS 2 hts gU_X7_26 rfl rfl rfl (by decide +kernel) ⟨Nat.le_of_ble_eq_true rfl, Nat.le_of_ble_eq_true rfl⟩) rfl hl.1 rfl (Nat.le_of_ble_eq_true rfl) dX7_ofTwo_148 ⟨Nat.zero_le _, Nat.zero_le _⟩ (fun r_28 u_27 H locs hw hP hS => ?_)
                  refine lv_goto (tgt := 162) hx hb dX7_ofTwo_151 (by decide) ?_
                  exact rtL F hr hlocks hK hw hP hS dX7_ofTwo_162
              · have hw := hw.2 k_23
                by_cases k_30 : x0 = 7
                · have hw := hw.1 k_30
                  refine sw_in 7 (tgt := 163) F dX7_ofTwo_53 k_30 (by decide) (by decide) rfl (by decide) ?_
                  refine lv_iload hx hb dX7_ofTwo_163 (lv_at hl 1 rfl) ?_
                  refine lv_iload hx hb dX7_ofTwo_165 (lv_at hl 0 rfl) ?_
                  refine lv_icmp_ge (tgt := 174) hx hb dX7_ofTwo_167 (by decide) (fun c_35 => ?_) (fun c_35 => ?_)
                  · have hw := hw.1 c_35
                    refine lv_iconst (v := 0) hx hb dX7_ofTwo_174 (by decide) ?_
                    refine csL (As := [.int 0]) (rest := []) F hK hP hS (c_X8_ofTruth l D ad cI cJ hap H.size _ _ _ hw) (va_cwS 1 hts gU_X7_30 rfl rfl rfl (by decide +kernel) ⟨Nat.le_of_ble_eq_true rfl, Nat.le_of_ble_eq_true rfl⟩) rfl hl.1 rfl (Nat.le_of_ble_eq_true rfl) dX7_ofTwo_175 ⟨Nat.zero_le _, Nat.zero_le _⟩ (fun r_32 u_31 H locs hw hP hS => ?_)
                    exact rtL F hr hlocks hK hw hP hS dX7_ofTwo_178
                  · have hw := hw.2 c_35
                    refine lv_iconst (v := 1) hx hb dX7_ofTwo_170 (by decide) ?_
                    refine lv_goto (tgt := 175) hx hb dX7_ofTwo_171 (by decide) ?_
                    refine csL (As := [.int 1]) (rest := []) F hK hP hS (c_X8_ofTruth l D ad cI cJ hap H.size _ _ _ hw) (va_cwS 1 hts gU_X7_30 rfl rfl rfl (by decide +kernel) ⟨Nat.le_of_ble_eq_true rfl, Nat.le_of_ble_eq_true rfl⟩) rfl hl.1 rfl (Nat.le_of_ble_eq_true rfl) dX7_ofTwo_175 ⟨Nat.zero_le _, Nat.zero_le _⟩ (fun r_34 u_33 H locs hw hP hS => ?_)
                    exact rtL F hr hlocks hK hw hP hS dX7_ofTwo_178
                · have hw := hw.2 k_30
                  have z_41 : ¬ x0.toInt = 2 := lv_neT (fun z => k_7 z) (k := 2) (by decide)
                  have z_42 : ¬ x0.toInt = 3 := lv_neT (fun z => k_10 z) (k := 3) (by decide)
                  have z_43 : ¬ x0.toInt = 4 := lv_neT (fun z => k_13 z) (k := 4) (by decide)
                  have z_44 : ¬ x0.toInt = 5 := lv_neT (fun z => k_16 z) (k := 5) (by decide)
                  have z_45 : ¬ x0.toInt = 6 := lv_neT (fun z => k_23 z) (k := 6) (by decide)
                  have z_46 : ¬ x0.toInt = 7 := lv_neT (fun z => k_30 z) (k := 7) (by decide)
                  have kd : W p l e (headSpec wU_X7_ofTwo rm_X7_ofTwo).room s m ([.int a1, .int a2, .long a3, .long a4] : List Value).toArray below meth c H locs 0 0 (MQ below (va_Ql K (inW D (wdC ad cI cJ) [(cI, .int), (cJ, .long)]) (AW ad 42 s.heap.size)) ([.int a1, .int a2, .long a3, .long a4] : List Value).toArray s 0 0 (AW ad 42 s.heap.size)) (F0 m 179 ls []) := by
                    refine lv_iload hx hb dX7_ofTwo_179 (lv_at hl 1 rfl) ?_
                    refine lv_iload hx hb dX7_ofTwo_181 (lv_at hl 0 rfl) ?_
                    refine lv_icmp_ne (tgt := 190) hx hb dX7_ofTwo_183 (by decide) (fun c_40 => ?_) (fun c_40 => ?_)
                    · have hw := hw.1 c_40
                      refine lv_iconst (v := 0) hx hb dX7_ofTwo_190 (by decide) ?_
                      refine csL (As := [.int 0]) (rest := []) F hK hP hS (c_X8_ofTruth l D ad cI cJ hap H.size _ _ _ hw) (va_cwS 1 hts gU_X7_30 rfl rfl rfl (by decide +kernel) ⟨Nat.le_of_ble_eq_true rfl, Nat.le_of_ble_eq_true rfl⟩) rfl hl.1 rfl (Nat.le_of_ble_eq_true rfl) dX7_ofTwo_191 ⟨Nat.zero_le _, Nat.zero_le _⟩ (fun r_37 u_36 H locs hw hP hS => ?_)
                      exact rtL F hr hlocks hK hw hP hS dX7_ofTwo_194
                    · have hw := hw.2 c_40
                      refine lv_iconst (v := 1) hx hb dX7_ofTwo_186 (by decide) ?_
                      refine lv_goto (tgt := 191) hx hb dX7_ofTwo_187 (by decide) ?_
                      refine csL (As := [.int 1]) (rest := []) F hK hP hS (c_X8_ofTruth l D ad cI cJ hap H.size _ _ _ hw) (va_cwS 1 hts gU_X7_30 rfl rfl rfl (by decide +kernel) ⟨Nat.le_of_ble_eq_true rfl, Nat.le_of_ble_eq_true rfl⟩) rfl hl.1 rfl (Nat.le_of_ble_eq_true rfl) dX7_ofTwo_191 ⟨Nat.zero_le _, Nat.zero_le _⟩ (fun r_39 u_38 H locs hw hP hS => ?_)
                      exact rtL F hr hlocks hK hw hP hS dX7_ofTwo_194
                  rcases (show (x0.toInt < 2 ∨ 7 < x0.toInt) by omega) with o_47
                  · exact lv_tableOut (tgt := 179) hx hb dX7_ofTwo_53 o_47 (by decide) kd
    · have hw := hw.2 c_54
      refine lv_lload hx hb dX7_ofTwo_36 (lv_at hl 0 rfl) ?_
      exact rtL F hr hlocks hK hw hP hS dX7_ofTwo_38
  have hl := lv_entry ([.int a1, .int a2, .long a3, .long a4]) (n := 11) (Nat.le_of_ble_eq_true rfl)
  rw [lg_entry_eq]
  generalize (lg_sl ([.int a1, .int a2, .long a3, .long a4]) ++ List.replicate (11 - (lg_sl ([.int a1, .int a2, .long a3, .long a4])).length) Slot.unset).toArray = ls at hl ⊢
  have hl : lv_has ls 11 [(0, .int a1), (1, .int a2), (2, .long a3), (4, .long a4)] := hl
  have key : ∀ (H : Heap) (locs : List Loc), va_P D vwCl ((wdC ad cI cJ) σ) H → va_S (AW ad 42 s.heap.size) s.heap H locs → W p l e (headSpec wU_X7_ofTwo rm_X7_ofTwo).room s m ([.int a1, .int a2, .long a3, .long a4] : List Value).toArray below meth c H locs 0 0 (MQ below (va_Ql K (inW D (wdC ad cI cJ) [(cI, .int), (cJ, .long)]) (AW ad 42 s.heap.size)) ([.int a1, .int a2, .long a3, .long a4] : List Value).toArray s 0 0 (AW ad 42 s.heap.size)) (F0 m 0 ls []) := by
    intro H locs hP hS
    unfold w_X7_ofTwo at hw
    refine lv_iload_n hx hb dX7_ofTwo_0 rfl (lv_at hl 0 rfl) ?_
    refine lv_bipush (v := 8) hx hb dX7_ofTwo_1 (by decide) ?_
    refine lv_icmp_ne (tgt := 13) hx hb dX7_ofTwo_3 (by decide) (fun c_57 => ?_) (fun c_57 => ?_)
    · have hw := hw.1 c_57
      refine lv_iconst (v := 1) hx hb dX7_ofTwo_13 (by decide) ?_
      exact lab_14 _ _ _ _ _ _ _ _ _ hw hP hS (lv_sub hl [0, 1, 2, 3] rfl)
    · have hw := hw.2 c_57
      refine lv_lload_n hx hb dX7_ofTwo_6 rfl (lv_at hl 2 rfl) ?_
      refine csI (As := [.long a3]) (rest := []) F hK hP hS (c_X8_sortOf l D ad cI cJ hap H.size _ _ _ hw) (va_cwS 1 hts gU_X7_9 rfl rfl rfl (by decide +kernel) ⟨Nat.le_of_ble_eq_true rfl, Nat.le_of_ble_eq_true rfl⟩) rfl hl.1 rfl (Nat.le_of_ble_eq_true rfl) dX7_ofTwo_7 ⟨Nat.zero_le _, Nat.zero_le _⟩ (fun r_56 u_55 H locs hw hP hS => ?_)
      refine lv_goto (tgt := 14) hx hb dX7_ofTwo_10 (by decide) ?_
      exact lab_14 _ _ _ _ _ _ _ _ _ hw hP hS (lv_sub hl [0, 1, 2, 3] rfl)
  exact key s.heap [] hP hS

abbrev rm_X4_plainResult : Room := { frames := 3, cells := 0, slots := 0, locals := 78 }
set_option maxHeartbeats 4000000 in
set_option maxRecDepth 100000 in
theorem c_X4_plainResult (l : Launch) (D : va_G) (ad : Nat → Nat) (cI cJ : ClassId) (hap : apart ad 42) (sz : Nat) (σ : St) (a1 : Int32) (a2 : Int32) (a3 : Int64) (K : Int64 → St → Prop) (hw : w_X4_plainResult σ a1 a2 a3 K) : Met l yX4_plainResult wU_X4_plainResult rm_X4_plainResult (va_Pc [.ref (ad 2), .int a1, .int a2, .long a3] (fun U => U.heap.size = sz ∧ inW D (wdC ad cI cJ) [(cI, .int), (cJ, .long)] σ U)) (va_Ql K (inW D (wdC ad cI cJ) [(cI, .int), (cJ, .long)]) (AW ad 42 sz)) 0 0 (AW ad 42 sz) := by
  refine Met.ofW (cc := cX4_plainResult) (maxL := 9) (ret := (some .long)) (by decide) rfl ?_
  intro p e s m args below meth c s₁ B hml hv
  obtain ⟨rfl, hsz, ⟨hP, hK⟩⟩ := hv
  have F : CallFix p m c cX4_plainResult 9 s ([.ref (ad 2), .int a1, .int a2, .long a3] : List Value).toArray lw_U RX4 := ⟨B.exec, B.bytes, hml, findClass_of_methodNamed B.named, fun w h => atoms_spec (ws := wU_X4_plainResult) B.pre w (List.mem_cons_of_mem _ h)⟩
  have hx := F.1
  have hb := F.2.1
  have hown := F.2.2.2.1
  have hts := F.2.2.2.2
  have hr := B.returns
  have hlocks := B.notSynchronized
  subst hsz
  have hDs : ∀ σ, va_D (AW ad 42 s.heap.size) ((wdC ad cI cJ) σ) := fun σ => wdC_D hap σ
  have hS : va_S (AW ad 42 s.heap.size) s.heap s.heap [] := va_S.rf
  have hl := lv_entry ([.ref (ad 2), .int a1, .int a2, .long a3]) (n := 9) (Nat.le_of_ble_eq_true rfl)
  rw [lg_entry_eq]
  generalize (lg_sl ([.ref (ad 2), .int a1, .int a2, .long a3]) ++ List.replicate (9 - (lg_sl ([.ref (ad 2), .int a1, .int a2, .long a3])).length) Slot.unset).toArray = ls at hl ⊢
  have hl : lv_has ls 9 [(0, .ref (ad 2)), (1, .int a1), (2, .int a2), (3, .long a3)] := hl
  have key : ∀ (H : Heap) (locs : List Loc), va_P D vwCl ((wdC ad cI cJ) σ) H → va_S (AW ad 42 s.heap.size) s.heap H locs → W p l e (headSpec wU_X4_plainResult rm_X4_plainResult).room s m ([.ref (ad 2), .int a1, .int a2, .long a3] : List Value).toArray below meth c H locs 0 0 (MQ below (va_Ql K (inW D (wdC ad cI cJ) [(cI, .int), (cJ, .long)]) (AW ad 42 s.heap.size)) ([.ref (ad 2), .int a1, .int a2, .long a3] : List Value).toArray s 0 0 (AW ad 42 s.heap.size)) (F0 m 0 ls []) := by
    intro H locs hP hS
    unfold w_X4_plainResult at hw
    refine lv_aload_n hx hb dX4_plainResult_0 rfl (lv_at hl 0 rfl) ?_
    refine gC_X4_graph F hK hP (hts _ mw_92) dX4_plainResult_1 ?_
    refine gC_X2_kind F hK hP (hts _ mw_188) dX4_plainResult_4 ?_
    refine lv_iload_n hx hb dX4_plainResult_7 rfl (lv_at hl 2 rfl) ?_
    obtain ⟨i_27, hw⟩ := hw
    refine lC_X2_kind F hK hP i_27 dX4_plainResult_8 ?_
    refine lv_istore (lv' := [(5, .int (gA σ 0 (a2).toNatClampNeg)), (0, .ref (ad 2)), (1, .int a1), (2, .int a2), (3, .long a3)]) hx hb dX4_plainResult_9 hl (by decide) rfl (fun ls hl => ?_)
    refine lv_iload hx hb dX4_plainResult_11 (lv_at hl 0 rfl) ?_
    by_cases k_1 : (gA σ 0 (a2).toNatClampNeg) = 0 ∨ (gA σ 0 (a2).toNatClampNeg) = 15
    · have hw := hw.1 k_1
      have kd : W p l e (headSpec wU_X4_plainResult rm_X4_plainResult).room s m ([.ref (ad 2), .int a1, .int a2, .long a3] : List Value).toArray below meth c H locs 0 0 (MQ below (va_Ql K (inW D (wdC ad cI cJ) [(cI, .int), (cJ, .long)]) (AW ad 42 s.heap.size)) ([.ref (ad 2), .int a1, .int a2, .long a3] : List Value).toArray s 0 0 (AW ad 42 s.heap.size)) (F0 m 64 ls []) := by
        refine lv_lload_n hx hb dX4_plainResult_64 rfl (lv_at hl 4 rfl) ?_
        exact rtL F hr hlocks hK hw hP hS dX4_plainResult_65
      rcases k_1 with k_26 | k_26
      · exact lv_lookup (tgt := 64) (off := 51) hx hb dX4_plainResult_13 (by decide) (by rw [k_26]; decide) (by decide) kd
      · exact lv_lookup (tgt := 64) (off := 51) hx hb dX4_plainResult_13 (by decide) (by rw [k_26]; decide) (by decide) kd
    · have hw := hw.2 k_1
      by_cases k_2 : (gA σ 0 (a2).toNatClampNeg) = 1
      · have hw := hw.1 k_2
        refine lv_lookup (tgt := 66) (off := 53) hx hb dX4_plainResult_13 (by decide) (by rw [k_2]; decide) (by decide) ?_
        refine lv_aload_n hx hb dX4_plainResult_66 rfl (lv_at hl 1 rfl) ?_
        refine gC_X4_graph F hK hP (hts _ mw_92) dX4_plainResult_67 ?_
        refine gC_X2_number F hK hP (hts _ mw_183) dX4_plainResult_70 ?_
        refine lv_iload_n hx hb dX4_plainResult_73 rfl (lv_at hl 3 rfl) ?_
        obtain ⟨i_5, hw⟩ := hw
        refine lC_X2_number F hK hP i_5 dX4_plainResult_74 ?_
        refine csL (As := [.int (gA σ 1 (a2).toNatClampNeg)]) (rest := []) F hK hP hS (c_X8_ofNumber l D ad cI cJ hap H.size _ _ _ hw) (va_cwS 1 hts gU_X4_151 rfl rfl rfl (by decide +kernel) ⟨Nat.le_of_ble_eq_true rfl, Nat.le_of_ble_eq_true rfl⟩) rfl hl.1 rfl (Nat.le_of_ble_eq_true rfl) dX4_plainResult_75 ⟨Nat.zero_le _, Nat.zero_le _⟩ (fun r_4 u_3 H locs hw hP hS => ?_)
        exact rtL F hr hlocks hK hw hP hS dX4_plainResult_78
      · have hw := hw.2 k_2
        by_cases k_6 : (gA σ 0 (a2).toNatClampNeg) = 9
        · have hw := hw.1 k_6
          refine lv_lookup (tgt := 79) (off := 66) hx hb dX4_plainResult_13 (by decide) (by rw [k_6]; decide) (by decide) ?_
          refine lv_iload_n hx hb dX4_plainResult_79 rfl (lv_at hl 3 rfl) ?_
          refine lv_lload_n hx hb dX4_plainResult_80 rfl (lv_at hl 4 rfl) ?_
          refine csL (As := [.int a2, .long a3]) (rest := []) F hK hP hS (c_X7_not l D ad cI cJ hap H.size _ _ _ _ hw) (va_cwS 2 hts gU_X4_223 rfl rfl rfl (by decide +kernel) ⟨Nat.le_of_ble_eq_true rfl, Nat.le_of_ble_eq_true rfl⟩) rfl hl.1 rfl (Nat.le_of_ble_eq_true rfl) dX4_plainResult_81 ⟨Nat.zero_le _, Nat.zero_le _⟩ (fun r_8 u_7 H locs hw hP hS => ?_)
          exact rtL F hr hlocks hK hw hP hS dX4_plainResult_84
        · have hw := hw.2 k_6
          by_cases k_9 : (gA σ 0 (a2).toNatClampNeg) = 20
          · have hw := hw.1 k_9
            refine lv_lookup (tgt := 85) (off := 72) hx hb dX4_plainResult_13 (by decide) (by rw [k_9]; decide) (by decide) ?_
            refine lv_iload_n hx hb dX4_plainResult_85 rfl (lv_at hl 3 rfl) ?_
            refine lv_lload_n hx hb dX4_plainResult_86 rfl (lv_at hl 4 rfl) ?_
            refine lv_iconst (v := 2) hx hb dX4_plainResult_87 (by decide) ?_
            refine csL (As := [.int a2, .long a3, .int 2]) (rest := []) F hK hP hS (c_X8_refuse l D ad cI cJ hap H.size _ _ _ _ _ hw) (va_cwS 3 hts gU_X4_229 rfl rfl rfl (by decide +kernel) ⟨Nat.le_of_ble_eq_true rfl, Nat.le_of_ble_eq_true rfl⟩) rfl hl.1 rfl (Nat.le_of_ble_eq_true rfl) dX4_plainResult_88 ⟨Nat.zero_le _, Nat.zero_le _⟩ (fun r_11 u_10 H locs hw hP hS => ?_)
            refine lv_lstore (lv' := [(6, .long r_11), (5, .int (gA σ 0 (a2).toNatClampNeg)), (0, .ref (ad 2)), (1, .int a1), (2, .int a2), (3, .long a3)]) hx hb dX4_plainResult_91 hl (by decide) rfl (fun ls hl => ?_)
            refine lv_lload_n hx hb dX4_plainResult_93 rfl (lv_at hl 5 rfl) ?_
            refine csI (As := [.long a3]) (rest := []) F hK hP hS (c_X8_contentOf l D ad cI cJ hap H.size _ _ _ hw) (va_cwS 1 hts gU_X4_111 rfl rfl rfl (by decide +kernel) ⟨Nat.le_of_ble_eq_true rfl, Nat.le_of_ble_eq_true rfl⟩) rfl hl.1 rfl (Nat.le_of_ble_eq_true rfl) dX4_plainResult_94 ⟨Nat.zero_le _, Nat.zero_le _⟩ (fun r_13 u_12 H locs hw hP hS => ?_)
            refine lv_istore (lv' := [(8, .int r_13), (6, .long r_11), (5, .int (gA σ 0 (a2).toNatClampNeg)), (0, .ref (ad 2)), (1, .int a1), (2, .int a2), (3, .long a3)]) hx hb dX4_plainResult_97 hl (by decide) rfl (fun ls hl => ?_)
            refine lv_lload hx hb dX4_plainResult_99 (lv_at hl 1 rfl) ?_
            refine lv_lconst (v := 0) hx hb dX4_plainResult_101 (by decide) ?_
            refine W.lcmp hx hb dX4_plainResult_102 ?_
            refine lv_if_eq (tgt := 111) hx hb dX4_plainResult_103 (by decide) (fun c_18 => ?_) (fun c_18 => ?_)
            · have hw := hw.1 c_18
              refine lv_aload_n hx hb dX4_plainResult_111 rfl (lv_at hl 3 rfl) ?_
              refine gC_X4_store F hK hP (hts _ mw_142) dX4_plainResult_112 ?_
              refine lv_iload hx hb dX4_plainResult_115 (lv_at hl 0 rfl) ?_
              refine cvI (As := [.int r_13]) (rest := []) F hK hP hS (c_X6_sizeOf l D ad cI cJ hap H.size _ _ _ hw) (cwV 1 hts gU_X4_114 rfl rfl rfl (by decide +kernel) ⟨Nat.le_of_ble_eq_true rfl, Nat.le_of_ble_eq_true rfl⟩) (va_recv hK hP (ci := 5) (q0 := 3) rfl rfl) rfl hl.1 rfl (Nat.le_of_ble_eq_true rfl) dX4_plainResult_117 ⟨Nat.zero_le _, Nat.zero_le _⟩ (fun r_15 u_14 H locs hw hP hS => ?_)
              refine csL (As := [.int r_15]) (rest := []) F hK hP hS (c_X8_ofNumber l D ad cI cJ hap H.size _ _ _ hw) (va_cwS 1 hts gU_X4_151 rfl rfl rfl (by decide +kernel) ⟨Nat.le_of_ble_eq_true rfl, Nat.le_of_ble_eq_true rfl⟩) rfl hl.1 rfl (Nat.le_of_ble_eq_true rfl) dX4_plainResult_120 ⟨Nat.zero_le _, Nat.zero_le _⟩ (fun r_17 u_16 H locs hw hP hS => ?_)
              exact rtL F hr hlocks hK hw hP hS dX4_plainResult_123
            · have hw := hw.2 c_18
              refine lv_lload hx hb dX4_plainResult_106 (lv_at hl 1 rfl) ?_
              refine lv_goto (tgt := 123) hx hb dX4_plainResult_108 (by decide) ?_
              exact rtL F hr hlocks hK hw hP hS dX4_plainResult_123
          · have hw := hw.2 k_9
            refine lv_lookup (tgt := 124) (off := 111) hx hb dX4_plainResult_13 (by decide) ?_ (by decide) ?_
            · show Op.lookupswitch.offset [(0, 51), (1, 53), (9, 66), (15, 51), (20, 72)] 111 (gA σ 0 (a2).toNatClampNeg).toInt = 111
              rw [lv_osw (k := 0) (fun z => k_1 (Or.inl z)) (by decide)]
              rw [lv_osw (k := 1) (fun z => k_2 z) (by decide)]
              rw [lv_osw (k := 9) (fun z => k_6 z) (by decide)]
              rw [lv_osw (k := 15) (fun z => k_1 (Or.inr z)) (by decide)]
              rw [lv_osw (k := 20) (fun z => k_9 z) (by decide)]
              rfl
            · refine lv_iload hx hb dX4_plainResult_124 (lv_at hl 0 rfl) ?_
              refine lv_iload_n hx hb dX4_plainResult_126 rfl (lv_at hl 3 rfl) ?_
              refine lv_lload_n hx hb dX4_plainResult_127 rfl (lv_at hl 4 rfl) ?_
              refine lv_aload_n hx hb dX4_plainResult_128 rfl (lv_at hl 1 rfl) ?_
              refine gC_X4_floor F hK hP (hts _ mw_86) dX4_plainResult_129 ?_
              refine lv_iload_n hx hb dX4_plainResult_132 rfl (lv_at hl 2 rfl) ?_
              refine lv_iconst (v := 1) hx hb dX4_plainResult_133 (by decide) ?_
              refine cvL (As := [.int a1, .int 1]) (rest := [.long a3, .int a2, .int (gA σ 0 (a2).toNatClampNeg)]) F hK hP hS (c_X1_cameTo l D ad cI cJ hap H.size _ _ _ _ hw) (cwV 2 hts gU_X4_175 rfl rfl rfl (by decide +kernel) ⟨Nat.le_of_ble_eq_true rfl, Nat.le_of_ble_eq_true rfl⟩) (va_recv hK hP (ci := 1) (q0 := 5) rfl rfl) rfl hl.1 rfl (Nat.le_of_ble_eq_true rfl) dX4_plainResult_134 ⟨Nat.zero_le _, Nat.zero_le _⟩ (fun r_20 u_19 H locs hw hP hS => ?_)
              refine csL (As := [.int (gA σ 0 (a2).toNatClampNeg), .int a2, .long a3, .long r_20]) (rest := []) F hK hP hS (c_X7_ofTwo l D ad cI cJ hap H.size _ _ _ _ _ _ hw) (va_cwS 4 hts gU_X4_233 rfl rfl rfl (by decide +kernel) ⟨Nat.le_of_ble_eq_true rfl, Nat.le_of_ble_eq_true rfl⟩) rfl hl.1 rfl (Nat.le_of_ble_eq_true rfl) dX4_plainResult_137 ⟨Nat.zero_le _, Nat.zero_le _⟩ (fun r_22 u_21 H locs hw hP hS => ?_)
              exact rtL F hr hlocks hK hw hP hS dX4_plainResult_140
  exact key s.heap [] hP hS

abbrev rm_X4_goOff : Room := { frames := 4, cells := 0, slots := 0, locals := 109 }
set_option maxHeartbeats 4000000 in
set_option maxRecDepth 100000 in
theorem c_X4_goOff (l : Launch) (D : va_G) (ad : Nat → Nat) (cI cJ : ClassId) (hap : apart ad 42) (sz : Nat) (σ : St) (a1 : Int32) (K : St → Prop) (hw : w_X4_goOff σ a1 K) : Met l yX4_goOff wU_X4_goOff rm_X4_goOff (va_Pc [.ref (ad 2), .int a1] (fun U => U.heap.size = sz ∧ inW D (wdC ad cI cJ) [(cI, .int), (cJ, .long)] σ U)) (va_Qv K (inW D (wdC ad cI cJ) [(cI, .int), (cJ, .long)]) (AW ad 42 sz)) 0 0 (AW ad 42 sz) := by
  refine Met.ofW (cc := cX4_goOff) (maxL := 6) (ret := none) (by decide) rfl ?_
  intro p e s m args below meth c s₁ B hml hv
  obtain ⟨rfl, hsz, ⟨hP, hK⟩⟩ := hv
  have F : CallFix p m c cX4_goOff 6 s ([.ref (ad 2), .int a1] : List Value).toArray lw_U RX4 := ⟨B.exec, B.bytes, hml, findClass_of_methodNamed B.named, fun w h => atoms_spec (ws := wU_X4_goOff) B.pre w (List.mem_cons_of_mem _ h)⟩
  have hx := F.1
  have hb := F.2.1
  have hown := F.2.2.2.1
  have hts := F.2.2.2.2
  have hr := B.returns
  have hlocks := B.notSynchronized
  subst hsz
  have hDs : ∀ σ, va_D (AW ad 42 s.heap.size) ((wdC ad cI cJ) σ) := fun σ => wdC_D hap σ
  have hS : va_S (AW ad 42 s.heap.size) s.heap s.heap [] := va_S.rf
  have hl := lv_entry ([.ref (ad 2), .int a1]) (n := 6) (Nat.le_of_ble_eq_true rfl)
  rw [lg_entry_eq]
  generalize (lg_sl ([.ref (ad 2), .int a1]) ++ List.replicate (6 - (lg_sl ([.ref (ad 2), .int a1])).length) Slot.unset).toArray = ls at hl ⊢
  have hl : lv_has ls 6 [(0, .ref (ad 2)), (1, .int a1)] := hl
  have key : ∀ (H : Heap) (locs : List Loc), va_P D vwCl ((wdC ad cI cJ) σ) H → va_S (AW ad 42 s.heap.size) s.heap H locs → W p l e (headSpec wU_X4_goOff rm_X4_goOff).room s m ([.ref (ad 2), .int a1] : List Value).toArray below meth c H locs 0 0 (MQ below (va_Qv K (inW D (wdC ad cI cJ) [(cI, .int), (cJ, .long)]) (AW ad 42 s.heap.size)) ([.ref (ad 2), .int a1] : List Value).toArray s 0 0 (AW ad 42 s.heap.size)) (F0 m 0 ls []) := by
    intro H locs hP hS
    unfold w_X4_goOff at hw
    refine lv_iload_n hx hb dX4_goOff_0 rfl (lv_at hl 1 rfl) ?_
    refine lv_iconst (v := (-1)) hx hb dX4_goOff_1 (by decide) ?_
    refine lv_icmp_ne (tgt := 6) hx hb dX4_goOff_2 (by decide) (fun c_64 => ?_) (fun c_64 => ?_)
    · have hw := hw.1 c_64
      refine lv_aload_n hx hb dX4_goOff_6 rfl (lv_at hl 0 rfl) ?_
      refine gC_X4_floor F hK hP (hts _ mw_86) dX4_goOff_7 ?_
      refine gC_X1_actOf F hK hP (hts _ mw_260) dX4_goOff_10 ?_
      refine lv_iload_n hx hb dX4_goOff_13 rfl (lv_at hl 1 rfl) ?_
      obtain ⟨i_63, hw⟩ := hw
      refine lC_X1_actOf F hK hP i_63 dX4_goOff_14 ?_
      refine lv_istore_n (lv' := [(2, .int (gA σ 24 (a1).toNatClampNeg)), (0, .ref (ad 2)), (1, .int a1)]) hx hb dX4_goOff_15 rfl hl (by decide) rfl (fun ls hl => ?_)
      refine lv_aload_n hx hb dX4_goOff_16 rfl (lv_at hl 1 rfl) ?_
      refine gC_X4_floor F hK hP (hts _ mw_86) dX4_goOff_17 ?_
      refine gC_X1_colourOf F hK hP (hts _ mw_261) dX4_goOff_20 ?_
      refine lv_iload_n hx hb dX4_goOff_23 rfl (lv_at hl 2 rfl) ?_
      obtain ⟨i_62, hw⟩ := hw
      refine lC_X1_colourOf F hK hP i_62 dX4_goOff_24 ?_
      refine lv_istore_n (lv' := [(3, .int (gA σ 25 (a1).toNatClampNeg)), (2, .int (gA σ 24 (a1).toNatClampNeg)), (0, .ref (ad 2)), (1, .int a1)]) hx hb dX4_goOff_25 rfl hl (by decide) rfl (fun ls hl => ?_)
      refine lv_aload_n hx hb dX4_goOff_26 rfl (lv_at hl 2 rfl) ?_
      refine gC_X4_floor F hK hP (hts _ mw_86) dX4_goOff_27 ?_
      refine lv_iload_n hx hb dX4_goOff_30 rfl (lv_at hl 3 rfl) ?_
      refine lv_iconst (v := 0) hx hb dX4_goOff_31 (by decide) ?_
      refine cvL (As := [.int a1, .int 0]) (rest := []) F hK hP hS (c_X1_cameTo l D ad cI cJ hap H.size _ _ _ _ hw) (cwV 2 hts gU_X4_175 rfl rfl rfl (by decide +kernel) ⟨Nat.le_of_ble_eq_true rfl, Nat.le_of_ble_eq_true rfl⟩) (va_recv hK hP (ci := 1) (q0 := 5) rfl rfl) rfl hl.1 rfl (Nat.le_of_ble_eq_true rfl) dX4_goOff_32 ⟨Nat.zero_le _, Nat.zero_le _⟩ (fun r_2 u_1 H locs hw hP hS => ?_)
      refine lv_lstore (lv' := [(4, .long r_2), (3, .int (gA σ 25 (a1).toNatClampNeg)), (2, .int (gA σ 24 (a1).toNatClampNeg)), (0, .ref (ad 2)), (1, .int a1)]) hx hb dX4_goOff_35 hl (by decide) rfl (fun ls hl => ?_)
      refine lv_aload_n hx hb dX4_goOff_37 rfl (lv_at hl 3 rfl) ?_
      refine lv_dup hx hb dX4_goOff_38 rfl ?_
      refine gC_X4_steps F hK hP (hts _ mw_150) dX4_goOff_39 ?_
      refine lv_iconst (v := 1) hx hb dX4_goOff_42 (by decide) ?_
      refine lv_iadd hx hb dX4_goOff_43 ?_
      refine pC_X4_steps F hK hP hDs hS (hts _ mw_150) dX4_goOff_44 (fun H locs hP hS => ?_)
      refine lv_aload_n hx hb dX4_goOff_47 rfl (lv_at hl 3 rfl) ?_
      refine gC_X4_firings F hK hP (hts _ mw_148) dX4_goOff_48 ?_
      refine lv_iload_n hx hb dX4_goOff_51 rfl (lv_at hl 2 rfl) ?_
      refine lv_dup2_11 hx hb dX4_goOff_52 rfl rfl ?_
      obtain ⟨i_61, hw⟩ := hw
      refine lC_X4_firings F hK hP i_61 dX4_goOff_53 ?_
      refine jvi (y := (gA u_1 12 ((gA σ 24 (a1).toNatClampNeg)).toNatClampNeg)) (by simp only [gS_sS, gS_sA, gS_sL, gS_fA, gS_fL, gA_sS, gA_sA, gA_sL, gA_fA, gA_fL, gL_sS, gL_sA, gL_sL, gL_fA, gL_fL, reduceIte, Nat.reduceEqDiff]) ?_
      refine lv_iconst (v := 1) hx hb dX4_goOff_54 (by decide) ?_
      refine lv_iadd hx hb dX4_goOff_55 ?_
      obtain ⟨i_60, hw⟩ := hw
      refine sC_X4_firings F hK hP hDs hS i_60 dX4_goOff_56 (fun H locs hP hS => ?_)
      refine lv_aload_n hx hb dX4_goOff_57 rfl (lv_at hl 3 rfl) ?_
      refine gC_X4_graph F hK hP (hts _ mw_92) dX4_goOff_58 ?_
      refine gC_X2_kind F hK hP (hts _ mw_188) dX4_goOff_61 ?_
      refine lv_iload_n hx hb dX4_goOff_64 rfl (lv_at hl 2 rfl) ?_
      obtain ⟨i_59, hw⟩ := hw
      refine lC_X2_kind F hK hP i_59 dX4_goOff_65 ?_
      refine jvi (y := (gA u_1 0 ((gA σ 24 (a1).toNatClampNeg)).toNatClampNeg)) (by simp only [gS_sS, gS_sA, gS_sL, gS_fA, gS_fL, gA_sS, gA_sA, gA_sL, gA_fA, gA_fL, gL_sS, gL_sA, gL_sL, gL_fA, gL_fL, reduceIte, Nat.reduceEqDiff]) ?_
      by_cases k_3 : (gA u_1 0 ((gA σ 24 (a1).toNatClampNeg)).toNatClampNeg) = 10
      · have hw := hw.1 k_3
        refine sw_in 10 (tgt := 128) F dX4_goOff_66 k_3 (by decide) (by decide) rfl (by decide) ?_
        refine lv_aload_n hx hb dX4_goOff_128 rfl (lv_at hl 3 rfl) ?_
        refine lv_iload_n hx hb dX4_goOff_129 rfl (lv_at hl 2 rfl) ?_
        refine lv_iload_n hx hb dX4_goOff_130 rfl (lv_at hl 1 rfl) ?_
        refine lv_lload hx hb dX4_goOff_131 (lv_at hl 0 rfl) ?_
        refine lv_aload_n hx hb dX4_goOff_133 rfl (lv_at hl 3 rfl) ?_
        refine gC_X4_floor F hK hP (hts _ mw_86) dX4_goOff_134 ?_
        refine lv_iload_n hx hb dX4_goOff_137 rfl (lv_at hl 4 rfl) ?_
        refine lv_iconst (v := 1) hx hb dX4_goOff_138 (by decide) ?_
        refine cvL (As := [.int a1, .int 1]) (rest := [.long r_2, .int (gA σ 25 (a1).toNatClampNeg), .int (gA σ 24 (a1).toNatClampNeg), .ref (ad 2)]) F hK hP hS (c_X1_cameTo l D ad cI cJ hap H.size _ _ _ _ hw) (cwV 2 hts gU_X4_175 rfl rfl rfl (by decide +kernel) ⟨Nat.le_of_ble_eq_true rfl, Nat.le_of_ble_eq_true rfl⟩) (va_recv hK hP (ci := 1) (q0 := 5) rfl rfl) rfl hl.1 rfl (Nat.le_of_ble_eq_true rfl) dX4_goOff_139 ⟨Nat.zero_le _, Nat.zero_le _⟩ (fun r_5 u_4 H locs hw hP hS => ?_)
        refine cvV (As := [.int (gA σ 24 (a1).toNatClampNeg), .int (gA σ 25 (a1).toNatClampNeg), .long r_2, .long r_5]) (rest := []) F hK hP hS (c_X4_goSwitch l D ad cI cJ hap H.size _ _ _ _ _ _ hw) (cwV 4 hts gU_X4_182 rfl rfl rfl (by decide +kernel) ⟨Nat.le_of_ble_eq_true rfl, Nat.le_of_ble_eq_true rfl⟩) (va_recv hK hP (ci := 3) (q0 := 2) rfl rfl) rfl hl.1 rfl (Nat.le_of_ble_eq_true rfl) dX4_goOff_142 ⟨Nat.zero_le _, Nat.zero_le _⟩ (fun u_6 H locs hw hP hS => ?_)
        refine lv_goto (tgt := 264) hx hb dX4_goOff_145 (by decide) ?_
        exact rtV F hr hlocks hK hw hP hS dX4_goOff_264
      · have hw := hw.2 k_3
        by_cases k_8 : (gA u_1 0 ((gA σ 24 (a1).toNatClampNeg)).toNatClampNeg) = 11
        · have hw := hw.1 k_8
          refine sw_in 11 (tgt := 148) F dX4_goOff_66 k_8 (by decide) (by decide) rfl (by decide) ?_
          refine lv_aload_n hx hb dX4_goOff_148 rfl (lv_at hl 3 rfl) ?_
          refine lv_iload_n hx hb dX4_goOff_149 rfl (lv_at hl 2 rfl) ?_
          refine lv_iconst (v := 0) hx hb dX4_goOff_150 (by decide) ?_
          refine lv_aload_n hx hb dX4_goOff_151 rfl (lv_at hl 3 rfl) ?_
          refine gC_X4_colours F hK hP (hts _ mw_129) dX4_goOff_152 ?_
          refine lv_iload_n hx hb dX4_goOff_155 rfl (lv_at hl 1 rfl) ?_
          refine lv_aload_n hx hb dX4_goOff_156 rfl (lv_at hl 3 rfl) ?_
          refine gC_X4_graph F hK hP (hts _ mw_92) dX4_goOff_157 ?_
          refine gC_X2_number F hK hP (hts _ mw_183) dX4_goOff_160 ?_
          refine lv_iload_n hx hb dX4_goOff_163 rfl (lv_at hl 2 rfl) ?_
          obtain ⟨i_13, hw⟩ := hw
          refine lC_X2_number F hK hP i_13 dX4_goOff_164 ?_
          refine jvi (y := (gA u_1 1 ((gA σ 24 (a1).toNatClampNeg)).toNatClampNeg)) (by simp only [gS_sS, gS_sA, gS_sL, gS_fA, gS_fL, gA_sS, gA_sA, gA_sL, gA_fA, gA_fL, gL_sS, gL_sA, gL_sL, gL_fA, gL_fL, reduceIte, Nat.reduceEqDiff]) ?_
          refine cvI (As := [.int (gA σ 25 (a1).toNatClampNeg), .int (gA u_1 1 ((gA σ 24 (a1).toNatClampNeg)).toNatClampNeg)]) (rest := [.int 0, .int (gA σ 24 (a1).toNatClampNeg), .ref (ad 2)]) F hK hP hS (c_X0_enter l D ad cI cJ hap H.size _ _ _ _ hw) (cwV 2 hts gU_X4_189 rfl rfl rfl (by decide +kernel) ⟨Nat.le_of_ble_eq_true rfl, Nat.le_of_ble_eq_true rfl⟩) (va_recv hK hP (ci := 0) (q0 := 4) rfl rfl) rfl hl.1 rfl (Nat.le_of_ble_eq_true rfl) dX4_goOff_165 ⟨Nat.zero_le _, Nat.zero_le _⟩ (fun r_10 u_9 H locs hw hP hS => ?_)
          refine lv_lload hx hb dX4_goOff_168 (lv_at hl 0 rfl) ?_
          refine cvV (As := [.int (gA σ 24 (a1).toNatClampNeg), .int 0, .int r_10, .long r_2]) (rest := []) F hK hP hS (c_X4_give l D ad cI cJ hap H.size _ _ _ _ _ _ hw) (cwV 4 hts gU_X4_192 rfl rfl rfl (by decide +kernel) ⟨Nat.le_of_ble_eq_true rfl, Nat.le_of_ble_eq_true rfl⟩) (va_recv hK hP (ci := 3) (q0 := 2) rfl rfl) rfl hl.1 rfl (Nat.le_of_ble_eq_true rfl) dX4_goOff_170 ⟨Nat.zero_le _, Nat.zero_le _⟩ (fun u_11 H locs hw hP hS => ?_)
          refine lv_goto (tgt := 264) hx hb dX4_goOff_173 (by decide) ?_
          exact rtV F hr hlocks hK hw hP hS dX4_goOff_264
        · have hw := hw.2 k_8
          by_cases k_14 : (gA u_1 0 ((gA σ 24 (a1).toNatClampNeg)).toNatClampNeg) = 12 ∨ (gA u_1 0 ((gA σ 24 (a1).toNatClampNeg)).toNatClampNeg) = 13
          · have hw := hw.1 k_14
            have kd : W p l e (headSpec wU_X4_goOff rm_X4_goOff).room s m ([.ref (ad 2), .int a1] : List Value).toArray below meth c H locs 0 0 (MQ below (va_Qv K (inW D (wdC ad cI cJ) [(cI, .int), (cJ, .long)]) (AW ad 42 s.heap.size)) ([.ref (ad 2), .int a1] : List Value).toArray s 0 0 (AW ad 42 s.heap.size)) (F0 m 176 ls []) := by
              refine lv_aload_n hx hb dX4_goOff_176 rfl (lv_at hl 3 rfl) ?_
              refine lv_iload_n hx hb dX4_goOff_177 rfl (lv_at hl 2 rfl) ?_
              refine lv_iload_n hx hb dX4_goOff_178 rfl (lv_at hl 1 rfl) ?_
              refine lv_lload hx hb dX4_goOff_179 (lv_at hl 0 rfl) ?_
              refine cvV (As := [.int (gA σ 24 (a1).toNatClampNeg), .int (gA σ 25 (a1).toNatClampNeg), .long r_2]) (rest := []) F hK hP hS (c_X4_goTurn l D ad cI cJ hap H.size _ _ _ _ _ hw) (cwV 3 hts gU_X4_195 rfl rfl rfl (by decide +kernel) ⟨Nat.le_of_ble_eq_true rfl, Nat.le_of_ble_eq_true rfl⟩) (va_recv hK hP (ci := 3) (q0 := 2) rfl rfl) rfl hl.1 rfl (Nat.le_of_ble_eq_true rfl) dX4_goOff_181 ⟨Nat.zero_le _, Nat.zero_le _⟩ (fun u_15 H locs hw hP hS => ?_)
              refine lv_goto (tgt := 264) hx hb dX4_goOff_184 (by decide) ?_
              exact rtV F hr hlocks hK hw hP hS dX4_goOff_264
            rcases k_14 with k_56 | k_56
            · exact sw_in 12 (tgt := 176) F dX4_goOff_66 k_56 (by decide) (by decide) rfl (by decide) kd
            · exact sw_in 13 (tgt := 176) F dX4_goOff_66 k_56 (by decide) (by decide) rfl (by decide) kd
          · have hw := hw.2 k_14
            by_cases k_17 : (gA u_1 0 ((gA σ 24 (a1).toNatClampNeg)).toNatClampNeg) = 14
            · have hw := hw.1 k_17
              refine sw_in 14 (tgt := 187) F dX4_goOff_66 k_17 (by decide) (by decide) rfl (by decide) ?_
              refine lv_aload_n hx hb dX4_goOff_187 rfl (lv_at hl 3 rfl) ?_
              refine lv_iload_n hx hb dX4_goOff_188 rfl (lv_at hl 4 rfl) ?_
              refine lv_iload_n hx hb dX4_goOff_189 rfl (lv_at hl 2 rfl) ?_
              refine lv_iload_n hx hb dX4_goOff_190 rfl (lv_at hl 1 rfl) ?_
              refine cvV (As := [.int a1, .int (gA σ 24 (a1).toNatClampNeg), .int (gA σ 25 (a1).toNatClampNeg)]) (rest := []) F hK hP hS (c_X4_goCall l D ad cI cJ hap H.size _ _ _ _ _ hw) (cwV 3 hts gU_X4_199 rfl rfl rfl (by decide +kernel) ⟨Nat.le_of_ble_eq_true rfl, Nat.le_of_ble_eq_true rfl⟩) (va_recv hK hP (ci := 3) (q0 := 2) rfl rfl) rfl hl.1 rfl (Nat.le_of_ble_eq_true rfl) dX4_goOff_191 ⟨Nat.zero_le _, Nat.zero_le _⟩ (fun u_18 H locs hw hP hS => ?_)
              refine lv_goto (tgt := 264) hx hb dX4_goOff_194 (by decide) ?_
              exact rtV F hr hlocks hK hw hP hS dX4_goOff_264
            · have hw := hw.2 k_17
              by_cases k_20 : (gA u_1 0 ((gA σ 24 (a1).toNatClampNeg)).toNatClampNeg) = 16
              · have hw := hw.1 k_20
                refine sw_in 16 (tgt := 197) F dX4_goOff_66 k_20 (by decide) (by decide) rfl (by decide) ?_
                refine lv_aload_n hx hb dX4_goOff_197 rfl (lv_at hl 3 rfl) ?_
                refine lv_iload_n hx hb dX4_goOff_198 rfl (lv_at hl 1 rfl) ?_
                refine lv_lload hx hb dX4_goOff_199 (lv_at hl 0 rfl) ?_
                refine cvV (As := [.int (gA σ 25 (a1).toNatClampNeg), .long r_2]) (rest := []) F hK hP hS (c_X4_goReturn l D ad cI cJ hap H.size _ _ _ _ hw) (cwV 2 hts gU_X4_203 rfl rfl rfl (by decide +kernel) ⟨Nat.le_of_ble_eq_true rfl, Nat.le_of_ble_eq_true rfl⟩) (va_recv hK hP (ci := 3) (q0 := 2) rfl rfl) rfl hl.1 rfl (Nat.le_of_ble_eq_true rfl) dX4_goOff_201 ⟨Nat.zero_le _, Nat.zero_le _⟩ (fun u_21 H locs hw hP hS => ?_)
                refine lv_goto (tgt := 264) hx hb dX4_goOff_204 (by decide) ?_
                exact rtV F hr hlocks hK hw hP hS dX4_goOff_264
              · have hw := hw.2 k_20
                by_cases k_23 : (gA u_1 0 ((gA σ 24 (a1).toNatClampNeg)).toNatClampNeg) = 17
                · have hw := hw.1 k_23
                  refine sw_in 17 (tgt := 207) F dX4_goOff_66 k_23 (by decide) (by decide) rfl (by decide) ?_
                  refine lv_aload_n hx hb dX4_goOff_207 rfl (lv_at hl 3 rfl) ?_
                  refine lv_iload_n hx hb dX4_goOff_208 rfl (lv_at hl 2 rfl) ?_
                  refine lv_iload_n hx hb dX4_goOff_209 rfl (lv_at hl 1 rfl) ?_
                  refine lv_lload hx hb dX4_goOff_210 (lv_at hl 0 rfl) ?_
                  refine cvV (As := [.int (gA σ 24 (a1).toNatClampNeg), .int (gA σ 25 (a1).toNatClampNeg), .long r_2]) (rest := []) F hK hP hS (c_X4_goMake l D ad cI cJ hap H.size _ _ _ _ _ hw) (cwV 3 hts gU_X4_207 rfl rfl rfl (by decide +kernel) ⟨Nat.le_of_ble_eq_true rfl, Nat.le_of_ble_eq_true rfl⟩) (va_recv hK hP (ci := 3) (q0 := 2) rfl rfl) rfl hl.1 rfl (Nat.le_of_ble_eq_true rfl) dX4_goOff_212 ⟨Nat.zero_le _, Nat.zero_le _⟩ (fun u_24 H locs hw hP hS => ?_)
                  refine lv_goto (tgt := 264) hx hb dX4_goOff_215 (by decide) ?_
                  exact rtV F hr hlocks hK hw hP hS dX4_goOff_264
                · have hw := hw.2 k_23
                  by_cases k_26 : (gA u_1 0 ((gA σ 24 (a1).toNatClampNeg)).toNatClampNeg) = 18
                  · have hw := hw.1 k_26
                    refine sw_in 18 (tgt := 218) F dX4_goOff_66 k_26 (by decide) (by decide) rfl (by decide) ?_
                    refine lv_aload_n hx hb dX4_goOff_218 rfl (lv_at hl 3 rfl) ?_
                    refine lv_iload_n hx hb dX4_goOff_219 rfl (lv_at hl 4 rfl) ?_
                    refine lv_iload_n hx hb dX4_goOff_220 rfl (lv_at hl 2 rfl) ?_
                    refine lv_iload_n hx hb dX4_goOff_221 rfl (lv_at hl 1 rfl) ?_
                    refine cvV (As := [.int a1, .int (gA σ 24 (a1).toNatClampNeg), .int (gA σ 25 (a1).toNatClampNeg)]) (rest := []) F hK hP hS (c_X4_goRead l D ad cI cJ hap H.size _ _ _ _ _ hw) (cwV 3 hts gU_X4_210 rfl rfl rfl (by decide +kernel) ⟨Nat.le_of_ble_eq_true rfl, Nat.le_of_ble_eq_true rfl⟩) (va_recv hK hP (ci := 3) (q0 := 2) rfl rfl) rfl hl.1 rfl (Nat.le_of_ble_eq_true rfl) dX4_goOff_222 ⟨Nat.zero_le _, Nat.zero_le _⟩ (fun u_27 H locs hw hP hS => ?_)
                    refine lv_goto (tgt := 264) hx hb dX4_goOff_225 (by decide) ?_
                    exact rtV F hr hlocks hK hw hP hS dX4_goOff_264
                  · have hw := hw.2 k_26
                    by_cases k_29 : (gA u_1 0 ((gA σ 24 (a1).toNatClampNeg)).toNatClampNeg) = 19
                    · have hw := hw.1 k_29
                      refine sw_in 19 (tgt := 228) F dX4_goOff_66 k_29 (by decide) (by decide) rfl (by decide) ?_
                      refine lv_aload_n hx hb dX4_goOff_228 rfl (lv_at hl 3 rfl) ?_
                      refine lv_iload_n hx hb dX4_goOff_229 rfl (lv_at hl 4 rfl) ?_
                      refine lv_iload_n hx hb dX4_goOff_230 rfl (lv_at hl 2 rfl) ?_
                      refine lv_iload_n hx hb dX4_goOff_231 rfl (lv_at hl 1 rfl) ?_
                      refine cvV (As := [.int a1, .int (gA σ 24 (a1).toNatClampNeg), .int (gA σ 25 (a1).toNatClampNeg)]) (rest := []) F hK hP hS (c_X4_goWrite l D ad cI cJ hap H.size _ _ _ _ _ hw) (cwV 3 hts gU_X4_213 rfl rfl rfl (by decide +kernel) ⟨Nat.le_of_ble_eq_true rfl, Nat.le_of_ble_eq_true rfl⟩) (va_recv hK hP (ci := 3) (q0 := 2) rfl rfl) rfl hl.1 rfl (Nat.le_of_ble_eq_true rfl) dX4_goOff_232 ⟨Nat.zero_le _, Nat.zero_le _⟩ (fun u_30 H locs hw hP hS => ?_)
                      refine lv_goto (tgt := 264) hx hb dX4_goOff_235 (by decide) ?_
                      exact rtV F hr hlocks hK hw hP hS dX4_goOff_264
                    · have hw := hw.2 k_29
                      by_cases k_32 : (gA u_1 0 ((gA σ 24 (a1).toNatClampNeg)).toNatClampNeg) = 21
                      · have hw := hw.1 k_32
                        refine sw_in 21 (tgt := 238) F dX4_goOff_66 k_32 (by decide) (by decide) rfl (by decide) ?_
                        refine lv_aload_n hx hb dX4_goOff_238 rfl (lv_at hl 3 rfl) ?_
                        refine lv_iload_n hx hb dX4_goOff_239 rfl (lv_at hl 2 rfl) ?_
                        refine lv_iload_n hx hb dX4_goOff_240 rfl (lv_at hl 1 rfl) ?_
                        refine lv_lload hx hb dX4_goOff_241 (lv_at hl 0 rfl) ?_
                        refine cvV (As := [.int (gA σ 24 (a1).toNatClampNeg), .int (gA σ 25 (a1).toNatClampNeg), .long r_2]) (rest := []) F hK hP hS (c_X4_goEnd l D ad cI cJ hap H.size _ _ _ _ _ hw) (cwV 3 hts gU_X4_216 rfl rfl rfl (by decide +kernel) ⟨Nat.le_of_ble_eq_true rfl, Nat.le_of_ble_eq_true rfl⟩) (va_recv hK hP (ci := 3) (q0 := 2) rfl rfl) rfl hl.1 rfl (Nat.le_of_ble_eq_true rfl) dX4_goOff_243 ⟨Nat.zero_le _, Nat.zero_le _⟩ (fun u_33 H locs hw hP hS => ?_)
                        refine lv_goto (tgt := 264) hx hb dX4_goOff_246 (by decide) ?_
                        exact rtV F hr hlocks hK hw hP hS dX4_goOff_264
                      · have hw := hw.2 k_32
                        have z_39 : ¬ (gA u_1 0 ((gA σ 24 (a1).toNatClampNeg)).toNatClampNeg).toInt = 10 := lv_neT (fun z => k_3 z) (k := 10) (by decide)
                        have z_40 : ¬ (gA u_1 0 ((gA σ 24 (a1).toNatClampNeg)).toNatClampNeg).toInt = 11 := lv_neT (fun z => k_8 z) (k := 11) (by decide)
                        have z_41 : ¬ (gA u_1 0 ((gA σ 24 (a1).toNatClampNeg)).toNatClampNeg).toInt = 12 := lv_neT (fun z => k_14 (Or.inl z)) (k := 12) (by decide)
                        have z_42 : ¬ (gA u_1 0 ((gA σ 24 (a1).toNatClampNeg)).toNatClampNeg).toInt = 13 := lv_neT (fun z => k_14 (Or.inr z)) (k := 13) (by decide)
                        have z_43 : ¬ (gA u_1 0 ((gA σ 24 (a1).toNatClampNeg)).toNatClampNeg).toInt = 14 := lv_neT (fun z => k_17 z) (k := 14) (by decide)
                        have z_44 : ¬ (gA u_1 0 ((gA σ 24 (a1).toNatClampNeg)).toNatClampNeg).toInt = 16 := lv_neT (fun z => k_20 z) (k := 16) (by decide)
                        have z_45 : ¬ (gA u_1 0 ((gA σ 24 (a1).toNatClampNeg)).toNatClampNeg).toInt = 17 := lv_neT (fun z => k_23 z) (k := 17) (by decide)
                        have z_46 : ¬ (gA u_1 0 ((gA σ 24 (a1).toNatClampNeg)).toNatClampNeg).toInt = 18 := lv_neT (fun z => k_26 z) (k := 18) (by decide)
                        have z_47 : ¬ (gA u_1 0 ((gA σ 24 (a1).toNatClampNeg)).toNatClampNeg).toInt = 19 := lv_neT (fun z => k_29 z) (k := 19) (by decide)
                        have z_48 : ¬ (gA u_1 0 ((gA σ 24 (a1).toNatClampNeg)).toNatClampNeg).toInt = 21 := lv_neT (fun z => k_32 z) (k := 21) (by decide)
                        have kd : W p l e (headSpec wU_X4_goOff rm_X4_goOff).room s m ([.ref (ad 2), .int a1] : List Value).toArray below meth c H locs 0 0 (MQ below (va_Qv K (inW D (wdC ad cI cJ) [(cI, .int), (cJ, .long)]) (AW ad 42 s.heap.size)) ([.ref (ad 2), .int a1] : List Value).toArray s 0 0 (AW ad 42 s.heap.size)) (F0 m 249 ls []) := by
                          refine lv_aload_n hx hb dX4_goOff_249 rfl (lv_at hl 3 rfl) ?_
                          refine lv_iload_n hx hb dX4_goOff_250 rfl (lv_at hl 2 rfl) ?_
                          refine lv_iconst (v := 0) hx hb dX4_goOff_251 (by decide) ?_
                          refine lv_iload_n hx hb dX4_goOff_252 rfl (lv_at hl 1 rfl) ?_
                          refine lv_aload_n hx hb dX4_goOff_253 rfl (lv_at hl 3 rfl) ?_
                          refine lv_iload_n hx hb dX4_goOff_254 rfl (lv_at hl 4 rfl) ?_
                          refine lv_iload_n hx hb dX4_goOff_255 rfl (lv_at hl 2 rfl) ?_
                          refine lv_lload hx hb dX4_goOff_256 (lv_at hl 0 rfl) ?_
                          refine cvL (As := [.int a1, .int (gA σ 24 (a1).toNatClampNeg), .long r_2]) (rest := [.int (gA σ 25 (a1).toNatClampNeg), .int 0, .int (gA σ 24 (a1).toNatClampNeg), .ref (ad 2)]) F hK hP hS (c_X4_plainResult l D ad cI cJ hap H.size _ _ _ _ _ hw) (cwV 3 hts gU_X4_219 rfl rfl rfl (by decide +kernel) ⟨Nat.le_of_ble_eq_true rfl, Nat.le_of_ble_eq_true rfl⟩) (va_recv hK hP (ci := 3) (q0 := 2) rfl rfl) rfl hl.1 rfl (Nat.le_of_ble_eq_true rfl) dX4_goOff_258 ⟨Nat.zero_le _, Nat.zero_le _⟩ (fun r_36 u_35 H locs hw hP hS => ?_)
                          refine cvV (As := [.int (gA σ 24 (a1).toNatClampNeg), .int 0, .int (gA σ 25 (a1).toNatClampNeg), .long r_36]) (rest := []) F hK hP hS (c_X4_give l D ad cI cJ hap H.size _ _ _ _ _ _ hw) (cwV 4 hts gU_X4_192 rfl rfl rfl (by decide +kernel) ⟨Nat.le_of_ble_eq_true rfl, Nat.le_of_ble_eq_true rfl⟩) (va_recv hK hP (ci := 3) (q0 := 2) rfl rfl) rfl hl.1 rfl (Nat.le_of_ble_eq_true rfl) dX4_goOff_261 ⟨Nat.zero_le _, Nat.zero_le _⟩ (fun u_37 H locs hw hP hS => ?_)
                          exact rtV F hr hlocks hK hw hP hS dX4_goOff_264
                        rcases (show ((gA u_1 0 ((gA σ 24 (a1).toNatClampNeg)).toNatClampNeg).toInt < 10 ∨ 21 < (gA u_1 0 ((gA σ 24 (a1).toNatClampNeg)).toNatClampNeg).toInt) ∨ ((gA u_1 0 ((gA σ 24 (a1).toNatClampNeg)).toNatClampNeg).toInt = 15) ∨ ((gA u_1 0 ((gA σ 24 (a1).toNatClampNeg)).toNatClampNeg).toInt = 20) by omega) with o_49 | o_49 | o_49
                        · exact lv_tableOut (tgt := 249) hx hb dX4_goOff_66 o_49 (by decide) kd
                        · exact sw_in 15 (tgt := 249) F dX4_goOff_66 (Int32.toInt_inj.mp (by rw [o_49]; decide)) (by decide) (by decide) rfl (by decide) kd
                        · exact sw_in 20 (tgt := 249) F dX4_goOff_66 (Int32.toInt_inj.mp (by rw [o_49]; decide)) (by decide) (by decide) rfl (by decide) kd
    · have hw := hw.2 c_64
      exact rtV F hr hlocks hK hw hP hS dX4_goOff_5
  exact key s.heap [] hP hS

abbrev rm_X4_goBySeed : Room := { frames := 5, cells := 0, slots := 0, locals := 134 }
set_option maxHeartbeats 4000000 in
set_option maxRecDepth 100000 in
theorem c_X4_goBySeed (l : Launch) (D : va_G) (ad : Nat → Nat) (cI cJ : ClassId) (hap : apart ad 42) (sz : Nat) (σ : St) (a1 : Int32) (a2 : Int32) (K : Int32 → St → Prop) (hw : w_X4_goBySeed σ a1 a2 K) : Met l yX4_goBySeed wU_X4_goBySeed rm_X4_goBySeed (va_Pc [.ref (ad 2), .int a1, .int a2] (fun U => U.heap.size = sz ∧ inW D (wdC ad cI cJ) [(cI, .int), (cJ, .long)] σ U)) (va_Qi K (inW D (wdC ad cI cJ) [(cI, .int), (cJ, .long)]) (AW ad 42 sz)) 0 0 (AW ad 42 sz) := by
  refine Met.ofW (cc := cX4_goBySeed) (maxL := 6) (ret := (some .int)) (by decide) rfl ?_
  intro p e s m args below meth c s₁ B hml hv
  obtain ⟨rfl, hsz, ⟨hP, hK⟩⟩ := hv
  have F : CallFix p m c cX4_goBySeed 6 s ([.ref (ad 2), .int a1, .int a2] : List Value).toArray lw_U RX4 := ⟨B.exec, B.bytes, hml, findClass_of_methodNamed B.named, fun w h => atoms_spec (ws := wU_X4_goBySeed) B.pre w (List.mem_cons_of_mem _ h)⟩
  have hx := F.1
  have hb := F.2.1
  have hown := F.2.2.2.1
  have hts := F.2.2.2.2
  have hr := B.returns
  have hlocks := B.notSynchronized
  subst hsz
  have hDs : ∀ σ, va_D (AW ad 42 s.heap.size) ((wdC ad cI cJ) σ) := fun σ => wdC_D hap σ
  have hS : va_S (AW ad 42 s.heap.size) s.heap s.heap [] := va_S.rf
  have lab_74 : ∀ (σ : St) (H : Heap) (locs : List Loc) (ls : Array Slot), b_X4_goBySeed_74 K σ → va_P D vwCl ((wdC ad cI cJ) σ) H → va_S (AW ad 42 s.heap.size) s.heap H locs → lv_has ls 6 [(0, .ref (ad 2))] → W p l e (headSpec wU_X4_goBySeed rm_X4_goBySeed).room s m ([.ref (ad 2), .int a1, .int a2] : List Value).toArray below meth c H locs 0 0 (MQ below (va_Qi K (inW D (wdC ad cI cJ) [(cI, .int), (cJ, .long)]) (AW ad 42 s.heap.size)) ([.ref (ad 2), .int a1, .int a2] : List Value).toArray s 0 0 (AW ad 42 s.heap.size)) (F0 m 74 ls []) := by
    intro σ H locs ls hw hP hS hl
    unfold b_X4_goBySeed_74 at hw
    refine lv_aload_n hx hb dX4_goBySeed_74 rfl (lv_at hl 0 rfl) ?_
    refine lv_aload_n hx hb dX4_goBySeed_75 rfl (lv_at hl 0 rfl) ?_
    refine gC_X4_steps F hK hP (hts _ mw_150) dX4_goBySeed_76 ?_
    refine lv_if_le (tgt := 86) hx hb dX4_goBySeed_79 (by decide) (fun c_1 => ?_) (fun c_1 => ?_)
    · have hw := hw.1 c_1
      refine lv_iconst (v := 0) hx hb dX4_goBySeed_86 (by decide) ?_
      refine pC_X4_most F hK hP hDs hS (hts _ mw_152) dX4_goBySeed_87 (fun H locs hP hS => ?_)
      refine lv_aload_n hx hb dX4_goBySeed_90 rfl (lv_at hl 0 rfl) ?_
      refine gC_X4_how F hK hP (hts _ mw_83) dX4_goBySeed_91 ?_
      refine jvi (y := (gS σ 4)) (by simp only [gS_sS, gS_sA, gS_sL, gS_fA, gS_fL, gA_sS, gA_sA, gA_sL, gA_fA, gA_fL, gL_sS, gL_sA, gL_sL, gL_fA, gL_fL, reduceIte, Nat.reduceEqDiff]) ?_
      exact rtI F hr hlocks hK hw hP hS dX4_goBySeed_94
    · have hw := hw.2 c_1
      refine lv_iconst (v := 1) hx hb dX4_goBySeed_82 (by decide) ?_
      refine lv_goto (tgt := 87) hx hb dX4_goBySeed_83 (by decide) ?_
      refine pC_X4_most F hK hP hDs hS (hts _ mw_152) dX4_goBySeed_87 (fun H locs hP hS => ?_)
      refine lv_aload_n hx hb dX4_goBySeed_90 rfl (lv_at hl 0 rfl) ?_
      refine gC_X4_how F hK hP (hts _ mw_83) dX4_goBySeed_91 ?_
      refine jvi (y := (gS σ 4)) (by simp only [gS_sS, gS_sA, gS_sL, gS_fA, gS_fL, gA_sS, gA_sA, gA_sL, gA_fA, gA_fL, gL_sS, gL_sA, gL_sL, gL_fA, gL_fL, reduceIte, Nat.reduceEqDiff]) ?_
      exact rtI F hr hlocks hK hw hP hS dX4_goBySeed_94
  have lab_9 : ∀ (n : Nat), ∀ (σ : St) (x2 : Int32) (x3 : Int32) (x4 : Int32) (H : Heap) (locs : List Loc) (ls : Array Slot), w_X4_goBySeed_9 K n σ x2 x3 x4 → va_P D vwCl ((wdC ad cI cJ) σ) H → va_S (AW ad 42 s.heap.size) s.heap H locs → lv_has ls 6 [(0, .ref (ad 2)), (2, .int x2), (3, .int x3), (4, .int x4)] → W p l e (headSpec wU_X4_goBySeed rm_X4_goBySeed).room s m ([.ref (ad 2), .int a1, .int a2] : List Value).toArray below meth c H locs 0 0 (MQ below (va_Qi K (inW D (wdC ad cI cJ) [(cI, .int), (cJ, .long)]) (AW ad 42 s.heap.size)) ([.ref (ad 2), .int a1, .int a2] : List Value).toArray s 0 0 (AW ad 42 s.heap.size)) (F0 m 9 ls []) := by
    intro n
    induction n with
    | zero =>
      intro σ x2 x3 x4 H locs ls hw
      exact hw.elim
    | succ n hL9 =>
      intro σ x2 x3 x4 H locs ls hw hP hS hl
      have hw : b_X4_goBySeed_9 (w_X4_goBySeed_9 K n) K σ x2 x3 x4 := hw
      unfold b_X4_goBySeed_9 at hw
      generalize w_X4_goBySeed_9 K n = L9 at hw hL9
      refine lv_iload hx hb dX4_goBySeed_9 (lv_at hl 3 rfl) ?_
      refine lv_iload_n hx hb dX4_goBySeed_11 rfl (lv_at hl 1 rfl) ?_
      refine lv_icmp_gt (tgt := 74) hx hb dX4_goBySeed_12 (by decide) (fun c_17 => ?_) (fun c_17 => ?_)
      · have hw := hw.1 c_17
        exact lab_74 _ _ _ _ hw hP hS (lv_sub hl [0] rfl)
      · have hw := hw.2 c_17
        refine lv_aload_n hx hb dX4_goBySeed_15 rfl (lv_at hl 0 rfl) ?_
        refine lv_iload_n hx hb dX4_goBySeed_16 rfl (lv_at hl 1 rfl) ?_
        refine cvI (As := [.int x2]) (rest := []) F hK hP hS (c_X4_mayStep l D ad cI cJ hap H.size _ _ _ hw) (cwV 1 hts gU_X4_54 rfl rfl rfl (by decide +kernel) ⟨Nat.le_of_ble_eq_true rfl, Nat.le_of_ble_eq_true rfl⟩) (va_recv hK hP (ci := 3) (q0 := 2) rfl rfl) rfl hl.1 rfl (Nat.le_of_ble_eq_true rfl) dX4_goBySeed_17 ⟨Nat.zero_le _, Nat.zero_le _⟩ (fun r_3 u_2 H locs hw hP hS => ?_)
        obtain ⟨zr_3, hw⟩ := hw
        refine lv_if_eq (tgt := 74) hx hb dX4_goBySeed_20 (by decide) (fun c_16 => ?_) (fun c_16 => ?_)
        · have hw := hw.1 c_16
          exact lab_74 _ _ _ _ hw hP hS (lv_sub hl [0] rfl)
        · have hw := hw.2 c_16
          refine lv_ldc (v := 1103515245) hx hb hown (hts _ mw_336) dX4_goBySeed_23 ?_
          refine lv_iload_n hx hb dX4_goBySeed_25 rfl (lv_at hl 2 rfl) ?_
          refine lv_imul hx hb dX4_goBySeed_26 ?_
          refine lv_sipush (v := 12345) hx hb dX4_goBySeed_27 (by decide) ?_
          refine lv_iadd hx hb dX4_goBySeed_30 ?_
          refine lv_istore_n (lv' := [(3, .int ((1103515245 * x3) + 12345)), (0, .ref (ad 2)), (2, .int x2), (4, .int x4)]) hx hb dX4_goBySeed_31 rfl hl (by decide) rfl (fun ls hl => ?_)
          refine lv_aload_n hx hb dX4_goBySeed_32 rfl (lv_at hl 1 rfl) ?_
          refine gC_X4_ready F hK hP (hts _ mw_98) dX4_goBySeed_33 ?_
          refine cvI (As := []) (rest := []) F hK hP hS (c_X5_size l D ad cI cJ hap H.size _ _ hw) (cwV 0 hts gU_X4_59 rfl rfl rfl (by decide +kernel) ⟨Nat.le_of_ble_eq_true rfl, Nat.le_of_ble_eq_true rfl⟩) (va_recv hK hP (ci := 4) (q0 := 6) rfl rfl) rfl hl.1 rfl (Nat.le_of_ble_eq_true rfl) dX4_goBySeed_36 ⟨Nat.zero_le _, Nat.zero_le _⟩ (fun r_5 u_4 H locs hw hP hS => ?_)
          refine lv_istore (lv' := [(5, .int r_5), (3, .int ((1103515245 * x3) + 12345)), (0, .ref (ad 2)), (2, .int x2), (4, .int x4)]) hx hb dX4_goBySeed_39 hl (by decide) rfl (fun ls hl => ?_)
          refine lv_aload_n hx hb dX4_goBySeed_41 rfl (lv_at hl 2 rfl) ?_
          refine lv_aload_n hx hb dX4_goBySeed_42 rfl (lv_at hl 2 rfl) ?_
          refine gC_X4_ready F hK hP (hts _ mw_98) dX4_goBySeed_43 ?_
          refine lv_iload hx hb dX4_goBySeed_46 (lv_at hl 0 rfl) ?_
          refine lv_if_ne (tgt := 55) hx hb dX4_goBySeed_48 (by decide) (fun c_15 => ?_) (fun c_15 => ?_)
          · have hw := hw.1 c_15
            refine lv_iload_n hx hb dX4_goBySeed_55 rfl (lv_at hl 1 rfl) ?_
            refine lv_bipush (v := 16) hx hb dX4_goBySeed_56 (by decide) ?_
            refine lv_iushr hx hb dX4_goBySeed_58 rfl ?_
            refine lv_iload hx hb dX4_goBySeed_59 (lv_at hl 0 rfl) ?_
            obtain ⟨h_10, hw⟩ := hw
            refine lv_irem hx hb dX4_goBySeed_61 h_10 ?_
            refine cvI (As := [.int (((((1103515245 * x3) + 12345).toUInt32 >>> ((16 : Int32).toUInt32 &&& Int32.toUInt32 31)).toInt32) - ((((1103515245 * x3) + 12345).toUInt32 >>> ((16 : Int32).toUInt32 &&& Int32.toUInt32 31)).toInt32) / r_5 * r_5)]) (rest := [.ref (ad 2)]) F hK hP hS (c_X5_take l D ad cI cJ hap H.size _ _ _ hw) (cwV 1 hts gU_X4_63 rfl rfl rfl (by decide +kernel) ⟨Nat.le_of_ble_eq_true rfl, Nat.le_of_ble_eq_true rfl⟩) (va_recv hK hP (ci := 4) (q0 := 6) rfl rfl) rfl hl.1 rfl (Nat.le_of_ble_eq_true rfl) dX4_goBySeed_62 ⟨Nat.zero_le _, Nat.zero_le _⟩ (fun r_7 u_6 H locs hw hP hS => ?_)
            refine cvV (As := [.int r_7]) (rest := []) F hK hP hS (c_X4_goOff l D ad cI cJ hap H.size _ _ _ hw) (cwV 1 hts gU_X4_67 rfl rfl rfl (by decide +kernel) ⟨Nat.le_of_ble_eq_true rfl, Nat.le_of_ble_eq_true rfl⟩) (va_recv hK hP (ci := 3) (q0 := 2) rfl rfl) rfl hl.1 rfl (Nat.le_of_ble_eq_true rfl) dX4_goBySeed_65 ⟨Nat.zero_le _, Nat.zero_le _⟩ (fun u_8 H locs hw hP hS => ?_)
            refine lv_iinc (v := (x4 + 1)) (lv' := [(4, .int (x4 + 1)), (5, .int r_5), (3, .int ((1103515245 * x3) + 12345)), (0, .ref (ad 2)), (2, .int x2)]) hx hb dX4_goBySeed_68 hl (k := 4) rfl rfl (by decide) rfl (fun ls hl => ?_)
            refine lv_goto (tgt := 9) hx hb dX4_goBySeed_71 (by decide) ?_
            exact hL9 _ _ _ _ _ _ _ hw hP hS (lv_sub hl [3, 4, 2, 0] rfl)
          · have hw := hw.2 c_15
            refine lv_iconst (v := 0) hx hb dX4_goBySeed_51 (by decide) ?_
            refine lv_goto (tgt := 62) hx hb dX4_goBySeed_52 (by decide) ?_
            refine cvI (As := [.int 0]) (rest := [.ref (ad 2)]) F hK hP hS (c_X5_take l D ad cI cJ hap H.size _ _ _ hw) (cwV 1 hts gU_X4_63 rfl rfl rfl (by decide +kernel) ⟨Nat.le_of_ble_eq_true rfl, Nat.le_of_ble_eq_true rfl⟩) (va_recv hK hP (ci := 4) (q0 := 6) rfl rfl) rfl hl.1 rfl (Nat.le_of_ble_eq_true rfl) dX4_goBySeed_62 ⟨Nat.zero_le _, Nat.zero_le _⟩ (fun r_12 u_11 H locs hw hP hS => ?_)
            refine cvV (As := [.int r_12]) (rest := []) F hK hP hS (c_X4_goOff l D ad cI cJ hap H.size _ _ _ hw) (cwV 1 hts gU_X4_67 rfl rfl rfl (by decide +kernel) ⟨Nat.le_of_ble_eq_true rfl, Nat.le_of_ble_eq_true rfl⟩) (va_recv hK hP (ci := 3) (q0 := 2) rfl rfl) rfl hl.1 rfl (Nat.le_of_ble_eq_true rfl) dX4_goBySeed_65 ⟨Nat.zero_le _, Nat.zero_le _⟩ (fun u_13 H locs hw hP hS => ?_)
            refine lv_iinc (v := (x4 + 1)) (lv' := [(4, .int (x4 + 1)), (5, .int r_5), (3, .int ((1103515245 * x3) + 12345)), (0, .ref (ad 2)), (2, .int x2)]) hx hb dX4_goBySeed_68 hl (k := 4) rfl rfl (by decide) rfl (fun ls hl => ?_)
            refine lv_goto (tgt := 9) hx hb dX4_goBySeed_71 (by decide) ?_
            exact hL9 _ _ _ _ _ _ _ hw hP hS (lv_sub hl [3, 4, 2, 0] rfl)
  have hl := lv_entry ([.ref (ad 2), .int a1, .int a2]) (n := 6) (Nat.le_of_ble_eq_true rfl)
  rw [lg_entry_eq]
  generalize (lg_sl ([.ref (ad 2), .int a1, .int a2]) ++ List.replicate (6 - (lg_sl ([.ref (ad 2), .int a1, .int a2])).length) Slot.unset).toArray = ls at hl ⊢
  have hl : lv_has ls 6 [(0, .ref (ad 2)), (1, .int a1), (2, .int a2)] := hl
  have key : ∀ (H : Heap) (locs : List Loc), va_P D vwCl ((wdC ad cI cJ) σ) H → va_S (AW ad 42 s.heap.size) s.heap H locs → W p l e (headSpec wU_X4_goBySeed rm_X4_goBySeed).room s m ([.ref (ad 2), .int a1, .int a2] : List Value).toArray below meth c H locs 0 0 (MQ below (va_Qi K (inW D (wdC ad cI cJ) [(cI, .int), (cJ, .long)]) (AW ad 42 s.heap.size)) ([.ref (ad 2), .int a1, .int a2] : List Value).toArray s 0 0 (AW ad 42 s.heap.size)) (F0 m 0 ls []) := by
    intro H locs hP hS
    unfold w_X4_goBySeed at hw
    refine lv_aload_n hx hb dX4_goBySeed_0 rfl (lv_at hl 0 rfl) ?_
    refine cvV (As := []) (rest := []) F hK hP hS (c_X4_begin l D ad cI cJ hap H.size _ _ hw) (cwV 0 hts gU_X4_51 rfl rfl rfl (by decide +kernel) ⟨Nat.le_of_ble_eq_true rfl, Nat.le_of_ble_eq_true rfl⟩) (va_recv hK hP (ci := 3) (q0 := 2) rfl rfl) rfl hl.1 rfl (Nat.le_of_ble_eq_true rfl) dX4_goBySeed_1 ⟨Nat.zero_le _, Nat.zero_le _⟩ (fun u_18 H locs hw hP hS => ?_)
    refine lv_iload_n hx hb dX4_goBySeed_4 rfl (lv_at hl 1 rfl) ?_
    refine lv_istore_n (lv' := [(3, .int a1), (0, .ref (ad 2)), (1, .int a1), (2, .int a2)]) hx hb dX4_goBySeed_5 rfl hl (by decide) rfl (fun ls hl => ?_)
    refine lv_iconst (v := 0) hx hb dX4_goBySeed_6 (by decide) ?_
    refine lv_istore (lv' := [(4, .int 0), (3, .int a1), (0, .ref (ad 2)), (1, .int a1), (2, .int a2)]) hx hb dX4_goBySeed_7 hl (by decide) rfl (fun ls hl => ?_)
    obtain ⟨n_20, hw⟩ := hw
    exact lab_9 n_20 _ _ _ _ _ _ _ hw hP hS (lv_sub hl [2, 4, 1, 0] rfl)
  exact key s.heap [] hP hS

abbrev rm_X4_goTick : Room := { frames := 5, cells := 0, slots := 0, locals := 134 }
set_option maxHeartbeats 4000000 in
set_option maxRecDepth 100000 in
theorem c_X4_goTick (l : Launch) (D : va_G) (ad : Nat → Nat) (cI cJ : ClassId) (hap : apart ad 42) (sz : Nat) (σ : St) (a1 : Int32) (K : St → Prop) (hw : w_X4_goTick σ a1 K) : Met l yX4_goTick wU_X4_goTick rm_X4_goTick (va_Pc [.ref (ad 2), .int a1] (fun U => U.heap.size = sz ∧ inW D (wdC ad cI cJ) [(cI, .int), (cJ, .long)] σ U)) (va_Qv K (inW D (wdC ad cI cJ) [(cI, .int), (cJ, .long)]) (AW ad 42 sz)) 0 0 (AW ad 42 sz) := by
  refine Met.ofW (cc := cX4_goTick) (maxL := 4) (ret := none) (by decide) rfl ?_
  intro p e s m args below meth c s₁ B hml hv
  obtain ⟨rfl, hsz, ⟨hP, hK⟩⟩ := hv
  have F : CallFix p m c cX4_goTick 4 s ([.ref (ad 2), .int a1] : List Value).toArray lw_U RX4 := ⟨B.exec, B.bytes, hml, findClass_of_methodNamed B.named, fun w h => atoms_spec (ws := wU_X4_goTick) B.pre w (List.mem_cons_of_mem _ h)⟩
  have hx := F.1
  have hb := F.2.1
  have hown := F.2.2.2.1
  have hts := F.2.2.2.2
  have hr := B.returns
  have hlocks := B.notSynchronized
  subst hsz
  have hDs : ∀ σ, va_D (AW ad 42 s.heap.size) ((wdC ad cI cJ) σ) := fun σ => wdC_D hap σ
  have hS : va_S (AW ad 42 s.heap.size) s.heap s.heap [] := va_S.rf
  have lab_41 : ∀ (σ : St) (x3 : Int32) (H : Heap) (locs : List Loc) (ls : Array Slot), b_X4_goTick_41 K σ x3 → va_P D vwCl ((wdC ad cI cJ) σ) H → va_S (AW ad 42 s.heap.size) s.heap H locs → lv_has ls 4 [(0, .ref (ad 2)), (3, .int x3)] → W p l e (headSpec wU_X4_goTick rm_X4_goTick).room s m ([.ref (ad 2), .int a1] : List Value).toArray below meth c H locs 0 0 (MQ below (va_Qv K (inW D (wdC ad cI cJ) [(cI, .int), (cJ, .long)]) (AW ad 42 s.heap.size)) ([.ref (ad 2), .int a1] : List Value).toArray s 0 0 (AW ad 42 s.heap.size)) (F0 m 41 ls []) := by
    intro σ x3 H locs ls hw hP hS hl
    unfold b_X4_goTick_41 at hw
    refine lv_aload_n hx hb dX4_goTick_41 rfl (lv_at hl 0 rfl) ?_
    refine lv_dup hx hb dX4_goTick_42 rfl ?_
    refine gC_X4_tickCount F hK hP (hts _ mw_151) dX4_goTick_43 ?_
    refine lv_iconst (v := 1) hx hb dX4_goTick_46 (by decide) ?_
    refine lv_iadd hx hb dX4_goTick_47 ?_
    refine pC_X4_tickCount F hK hP hDs hS (hts _ mw_151) dX4_goTick_48 (fun H locs hP hS => ?_)
    refine lv_aload_n hx hb dX4_goTick_51 rfl (lv_at hl 0 rfl) ?_
    refine lv_aload_n hx hb dX4_goTick_52 rfl (lv_at hl 0 rfl) ?_
    refine gC_X4_most F hK hP (hts _ mw_152) dX4_goTick_53 ?_
    refine jvi (y := (gS σ 7)) (by simp only [gS_sS, gS_sA, gS_sL, gS_fA, gS_fL, gA_sS, gA_sA, gA_sL, gA_fA, gA_fL, gL_sS, gL_sA, gL_sL, gL_fA, gL_fL, reduceIte, Nat.reduceEqDiff]) ?_
    refine lv_iload_n hx hb dX4_goTick_56 rfl (lv_at hl 1 rfl) ?_
    refine va_mmax hx hb (hml.trans hl.1.symm) hown (hts _ mw_341) (hts _ mw_342) (hts _ mw_343) (hts _ mw_344) (Nat.le_of_ble_eq_true rfl) (Nat.le_of_ble_eq_true rfl) (Nat.zero_le _) (Nat.zero_le _) dX4_goTick_57 ?_
    refine pC_X4_most F hK hP hDs hS (hts _ mw_152) dX4_goTick_60 (fun H locs hP hS => ?_)
    exact rtV F hr hlocks hK hw hP hS dX4_goTick_63
  have lab_10 : ∀ (n : Nat), ∀ (σ : St) (x1 : Int32) (x2 : Int32) (x3 : Int32) (H : Heap) (locs : List Loc) (ls : Array Slot), w_X4_goTick_10 K n σ x1 x2 x3 → va_P D vwCl ((wdC ad cI cJ) σ) H → va_S (AW ad 42 s.heap.size) s.heap H locs → lv_has ls 4 [(0, .ref (ad 2)), (1, .int x1), (2, .int x2), (3, .int x3)] → W p l e (headSpec wU_X4_goTick rm_X4_goTick).room s m ([.ref (ad 2), .int a1] : List Value).toArray below meth c H locs 0 0 (MQ below (va_Qv K (inW D (wdC ad cI cJ) [(cI, .int), (cJ, .long)]) (AW ad 42 s.heap.size)) ([.ref (ad 2), .int a1] : List Value).toArray s 0 0 (AW ad 42 s.heap.size)) (F0 m 10 ls []) := by
    intro n
    induction n with
    | zero =>
      intro σ x1 x2 x3 H locs ls hw
      exact hw.elim
    | succ n hL10 =>
      intro σ x1 x2 x3 H locs ls hw hP hS hl
      have hw : b_X4_goTick_10 (w_X4_goTick_10 K n) K σ x1 x2 x3 := hw
      unfold b_X4_goTick_10 at hw
      generalize w_X4_goTick_10 K n = L10 at hw hL10
      refine lv_iload_n hx hb dX4_goTick_10 rfl (lv_at hl 3 rfl) ?_
      refine lv_iload_n hx hb dX4_goTick_11 rfl (lv_at hl 2 rfl) ?_
      refine lv_icmp_ge (tgt := 41) hx hb dX4_goTick_12 (by decide) (fun c_8 => ?_) (fun c_8 => ?_)
      · have hw := hw.1 c_8
        exact lab_41 _ _ _ _ _ hw hP hS (lv_sub hl [0, 3] rfl)
      · have hw := hw.2 c_8
        refine lv_aload_n hx hb dX4_goTick_15 rfl (lv_at hl 0 rfl) ?_
        refine lv_iload_n hx hb dX4_goTick_16 rfl (lv_at hl 1 rfl) ?_
        refine cvI (As := [.int x1]) (rest := []) F hK hP hS (c_X4_mayStep l D ad cI cJ hap H.size _ _ _ hw) (cwV 1 hts gU_X4_54 rfl rfl rfl (by decide +kernel) ⟨Nat.le_of_ble_eq_true rfl, Nat.le_of_ble_eq_true rfl⟩) (va_recv hK hP (ci := 3) (q0 := 2) rfl rfl) rfl hl.1 rfl (Nat.le_of_ble_eq_true rfl) dX4_goTick_17 ⟨Nat.zero_le _, Nat.zero_le _⟩ (fun r_2 u_1 H locs hw hP hS => ?_)
        obtain ⟨zr_2, hw⟩ := hw
        refine lv_if_eq (tgt := 41) hx hb dX4_goTick_20 (by decide) (fun c_7 => ?_) (fun c_7 => ?_)
        · have hw := hw.1 c_7
          exact lab_41 _ _ _ _ _ hw hP hS (lv_sub hl [0, 3] rfl)
        · have hw := hw.2 c_7
          refine lv_aload_n hx hb dX4_goTick_23 rfl (lv_at hl 0 rfl) ?_
          refine lv_aload_n hx hb dX4_goTick_24 rfl (lv_at hl 0 rfl) ?_
          refine gC_X4_ready F hK hP (hts _ mw_98) dX4_goTick_25 ?_
          refine lv_iconst (v := 0) hx hb dX4_goTick_28 (by decide) ?_
          refine cvI (As := [.int 0]) (rest := [.ref (ad 2)]) F hK hP hS (c_X5_take l D ad cI cJ hap H.size _ _ _ hw) (cwV 1 hts gU_X4_63 rfl rfl rfl (by decide +kernel) ⟨Nat.le_of_ble_eq_true rfl, Nat.le_of_ble_eq_true rfl⟩) (va_recv hK hP (ci := 4) (q0 := 6) rfl rfl) rfl hl.1 rfl (Nat.le_of_ble_eq_true rfl) dX4_goTick_29 ⟨Nat.zero_le _, Nat.zero_le _⟩ (fun r_4 u_3 H locs hw hP hS => ?_)
          refine cvV (As := [.int r_4]) (rest := []) F hK hP hS (c_X4_goOff l D ad cI cJ hap H.size _ _ _ hw) (cwV 1 hts gU_X4_67 rfl rfl rfl (by decide +kernel) ⟨Nat.le_of_ble_eq_true rfl, Nat.le_of_ble_eq_true rfl⟩) (va_recv hK hP (ci := 3) (q0 := 2) rfl rfl) rfl hl.1 rfl (Nat.le_of_ble_eq_true rfl) dX4_goTick_32 ⟨Nat.zero_le _, Nat.zero_le _⟩ (fun u_5 H locs hw hP hS => ?_)
          refine lv_iinc (v := (x3 + 1)) (lv' := [(3, .int (x3 + 1)), (0, .ref (ad 2)), (1, .int x1), (2, .int x2)]) hx hb dX4_goTick_35 hl (k := 3) rfl rfl (by decide) rfl (fun ls hl => ?_)
          refine lv_goto (tgt := 10) hx hb dX4_goTick_38 (by decide) ?_
          exact hL10 _ _ _ _ _ _ _ hw hP hS (lv_sub hl [1, 2, 3, 0] rfl)
  have hl := lv_entry ([.ref (ad 2), .int a1]) (n := 4) (Nat.le_of_ble_eq_true rfl)
  rw [lg_entry_eq]
  generalize (lg_sl ([.ref (ad 2), .int a1]) ++ List.replicate (4 - (lg_sl ([.ref (ad 2), .int a1])).length) Slot.unset).toArray = ls at hl ⊢
  have hl : lv_has ls 4 [(0, .ref (ad 2)), (1, .int a1)] := hl
  have key : ∀ (H : Heap) (locs : List Loc), va_P D vwCl ((wdC ad cI cJ) σ) H → va_S (AW ad 42 s.heap.size) s.heap H locs → W p l e (headSpec wU_X4_goTick rm_X4_goTick).room s m ([.ref (ad 2), .int a1] : List Value).toArray below meth c H locs 0 0 (MQ below (va_Qv K (inW D (wdC ad cI cJ) [(cI, .int), (cJ, .long)]) (AW ad 42 s.heap.size)) ([.ref (ad 2), .int a1] : List Value).toArray s 0 0 (AW ad 42 s.heap.size)) (F0 m 0 ls []) := by
    intro H locs hP hS
    unfold w_X4_goTick at hw
    refine lv_aload_n hx hb dX4_goTick_0 rfl (lv_at hl 0 rfl) ?_
    refine gC_X4_ready F hK hP (hts _ mw_98) dX4_goTick_1 ?_
    refine cvI (As := []) (rest := []) F hK hP hS (c_X5_size l D ad cI cJ hap H.size _ _ hw) (cwV 0 hts gU_X4_59 rfl rfl rfl (by decide +kernel) ⟨Nat.le_of_ble_eq_true rfl, Nat.le_of_ble_eq_true rfl⟩) (va_recv hK hP (ci := 4) (q0 := 6) rfl rfl) rfl hl.1 rfl (Nat.le_of_ble_eq_true rfl) dX4_goTick_4 ⟨Nat.zero_le _, Nat.zero_le _⟩ (fun r_10 u_9 H locs hw hP hS => ?_)
    refine lv_istore_n (lv' := [(2, .int r_10), (0, .ref (ad 2)), (1, .int a1)]) hx hb dX4_goTick_7 rfl hl (by decide) rfl (fun ls hl => ?_)
    refine lv_iconst (v := 0) hx hb dX4_goTick_8 (by decide) ?_
    refine lv_istore_n (lv' := [(3, .int 0), (2, .int r_10), (0, .ref (ad 2)), (1, .int a1)]) hx hb dX4_goTick_9 rfl hl (by decide) rfl (fun ls hl => ?_)
    obtain ⟨n_11, hw⟩ := hw
    exact lab_10 n_11 _ _ _ _ _ _ _ hw hP hS (lv_sub hl [2, 3, 1, 0] rfl)
  exact key s.heap [] hP hS
