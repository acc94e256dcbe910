abbrev rm_X2_countTokens : Room := { frames := 0, cells := 0, slots := 0, locals := 0 }
set_option maxHeartbeats 4000000 in
set_option maxRecDepth 100000 in
theorem c_X2_countTokens (l : Launch) (D : va_G) (ad : Nat → Nat) (cI cJ : ClassId) (hap : apart ad 42) (sz : Nat) (σ : St) (a1 : Int32) (K : Int32 → St → Prop) (hw : w_X2_countTokens σ a1 K) : Met l yX2_countTokens wU_X2_countTokens rm_X2_countTokens (va_Pc [.ref (ad 1), .int a1] (fun U => U.heap.size = sz ∧ inW D (wdC ad cI cJ) [(cI, .int), (cJ, .long)] σ U)) (va_Qi K (inW D (wdC ad cI cJ) [(cI, .int), (cJ, .long)]) (AW ad 42 sz)) 0 0 (AW ad 42 sz) := by
  refine Met.ofW (cc := cX2_countTokens) (maxL := 4) (ret := (some .int)) (by decide) rfl ?_
  intro p e s m args below meth c s₁ B hml hv
  obtain ⟨rfl, hsz, ⟨hP, hK⟩⟩ := hv
  have F : CallFix p m c cX2_countTokens 4 s ([.ref (ad 1), .int a1] : List Value).toArray lw_U RX2 := ⟨B.exec, B.bytes, hml, findClass_of_methodNamed B.named, fun w h => atoms_spec (ws := wU_X2_countTokens) B.pre w (List.mem_cons_of_mem _ h)⟩
  have hx := F.1
  have hb := F.2.1
  have hown := F.2.2.2.1
  have hts := F.2.2.2.2
  have hr := B.returns
  have hlocks := B.notSynchronized
  subst hsz
  have hDs : ∀ σ, va_D (AW ad 42 s.heap.size) ((wdC ad cI cJ) σ) := fun σ => wdC_D hap σ
  have hS : va_S (AW ad 42 s.heap.size) s.heap s.heap [] := va_S.rf
  have lab_4 : ∀ (n : Nat), ∀ (σ : St) (x1 : Int32) (x2 : Int32) (x3 : Int32) (H : Heap) (locs : List Loc) (ls : Array Slot), w_X2_countTokens_4 K n σ x1 x2 x3 → va_P D vwCl ((wdC ad cI cJ) σ) H → va_S (AW ad 42 s.heap.size) s.heap H locs → lv_has ls 4 [(0, .ref (ad 1)), (1, .int x1), (2, .int x2), (3, .int x3)] → W p l e (headSpec wU_X2_countTokens rm_X2_countTokens).room s m ([.ref (ad 1), .int a1] : List Value).toArray below meth c H locs 0 0 (MQ below (va_Qi K (inW D (wdC ad cI cJ) [(cI, .int), (cJ, .long)]) (AW ad 42 s.heap.size)) ([.ref (ad 1), .int a1] : List Value).toArray s 0 0 (AW ad 42 s.heap.size)) (F0 m 4 ls []) := by
    intro n
    induction n with
    | zero =>
      intro σ x1 x2 x3 H locs ls hw
      exact hw.elim
    | succ n hL4 =>
      intro σ x1 x2 x3 H locs ls hw hP hS hl
      have hw : b_X2_countTokens_4 (w_X2_countTokens_4 K n) K σ x1 x2 x3 := hw
      unfold b_X2_countTokens_4 at hw
      generalize w_X2_countTokens_4 K n = L4 at hw hL4
      refine lv_iload_n hx hb dX2_countTokens_4 rfl (lv_at hl 3 rfl) ?_
      refine lv_aload_n hx hb dX2_countTokens_5 rfl (lv_at hl 0 rfl) ?_
      refine gC_X2_tokens F hK hP (hts _ mw_65) dX2_countTokens_6 ?_
      refine lv_icmp_ge (tgt := 31) hx hb dX2_countTokens_9 (by decide) (fun c_3 => ?_) (fun c_3 => ?_)
      · have hw := hw.1 c_3
        refine lv_iload_n hx hb dX2_countTokens_31 rfl (lv_at hl 2 rfl) ?_
        exact rtI F hr hlocks hK hw hP hS dX2_countTokens_32
      · have hw := hw.2 c_3
        refine lv_aload_n hx hb dX2_countTokens_12 rfl (lv_at hl 0 rfl) ?_
        refine gC_X2_tokenAct F hK hP (hts _ mw_66) dX2_countTokens_13 ?_
        refine lv_iload_n hx hb dX2_countTokens_16 rfl (lv_at hl 3 rfl) ?_
        obtain ⟨i_2, hw⟩ := hw
        refine lC_X2_tokenAct F hK hP i_2 dX2_countTokens_17 ?_
        refine lv_iload_n hx hb dX2_countTokens_18 rfl (lv_at hl 1 rfl) ?_
        refine lv_icmp_ne (tgt := 25) hx hb dX2_countTokens_19 (by decide) (fun c_1 => ?_) (fun c_1 => ?_)
        · have hw := hw.1 c_1
          refine lv_iinc (v := (x3 + 1)) (lv' := [(3, .int (x3 + 1)), (0, .ref (ad 1)), (1, .int x1), (2, .int x2)]) hx hb dX2_countTokens_25 hl (k := 3) rfl rfl (by decide) rfl (fun ls hl => ?_)
          refine lv_goto (tgt := 4) hx hb dX2_countTokens_28 (by decide) ?_
          exact hL4 _ _ _ _ _ _ _ hw hP hS (lv_sub hl [1, 2, 3, 0] rfl)
        · have hw := hw.2 c_1
          refine lv_iinc (v := (x2 + 1)) (lv' := [(2, .int (x2 + 1)), (0, .ref (ad 1)), (1, .int x1), (3, .int x3)]) hx hb dX2_countTokens_22 hl (k := 2) rfl rfl (by decide) rfl (fun ls hl => ?_)
          refine lv_iinc (v := (x3 + 1)) (lv' := [(3, .int (x3 + 1)), (2, .int (x2 + 1)), (0, .ref (ad 1)), (1, .int x1)]) hx hb dX2_countTokens_25 hl (k := 3) rfl rfl (by decide) rfl (fun ls hl => ?_)
          refine lv_goto (tgt := 4) hx hb dX2_countTokens_28 (by decide) ?_
          exact hL4 _ _ _ _ _ _ _ hw hP hS (lv_sub hl [2, 3, 1, 0] rfl)
  have hl := lv_entry ([.ref (ad 1), .int a1]) (n := 4) (Nat.le_of_ble_eq_true rfl)
  rw [lg_entry_eq]
  generalize (lg_sl ([.ref (ad 1), .int a1]) ++ List.replicate (4 - (lg_sl ([.ref (ad 1), .int a1])).length) Slot.unset).toArray = ls at hl ⊢
  have hl : lv_has ls 4 [(0, .ref (ad 1)), (1, .int a1)] := hl
  have key : ∀ (H : Heap) (locs : List Loc), va_P D vwCl ((wdC ad cI cJ) σ) H → va_S (AW ad 42 s.heap.size) s.heap H locs → W p l e (headSpec wU_X2_countTokens rm_X2_countTokens).room s m ([.ref (ad 1), .int a1] : List Value).toArray below meth c H locs 0 0 (MQ below (va_Qi K (inW D (wdC ad cI cJ) [(cI, .int), (cJ, .long)]) (AW ad 42 s.heap.size)) ([.ref (ad 1), .int a1] : List Value).toArray s 0 0 (AW ad 42 s.heap.size)) (F0 m 0 ls []) := by
    intro H locs hP hS
    unfold w_X2_countTokens at hw
    refine lv_iconst (v := 0) hx hb dX2_countTokens_0 (by decide) ?_
    refine lv_istore_n (lv' := [(2, .int 0), (0, .ref (ad 1)), (1, .int a1)]) hx hb dX2_countTokens_1 rfl hl (by decide) rfl (fun ls hl => ?_)
    refine lv_iconst (v := 0) hx hb dX2_countTokens_2 (by decide) ?_
    refine lv_istore_n (lv' := [(3, .int 0), (2, .int 0), (0, .ref (ad 1)), (1, .int a1)]) hx hb dX2_countTokens_3 rfl hl (by decide) rfl (fun ls hl => ?_)
    obtain ⟨n_4, hw⟩ := hw
    exact lab_4 n_4 _ _ _ _ _ _ _ hw hP hS (lv_sub hl [2, 3, 1, 0] rfl)
  exact key s.heap [] hP hS

abbrev rm_X2_parameterFor : Room := { frames := 0, cells := 0, slots := 0, locals := 0 }
set_option maxHeartbeats 4000000 in
set_option maxRecDepth 100000 in
theorem c_X2_parameterFor (l : Launch) (D : va_G) (ad : Nat → Nat) (cI cJ : ClassId) (hap : apart ad 42) (sz : Nat) (σ : St) (a1 : Int32) (a2 : Int32) (K : Int32 → St → Prop) (hw : w_X2_parameterFor σ a1 a2 K) : Met l yX2_parameterFor wU_X2_parameterFor rm_X2_parameterFor (va_Pc [.ref (ad 1), .int a1, .int a2] (fun U => U.heap.size = sz ∧ inW D (wdC ad cI cJ) [(cI, .int), (cJ, .long)] σ U)) (va_Qi K (inW D (wdC ad cI cJ) [(cI, .int), (cJ, .long)]) (AW ad 42 sz)) 0 0 (AW ad 42 sz) := by
  refine Met.ofW (cc := cX2_parameterFor) (maxL := 4) (ret := (some .int)) (by decide) rfl ?_
  intro p e s m args below meth c s₁ B hml hv
  obtain ⟨rfl, hsz, ⟨hP, hK⟩⟩ := hv
  have F : CallFix p m c cX2_parameterFor 4 s ([.ref (ad 1), .int a1, .int a2] : List Value).toArray lw_U RX2 := ⟨B.exec, B.bytes, hml, findClass_of_methodNamed B.named, fun w h => atoms_spec (ws := wU_X2_parameterFor) B.pre w (List.mem_cons_of_mem _ h)⟩
  have hx := F.1
  have hb := F.2.1
  have hown := F.2.2.2.1
  have hts := F.2.2.2.2
  have hr := B.returns
  have hlocks := B.notSynchronized
  subst hsz
  have hDs : ∀ σ, va_D (AW ad 42 s.heap.size) ((wdC ad cI cJ) σ) := fun σ => wdC_D hap σ
  have hS : va_S (AW ad 42 s.heap.size) s.heap s.heap [] := va_S.rf
  have hl := lv_entry ([.ref (ad 1), .int a1, .int a2]) (n := 4) (Nat.le_of_ble_eq_true rfl)
  rw [lg_entry_eq]
  generalize (lg_sl ([.ref (ad 1), .int a1, .int a2]) ++ List.replicate (4 - (lg_sl ([.ref (ad 1), .int a1, .int a2])).length) Slot.unset).toArray = ls at hl ⊢
  have hl : lv_has ls 4 [(0, .ref (ad 1)), (1, .int a1), (2, .int a2)] := hl
  have key : ∀ (H : Heap) (locs : List Loc), va_P D vwCl ((wdC ad cI cJ) σ) H → va_S (AW ad 42 s.heap.size) s.heap H locs → W p l e (headSpec wU_X2_parameterFor rm_X2_parameterFor).room s m ([.ref (ad 1), .int a1, .int a2] : List Value).toArray below meth c H locs 0 0 (MQ below (va_Qi K (inW D (wdC ad cI cJ) [(cI, .int), (cJ, .long)]) (AW ad 42 s.heap.size)) ([.ref (ad 1), .int a1, .int a2] : List Value).toArray s 0 0 (AW ad 42 s.heap.size)) (F0 m 0 ls []) := by
    intro H locs hP hS
    unfold w_X2_parameterFor at hw
    refine lv_bipush (v := 10) hx hb dX2_parameterFor_0 (by decide) ?_
    refine lv_aload_n hx hb dX2_parameterFor_2 rfl (lv_at hl 0 rfl) ?_
    refine gC_X2_number F hK hP (hts _ mw_40) dX2_parameterFor_3 ?_
    refine lv_iload_n hx hb dX2_parameterFor_6 rfl (lv_at hl 1 rfl) ?_
    obtain ⟨i_4, hw⟩ := hw
    refine lC_X2_number F hK hP i_4 dX2_parameterFor_7 ?_
    refine lv_imul hx hb dX2_parameterFor_8 ?_
    refine lv_iload_n hx hb dX2_parameterFor_9 rfl (lv_at hl 2 rfl) ?_
    refine lv_iadd hx hb dX2_parameterFor_10 ?_
    refine lv_istore_n (lv' := [(3, .int ((10 * (gA σ 1 (a1).toNatClampNeg)) + a2)), (0, .ref (ad 1)), (1, .int a1), (2, .int a2)]) hx hb dX2_parameterFor_11 rfl hl (by decide) rfl (fun ls hl => ?_)
    refine lv_iload_n hx hb dX2_parameterFor_12 rfl (lv_at hl 0 rfl) ?_
    refine lv_if_lt (tgt := 31) hx hb dX2_parameterFor_13 (by decide) (fun c_3 => ?_) (fun c_3 => ?_)
    · have hw := hw.1 c_3
      refine lv_iconst (v := (-1)) hx hb dX2_parameterFor_31 (by decide) ?_
      exact rtI F hr hlocks hK hw hP hS dX2_parameterFor_32
    · have hw := hw.2 c_3
      refine lv_iload_n hx hb dX2_parameterFor_16 rfl (lv_at hl 0 rfl) ?_
      refine lv_bipush (v := 100) hx hb dX2_parameterFor_17 (by decide) ?_
      refine lv_icmp_ge (tgt := 31) hx hb dX2_parameterFor_19 (by decide) (fun c_2 => ?_) (fun c_2 => ?_)
      · have hw := hw.1 c_2
        refine lv_iconst (v := (-1)) hx hb dX2_parameterFor_31 (by decide) ?_
        exact rtI F hr hlocks hK hw hP hS dX2_parameterFor_32
      · have hw := hw.2 c_2
        refine lv_aload_n hx hb dX2_parameterFor_22 rfl (lv_at hl 1 rfl) ?_
        refine gC_X2_parameter F hK hP (hts _ mw_44) dX2_parameterFor_23 ?_
        refine lv_iload_n hx hb dX2_parameterFor_26 rfl (lv_at hl 0 rfl) ?_
        obtain ⟨i_1, hw⟩ := hw
        refine lC_X2_parameter F hK hP i_1 dX2_parameterFor_27 ?_
        refine lv_goto (tgt := 32) hx hb dX2_parameterFor_28 (by decide) ?_
        exact rtI F hr hlocks hK hw hP hS dX2_parameterFor_32
  exact key s.heap [] hP hS

abbrev rm_X5_reset : Room := { frames := 0, cells := 0, slots := 0, locals := 0 }
set_option maxHeartbeats 4000000 in
set_option maxRecDepth 100000 in
theorem c_X5_reset (l : Launch) (D : va_G) (ad : Nat → Nat) (cI cJ : ClassId) (hap : apart ad 42) (sz : Nat) (σ : St) (K : St → Prop) (hw : w_X5_reset σ K) : Met l yX5_reset wU_X5_reset rm_X5_reset (va_Pc [.ref (ad 6)] (fun U => U.heap.size = sz ∧ inW D (wdC ad cI cJ) [(cI, .int), (cJ, .long)] σ U)) (va_Qv K (inW D (wdC ad cI cJ) [(cI, .int), (cJ, .long)]) (AW ad 42 sz)) 0 0 (AW ad 42 sz) := by
  refine Met.ofW (cc := cX5_reset) (maxL := 1) (ret := none) (by decide) rfl ?_
  intro p e s m args below meth c s₁ B hml hv
  obtain ⟨rfl, hsz, ⟨hP, hK⟩⟩ := hv
  have F : CallFix p m c cX5_reset 1 s ([.ref (ad 6)] : List Value).toArray lw_U RX5 := ⟨B.exec, B.bytes, hml, findClass_of_methodNamed B.named, fun w h => atoms_spec (ws := wU_X5_reset) B.pre w (List.mem_cons_of_mem _ h)⟩
  have hx := F.1
  have hb := F.2.1
  have hown := F.2.2.2.1
  have hts := F.2.2.2.2
  have hr := B.returns
  have hlocks := B.notSynchronized
  subst hsz
  have hDs : ∀ σ, va_D (AW ad 42 s.heap.size) ((wdC ad cI cJ) σ) := fun σ => wdC_D hap σ
  have hS : va_S (AW ad 42 s.heap.size) s.heap s.heap [] := va_S.rf
  have hl := lv_entry ([.ref (ad 6)]) (n := 1) (Nat.le_of_ble_eq_true rfl)
  rw [lg_entry_eq]
  generalize (lg_sl ([.ref (ad 6)]) ++ List.replicate (1 - (lg_sl ([.ref (ad 6)])).length) Slot.unset).toArray = ls at hl ⊢
  have hl : lv_has ls 1 [(0, .ref (ad 6))] := hl
  have key : ∀ (H : Heap) (locs : List Loc), va_P D vwCl ((wdC ad cI cJ) σ) H → va_S (AW ad 42 s.heap.size) s.heap H locs → W p l e (headSpec wU_X5_reset rm_X5_reset).room s m ([.ref (ad 6)] : List Value).toArray below meth c H locs 0 0 (MQ below (va_Qv K (inW D (wdC ad cI cJ) [(cI, .int), (cJ, .long)]) (AW ad 42 s.heap.size)) ([.ref (ad 6)] : List Value).toArray s 0 0 (AW ad 42 s.heap.size)) (F0 m 0 ls []) := by
    intro H locs hP hS
    unfold w_X5_reset at hw
    refine lv_aload_n hx hb dX5_reset_0 rfl (lv_at hl 0 rfl) ?_
    refine lv_iconst (v := 0) hx hb dX5_reset_1 (by decide) ?_
    refine pC_X5_head F hK hP hDs hS (hts _ mw_74) dX5_reset_2 (fun H locs hP hS => ?_)
    refine lv_aload_n hx hb dX5_reset_5 rfl (lv_at hl 0 rfl) ?_
    refine lv_iconst (v := 0) hx hb dX5_reset_6 (by decide) ?_
    refine pC_X5_tail F hK hP hDs hS (hts _ mw_75) dX5_reset_7 (fun H locs hP hS => ?_)
    exact rtV F hr hlocks hK hw hP hS dX5_reset_10
  exact key s.heap [] hP hS

abbrev rm_X6_reset : Room := { frames := 1, cells := 0, slots := 0, locals := 23 }
set_option maxHeartbeats 4000000 in
set_option maxRecDepth 100000 in
theorem c_X6_reset (l : Launch) (D : va_G) (ad : Nat → Nat) (cI cJ : ClassId) (hap : apart ad 42) (sz : Nat) (σ : St) (K : St → Prop) (hw : w_X6_reset σ K) : Met l yX6_reset wU_X6_reset rm_X6_reset (va_Pc [.ref (ad 3)] (fun U => U.heap.size = sz ∧ inW D (wdC ad cI cJ) [(cI, .int), (cJ, .long)] σ U)) (va_Qv K (inW D (wdC ad cI cJ) [(cI, .int), (cJ, .long)]) (AW ad 42 sz)) 0 0 (AW ad 42 sz) := by
  refine Met.ofW (cc := cX6_reset) (maxL := 1) (ret := none) (by decide) rfl ?_
  intro p e s m args below meth c s₁ B hml hv
  obtain ⟨rfl, hsz, ⟨hP, hK⟩⟩ := hv
  have F : CallFix p m c cX6_reset 1 s ([.ref (ad 3)] : List Value).toArray lw_U RX6 := ⟨B.exec, B.bytes, hml, findClass_of_methodNamed B.named, fun w h => atoms_spec (ws := wU_X6_reset) B.pre w (List.mem_cons_of_mem _ h)⟩
  have hx := F.1
  have hb := F.2.1
  have hown := F.2.2.2.1
  have hts := F.2.2.2.2
  have hr := B.returns
  have hlocks := B.notSynchronized
  subst hsz
  have hDs : ∀ σ, va_D (AW ad 42 s.heap.size) ((wdC ad cI cJ) σ) := fun σ => wdC_D hap σ
  have hS : va_S (AW ad 42 s.heap.size) s.heap s.heap [] := va_S.rf
  have hl := lv_entry ([.ref (ad 3)]) (n := 1) (Nat.le_of_ble_eq_true rfl)
  rw [lg_entry_eq]
  generalize (lg_sl ([.ref (ad 3)]) ++ List.replicate (1 - (lg_sl ([.ref (ad 3)])).length) Slot.unset).toArray = ls at hl ⊢
  have hl : lv_has ls 1 [(0, .ref (ad 3))] := hl
  have key : ∀ (H : Heap) (locs : List Loc), va_P D vwCl ((wdC ad cI cJ) σ) H → va_S (AW ad 42 s.heap.size) s.heap H locs → W p l e (headSpec wU_X6_reset rm_X6_reset).room s m ([.ref (ad 3)] : List Value).toArray below meth c H locs 0 0 (MQ below (va_Qv K (inW D (wdC ad cI cJ) [(cI, .int), (cJ, .long)]) (AW ad 42 s.heap.size)) ([.ref (ad 3)] : List Value).toArray s 0 0 (AW ad 42 s.heap.size)) (F0 m 0 ls []) := by
    intro H locs hP hS
    unfold w_X6_reset at hw
    refine lv_aload_n hx hb dX6_reset_0 rfl (lv_at hl 0 rfl) ?_
    refine lv_iconst (v := 0) hx hb dX6_reset_1 (by decide) ?_
    refine pC_X6_waiting F hK hP hDs hS (hts _ mw_76) dX6_reset_2 (fun H locs hP hS => ?_)
    refine lv_aload_n hx hb dX6_reset_5 rfl (lv_at hl 0 rfl) ?_
    refine lv_iconst (v := 0) hx hb dX6_reset_6 (by decide) ?_
    refine pC_X6_rows F hK hP hDs hS (hts _ mw_77) dX6_reset_7 (fun H locs hP hS => ?_)
    refine lv_aload_n hx hb dX6_reset_10 rfl (lv_at hl 0 rfl) ?_
    refine lv_iconst (v := 0) hx hb dX6_reset_11 (by decide) ?_
    refine pC_X6_cells F hK hP hDs hS (hts _ mw_78) dX6_reset_12 (fun H locs hP hS => ?_)
    refine lv_aload_n hx hb dX6_reset_15 rfl (lv_at hl 0 rfl) ?_
    refine gC_X6_rowOfAct F hK hP (hts _ mw_79) dX6_reset_16 ?_
    refine lv_iconst (v := (-1)) hx hb dX6_reset_19 (by decide) ?_
    refine fillI (rest := []) F hK hP (hDs _) hS 23 rfl (Nat.le_of_ble_eq_true rfl) (va_cwS 2 hts gU_X6_44 rfl rfl rfl (by decide +kernel) ⟨Nat.le_of_ble_eq_true rfl, Nat.le_of_ble_eq_true rfl⟩) hl.1 rfl (Nat.le_of_ble_eq_true rfl) dX6_reset_20 ⟨Nat.zero_le _, Nat.zero_le _⟩ (fun q h => AW.new h) (fun H locs hP hS => ?_)
    have hP : va_P D vwCl ((wdC ad cI cJ) (fA (sS (sS (sS σ 11 0) 12 0) 13 0) 13 (jfill (gA (sS (sS (sS σ 11 0) 12 0) 13 0) 13) 80 (-1)))) H := hP
    exact rtV F hr hlocks hK hw hP hS dX6_reset_23
  exact key s.heap [] hP hS

abbrev rm_X8_ofNumber : Room := { frames := 0, cells := 0, slots := 0, locals := 0 }
set_option maxHeartbeats 4000000 in
set_option maxRecDepth 100000 in
theorem c_X8_ofNumber (l : Launch) (D : va_G) (ad : Nat → Nat) (cI cJ : ClassId) (hap : apart ad 42) (sz : Nat) (σ : St) (a1 : Int32) (K : Int64 → St → Prop) (hw : w_X8_ofNumber σ a1 K) : Met l yX8_ofNumber wU_X8_ofNumber rm_X8_ofNumber (va_Pc [.int a1] (fun U => U.heap.size = sz ∧ inW D (wdC ad cI cJ) [(cI, .int), (cJ, .long)] σ U)) (va_Ql K (inW D (wdC ad cI cJ) [(cI, .int), (cJ, .long)]) (AW ad 42 sz)) 0 0 (AW ad 42 sz) := by
  refine Met.ofW (cc := cX8_ofNumber) (maxL := 1) (ret := (some .long)) (by decide) rfl ?_
  intro p e s m args below meth c s₁ B hml hv
  obtain ⟨rfl, hsz, ⟨hP, hK⟩⟩ := hv
  have F : CallFix p m c cX8_ofNumber 1 s ([.int a1] : List Value).toArray lw_U RX8 := ⟨B.exec, B.bytes, hml, findClass_of_methodNamed B.named, fun w h => atoms_spec (ws := wU_X8_ofNumber) B.pre w (List.mem_cons_of_mem _ h)⟩
  have hx := F.1
  have hb := F.2.1
  have hown := F.2.2.2.1
  have hts := F.2.2.2.2
  have hr := B.returns
  have hlocks := B.notSynchronized
  subst hsz
  have hDs : ∀ σ, va_D (AW ad 42 s.heap.size) ((wdC ad cI cJ) σ) := fun σ => wdC_D hap σ
  have hS : va_S (AW ad 42 s.heap.size) s.heap s.heap [] := va_S.rf
  have hl := lv_entry ([.int a1]) (n := 1) (Nat.le_of_ble_eq_true rfl)
  rw [lg_entry_eq]
  generalize (lg_sl ([.int a1]) ++ List.replicate (1 - (lg_sl ([.int a1])).length) Slot.unset).toArray = ls at hl ⊢
  have hl : lv_has ls 1 [(0, .int a1)] := hl
  have key : ∀ (H : Heap) (locs : List Loc), va_P D vwCl ((wdC ad cI cJ) σ) H → va_S (AW ad 42 s.heap.size) s.heap H locs → W p l e (headSpec wU_X8_ofNumber rm_X8_ofNumber).room s m ([.int a1] : List Value).toArray below meth c H locs 0 0 (MQ below (va_Ql K (inW D (wdC ad cI cJ) [(cI, .int), (cJ, .long)]) (AW ad 42 s.heap.size)) ([.int a1] : List Value).toArray s 0 0 (AW ad 42 s.heap.size)) (F0 m 0 ls []) := by
    intro H locs hP hS
    unfold w_X8_ofNumber at hw
    refine lv_ldc2 (v := 1099511627776) hx hb hown (hts _ mw_82) dX8_ofNumber_0 ?_
    refine lv_iload_n hx hb dX8_ofNumber_3 rfl (lv_at hl 0 rfl) ?_
    refine lv_i2l hx hb dX8_ofNumber_4 rfl ?_
    refine lv_ldc2 (v := 4294967295) hx hb hown (hts _ mw_81) dX8_ofNumber_5 ?_
    refine lv_land hx hb dX8_ofNumber_8 ?_
    refine lv_lor hx hb dX8_ofNumber_9 ?_
    exact rtL F hr hlocks hK hw hP hS dX8_ofNumber_10
  exact key s.heap [] hP hS

abbrev rm_X4_clashAt : Room := { frames := 0, cells := 0, slots := 0, locals := 0 }
set_option maxHeartbeats 4000000 in
set_option maxRecDepth 100000 in
theorem c_X4_clashAt (l : Launch) (D : va_G) (ad : Nat → Nat) (cI cJ : ClassId) (hap : apart ad 42) (sz : Nat) (σ : St) (a1 : Int32) (K : St → Prop) (hw : w_X4_clashAt σ a1 K) : Met l yX4_clashAt wU_X4_clashAt rm_X4_clashAt (va_Pc [.ref (ad 2), .int a1] (fun U => U.heap.size = sz ∧ inW D (wdC ad cI cJ) [(cI, .int), (cJ, .long)] σ U)) (va_Qv K (inW D (wdC ad cI cJ) [(cI, .int), (cJ, .long)]) (AW ad 42 sz)) 0 0 (AW ad 42 sz) := by
  refine Met.ofW (cc := cX4_clashAt) (maxL := 2) (ret := none) (by decide) rfl ?_
  intro p e s m args below meth c s₁ B hml hv
  obtain ⟨rfl, hsz, ⟨hP, hK⟩⟩ := hv
  have F : CallFix p m c cX4_clashAt 2 s ([.ref (ad 2), .int a1] : List Value).toArray lw_U RX4 := ⟨B.exec, B.bytes, hml, findClass_of_methodNamed B.named, fun w h => atoms_spec (ws := wU_X4_clashAt) B.pre w (List.mem_cons_of_mem _ h)⟩
  have hx := F.1
  have hb := F.2.1
  have hown := F.2.2.2.1
  have hts := F.2.2.2.2
  have hr := B.returns
  have hlocks := B.notSynchronized
  subst hsz
  have hDs : ∀ σ, va_D (AW ad 42 s.heap.size) ((wdC ad cI cJ) σ) := fun σ => wdC_D hap σ
  have hS : va_S (AW ad 42 s.heap.size) s.heap s.heap [] := va_S.rf
  have hl := lv_entry ([.ref (ad 2), .int a1]) (n := 2) (Nat.le_of_ble_eq_true rfl)
  rw [lg_entry_eq]
  generalize (lg_sl ([.ref (ad 2), .int a1]) ++ List.replicate (2 - (lg_sl ([.ref (ad 2), .int a1])).length) Slot.unset).toArray = ls at hl ⊢
  have hl : lv_has ls 2 [(0, .ref (ad 2)), (1, .int a1)] := hl
  have key : ∀ (H : Heap) (locs : List Loc), va_P D vwCl ((wdC ad cI cJ) σ) H → va_S (AW ad 42 s.heap.size) s.heap H locs → W p l e (headSpec wU_X4_clashAt rm_X4_clashAt).room s m ([.ref (ad 2), .int a1] : List Value).toArray below meth c H locs 0 0 (MQ below (va_Qv K (inW D (wdC ad cI cJ) [(cI, .int), (cJ, .long)]) (AW ad 42 s.heap.size)) ([.ref (ad 2), .int a1] : List Value).toArray s 0 0 (AW ad 42 s.heap.size)) (F0 m 0 ls []) := by
    intro H locs hP hS
    unfold w_X4_clashAt at hw
    refine lv_aload_n hx hb dX4_clashAt_0 rfl (lv_at hl 0 rfl) ?_
    refine lv_iconst (v := 1) hx hb dX4_clashAt_1 (by decide) ?_
    refine pC_X4_how F hK hP hDs hS (hts _ mw_83) dX4_clashAt_2 (fun H locs hP hS => ?_)
    refine lv_aload_n hx hb dX4_clashAt_5 rfl (lv_at hl 0 rfl) ?_
    refine lv_iload_n hx hb dX4_clashAt_6 rfl (lv_at hl 1 rfl) ?_
    refine pC_X4_clashAct F hK hP hDs hS (hts _ mw_84) dX4_clashAt_7 (fun H locs hP hS => ?_)
    exact rtV F hr hlocks hK hw hP hS dX4_clashAt_10
  exact key s.heap [] hP hS

abbrev rm_X5_add : Room := { frames := 0, cells := 0, slots := 0, locals := 0 }
set_option maxHeartbeats 4000000 in
set_option maxRecDepth 100000 in
theorem c_X5_add (l : Launch) (D : va_G) (ad : Nat → Nat) (cI cJ : ClassId) (hap : apart ad 42) (sz : Nat) (σ : St) (a1 : Int32) (K : St → Prop) (hw : w_X5_add σ a1 K) : Met l yX5_add wU_X5_add rm_X5_add (va_Pc [.ref (ad 6), .int a1] (fun U => U.heap.size = sz ∧ inW D (wdC ad cI cJ) [(cI, .int), (cJ, .long)] σ U)) (va_Qv K (inW D (wdC ad cI cJ) [(cI, .int), (cJ, .long)]) (AW ad 42 sz)) 0 0 (AW ad 42 sz) := by
  refine Met.ofW (cc := cX5_add) (maxL := 2) (ret := none) (by decide) rfl ?_
  intro p e s m args below meth c s₁ B hml hv
  obtain ⟨rfl, hsz, ⟨hP, hK⟩⟩ := hv
  have F : CallFix p m c cX5_add 2 s ([.ref (ad 6), .int a1] : List Value).toArray lw_U RX5 := ⟨B.exec, B.bytes, hml, findClass_of_methodNamed B.named, fun w h => atoms_spec (ws := wU_X5_add) B.pre w (List.mem_cons_of_mem _ h)⟩
  have hx := F.1
  have hb := F.2.1
  have hown := F.2.2.2.1
  have hts := F.2.2.2.2
  have hr := B.returns
  have hlocks := B.notSynchronized
  subst hsz
  have hDs : ∀ σ, va_D (AW ad 42 s.heap.size) ((wdC ad cI cJ) σ) := fun σ => wdC_D hap σ
  have hS : va_S (AW ad 42 s.heap.size) s.heap s.heap [] := va_S.rf
  have hl := lv_entry ([.ref (ad 6), .int a1]) (n := 2) (Nat.le_of_ble_eq_true rfl)
  rw [lg_entry_eq]
  generalize (lg_sl ([.ref (ad 6), .int a1]) ++ List.replicate (2 - (lg_sl ([.ref (ad 6), .int a1])).length) Slot.unset).toArray = ls at hl ⊢
  have hl : lv_has ls 2 [(0, .ref (ad 6)), (1, .int a1)] := hl
  have key : ∀ (H : Heap) (locs : List Loc), va_P D vwCl ((wdC ad cI cJ) σ) H → va_S (AW ad 42 s.heap.size) s.heap H locs → W p l e (headSpec wU_X5_add rm_X5_add).room s m ([.ref (ad 6), .int a1] : List Value).toArray below meth c H locs 0 0 (MQ below (va_Qv K (inW D (wdC ad cI cJ) [(cI, .int), (cJ, .long)]) (AW ad 42 s.heap.size)) ([.ref (ad 6), .int a1] : List Value).toArray s 0 0 (AW ad 42 s.heap.size)) (F0 m 0 ls []) := by
    intro H locs hP hS
    unfold w_X5_add at hw
    refine lv_aload_n hx hb dX5_add_0 rfl (lv_at hl 0 rfl) ?_
    refine gC_X5_tail F hK hP (hts _ mw_75) dX5_add_1 ?_
    refine lv_sipush (v := 3000) hx hb dX5_add_4 (by decide) ?_
    refine lv_icmp_ge (tgt := 30) hx hb dX5_add_7 (by decide) (fun c_2 => ?_) (fun c_2 => ?_)
    · have hw := hw.1 c_2
      exact rtV F hr hlocks hK hw hP hS dX5_add_30
    · have hw := hw.2 c_2
      refine lv_aload_n hx hb dX5_add_10 rfl (lv_at hl 0 rfl) ?_
      refine gC_X5_row F hK hP (hts _ mw_85) dX5_add_11 ?_
      refine lv_aload_n hx hb dX5_add_14 rfl (lv_at hl 0 rfl) ?_
      refine gC_X5_tail F hK hP (hts _ mw_75) dX5_add_15 ?_
      refine lv_iload_n hx hb dX5_add_18 rfl (lv_at hl 1 rfl) ?_
      obtain ⟨i_1, hw⟩ := hw
      refine sC_X5_row F hK hP hDs hS i_1 dX5_add_19 (fun H locs hP hS => ?_)
      refine lv_aload_n hx hb dX5_add_20 rfl (lv_at hl 0 rfl) ?_
      refine lv_dup hx hb dX5_add_21 rfl ?_
      refine gC_X5_tail F hK hP (hts _ mw_75) dX5_add_22 ?_
      refine jvi (y := (gS σ 18)) (by simp only [gS_sS, gS_sA, gS_sL, gS_fA, gS_fL, gA_sS, gA_sA, gA_sL, gA_fA, gA_fL, gL_sS, gL_sA, gL_sL, gL_fA, gL_fL, reduceIte, Nat.reduceEqDiff]) ?_
      refine lv_iconst (v := 1) hx hb dX5_add_25 (by decide) ?_
      refine lv_iadd hx hb dX5_add_26 ?_
      refine pC_X5_tail F hK hP hDs hS (hts _ mw_75) dX5_add_27 (fun H locs hP hS => ?_)
      exact rtV F hr hlocks hK hw hP hS dX5_add_30
  exact key s.heap [] hP hS

abbrev rm_X4_arrive : Room := { frames := 1, cells := 0, slots := 0, locals := 26 }
set_option maxHeartbeats 4000000 in
set_option maxRecDepth 100000 in
theorem c_X4_arrive (l : Launch) (D : va_G) (ad : Nat → Nat) (cI cJ : ClassId) (hap : apart ad 42) (sz : Nat) (σ : St) (a1 : Int32) (a2 : Int32) (a3 : Int32) (a4 : Int64) (K : St → Prop) (hw : w_X4_arrive σ a1 a2 a3 a4 K) : Met l yX4_arrive wU_X4_arrive rm_X4_arrive (va_Pc [.ref (ad 2), .int a1, .int a2, .int a3, .long a4] (fun U => U.heap.size = sz ∧ inW D (wdC ad cI cJ) [(cI, .int), (cJ, .long)] σ U)) (va_Qv K (inW D (wdC ad cI cJ) [(cI, .int), (cJ, .long)]) (AW ad 42 sz)) 0 0 (AW ad 42 sz) := by
  refine Met.ofW (cc := cX4_arrive) (maxL := 7) (ret := none) (by decide) rfl ?_
  intro p e s m args below meth c s₁ B hml hv
  obtain ⟨rfl, hsz, ⟨hP, hK⟩⟩ := hv
  have F : CallFix p m c cX4_arrive 7 s ([.ref (ad 2), .int a1, .int a2, .int a3, .long a4] : List Value).toArray lw_U RX4 := ⟨B.exec, B.bytes, hml, findClass_of_methodNamed B.named, fun w h => atoms_spec (ws := wU_X4_arrive) B.pre w (List.mem_cons_of_mem _ h)⟩
  have hx := F.1
  have hb := F.2.1
  have hown := F.2.2.2.1
  have hts := F.2.2.2.2
  have hr := B.returns
  have hlocks := B.notSynchronized
  subst hsz
  have hDs : ∀ σ, va_D (AW ad 42 s.heap.size) ((wdC ad cI cJ) σ) := fun σ => wdC_D hap σ
  have hS : va_S (AW ad 42 s.heap.size) s.heap s.heap [] := va_S.rf
  have lab_28 : ∀ (σ : St) (x1 : Int32) (x2 : Int32) (x4 : Int64) (x6 : Int32) (H : Heap) (locs : List Loc) (ls : Array Slot), b_X4_arrive_28 K σ x1 x2 x4 x6 → va_P D vwCl ((wdC ad cI cJ) σ) H → va_S (AW ad 42 s.heap.size) s.heap H locs → lv_has ls 7 [(0, .ref (ad 2)), (1, .int x1), (2, .int x2), (4, .long x4), (6, .int x6)] → W p l e (headSpec wU_X4_arrive rm_X4_arrive).room s m ([.ref (ad 2), .int a1, .int a2, .int a3, .long a4] : List Value).toArray below meth c H locs 0 0 (MQ below (va_Qv K (inW D (wdC ad cI cJ) [(cI, .int), (cJ, .long)]) (AW ad 42 s.heap.size)) ([.ref (ad 2), .int a1, .int a2, .int a3, .long a4] : List Value).toArray s 0 0 (AW ad 42 s.heap.size)) (F0 m 28 ls []) := by
    intro σ x1 x2 x4 x6 H locs ls hw hP hS hl
    unfold b_X4_arrive_28 at hw
    refine lv_iload hx hb dX4_arrive_28 (lv_at hl 4 rfl) ?_
    refine lv_iconst (v := (-1)) hx hb dX4_arrive_30 (by decide) ?_
    refine lv_icmp_ne (tgt := 42) hx hb dX4_arrive_31 (by decide) (fun c_12 => ?_) (fun c_12 => ?_)
    · have hw := hw.1 c_12
      refine lv_aload_n hx hb dX4_arrive_42 rfl (lv_at hl 0 rfl) ?_
      refine gC_X4_floor F hK hP (hts _ mw_86) dX4_arrive_43 ?_
      refine lv_iload hx hb dX4_arrive_46 (lv_at hl 4 rfl) ?_
      refine lv_iload_n hx hb dX4_arrive_48 rfl (lv_at hl 2 rfl) ?_
      refine cvI (As := [.int x6, .int x2]) (rest := []) F hK hP hS (c_X1_hadToken l D ad cI cJ hap H.size _ _ _ _ hw) (cwV 2 hts gU_X4_315 rfl rfl rfl (by decide +kernel) ⟨Nat.le_of_ble_eq_true rfl, Nat.le_of_ble_eq_true rfl⟩) (va_recv hK hP (ci := 1) (q0 := 5) rfl rfl) rfl hl.1 rfl (Nat.le_of_ble_eq_true rfl) dX4_arrive_49 ⟨Nat.zero_le _, Nat.zero_le _⟩ (fun r_2 u_1 H locs hw hP hS => ?_)
      obtain ⟨zr_2, hw⟩ := hw
      refine lv_if_eq (tgt := 63) hx hb dX4_arrive_52 (by decide) (fun c_11 => ?_) (fun c_11 => ?_)
      · have hw := hw.1 c_11
        refine lv_aload_n hx hb dX4_arrive_63 rfl (lv_at hl 0 rfl) ?_
        refine gC_X4_floor F hK hP (hts _ mw_86) dX4_arrive_64 ?_
        refine lv_iload hx hb dX4_arrive_67 (lv_at hl 4 rfl) ?_
        refine lv_iload_n hx hb dX4_arrive_69 rfl (lv_at hl 2 rfl) ?_
        refine lv_lload hx hb dX4_arrive_70 (lv_at hl 3 rfl) ?_
        refine lv_aload_n hx hb dX4_arrive_72 rfl (lv_at hl 0 rfl) ?_
        refine gC_X4_graph F hK hP (hts _ mw_92) dX4_arrive_73 ?_
        refine gC_X2_ports F hK hP (hts _ mw_93) dX4_arrive_76 ?_
        refine lv_iload_n hx hb dX4_arrive_79 rfl (lv_at hl 1 rfl) ?_
        obtain ⟨i_8, hw⟩ := hw
        refine lC_X2_ports F hK hP i_8 dX4_arrive_80 ?_
        refine cvI (As := [.int x6, .int x2, .long x4, .int (gA u_1 2 (x1).toNatClampNeg)]) (rest := []) F hK hP hS (c_X1_put l D ad cI cJ hap H.size _ _ _ _ _ _ hw) (cwV 4 hts gU_X4_318 rfl rfl rfl (by decide +kernel) ⟨Nat.le_of_ble_eq_true rfl, Nat.le_of_ble_eq_true rfl⟩) (va_recv hK hP (ci := 1) (q0 := 5) rfl rfl) rfl hl.1 rfl (Nat.le_of_ble_eq_true rfl) dX4_arrive_81 ⟨Nat.zero_le _, Nat.zero_le _⟩ (fun r_4 u_3 H locs hw hP hS => ?_)
        obtain ⟨zr_4, hw⟩ := hw
        refine lv_if_eq (tgt := 96) hx hb dX4_arrive_84 (by decide) (fun c_7 => ?_) (fun c_7 => ?_)
        · have hw := hw.1 c_7
          exact rtV F hr hlocks hK hw hP hS dX4_arrive_96
        · have hw := hw.2 c_7
          refine lv_aload_n hx hb dX4_arrive_87 rfl (lv_at hl 0 rfl) ?_
          refine gC_X4_ready F hK hP (hts _ mw_98) dX4_arrive_88 ?_
          refine lv_iload hx hb dX4_arrive_91 (lv_at hl 4 rfl) ?_
          refine cvV (As := [.int x6]) (rest := []) F hK hP hS (c_X5_add l D ad cI cJ hap H.size _ _ _ hw) (cwV 1 hts gU_X4_322 rfl rfl rfl (by decide +kernel) ⟨Nat.le_of_ble_eq_true rfl, Nat.le_of_ble_eq_true rfl⟩) (va_recv hK hP (ci := 4) (q0 := 6) rfl rfl) rfl hl.1 rfl (Nat.le_of_ble_eq_true rfl) dX4_arrive_93 ⟨Nat.zero_le _, Nat.zero_le _⟩ (fun u_5 H locs hw hP hS => ?_)
          exact rtV F hr hlocks hK hw hP hS dX4_arrive_96
      · have hw := hw.2 c_11
        refine lv_aload_n hx hb dX4_arrive_55 rfl (lv_at hl 0 rfl) ?_
        refine lv_iload_n hx hb dX4_arrive_56 rfl (lv_at hl 1 rfl) ?_
        refine cvV (As := [.int x1]) (rest := []) F hK hP hS (c_X4_clashAt l D ad cI cJ hap H.size _ _ _ hw) (cwV 1 hts gU_X4_284 rfl rfl rfl (by decide +kernel) ⟨Nat.le_of_ble_eq_true rfl, Nat.le_of_ble_eq_true rfl⟩) (va_recv hK hP (ci := 3) (q0 := 2) rfl rfl) rfl hl.1 rfl (Nat.le_of_ble_eq_true rfl) dX4_arrive_57 ⟨Nat.zero_le _, Nat.zero_le _⟩ (fun u_9 H locs hw hP hS => ?_)
        refine lv_goto (tgt := 96) hx hb dX4_arrive_60 (by decide) ?_
        exact rtV F hr hlocks hK hw hP hS dX4_arrive_96
    · have hw := hw.2 c_12
      refine lv_aload_n hx hb dX4_arrive_34 rfl (lv_at hl 0 rfl) ?_
      refine lv_iconst (v := 2) hx hb dX4_arrive_35 (by decide) ?_
      refine pC_X4_how F hK hP hDs hS (hts _ mw_83) dX4_arrive_36 (fun H locs hP hS => ?_)
      refine lv_goto (tgt := 96) hx hb dX4_arrive_39 (by decide) ?_
      exact rtV F hr hlocks hK hw hP hS dX4_arrive_96
  have hl := lv_entry ([.ref (ad 2), .int a1, .int a2, .int a3, .long a4]) (n := 7) (Nat.le_of_ble_eq_true rfl)
  rw [lg_entry_eq]
  generalize (lg_sl ([.ref (ad 2), .int a1, .int a2, .int a3, .long a4]) ++ List.replicate (7 - (lg_sl ([.ref (ad 2), .int a1, .int a2, .int a3, .long a4])).length) Slot.unset).toArray = ls at hl ⊢
  have hl : lv_has ls 7 [(0, .ref (ad 2)), (1, .int a1), (2, .int a2), (3, .int a3), (4, .long a4)] := hl
  have key : ∀ (H : Heap) (locs : List Loc), va_P D vwCl ((wdC ad cI cJ) σ) H → va_S (AW ad 42 s.heap.size) s.heap H locs → W p l e (headSpec wU_X4_arrive rm_X4_arrive).room s m ([.ref (ad 2), .int a1, .int a2, .int a3, .long a4] : List Value).toArray below meth c H locs 0 0 (MQ below (va_Qv K (inW D (wdC ad cI cJ) [(cI, .int), (cJ, .long)]) (AW ad 42 s.heap.size)) ([.ref (ad 2), .int a1, .int a2, .int a3, .long a4] : List Value).toArray s 0 0 (AW ad 42 s.heap.size)) (F0 m 0 ls []) := by
    intro H locs hP hS
    unfold w_X4_arrive at hw
    refine lv_aload_n hx hb dX4_arrive_0 rfl (lv_at hl 0 rfl) ?_
    refine gC_X4_floor F hK hP (hts _ mw_86) dX4_arrive_1 ?_
    refine lv_iload_n hx hb dX4_arrive_4 rfl (lv_at hl 1 rfl) ?_
    refine lv_iload_n hx hb dX4_arrive_5 rfl (lv_at hl 3 rfl) ?_
    refine cvI (As := [.int a1, .int a3]) (rest := []) F hK hP hS (c_X1_find l D ad cI cJ hap H.size _ _ _ _ hw) (cwV 2 hts gU_X4_309 rfl rfl rfl (by decide +kernel) ⟨Nat.le_of_ble_eq_true rfl, Nat.le_of_ble_eq_true rfl⟩) (va_recv hK hP (ci := 1) (q0 := 5) rfl rfl) rfl hl.1 rfl (Nat.le_of_ble_eq_true rfl) dX4_arrive_6 ⟨Nat.zero_le _, Nat.zero_le _⟩ (fun r_14 u_13 H locs hw hP hS => ?_)
    refine lv_istore (lv' := [(6, .int r_14), (0, .ref (ad 2)), (1, .int a1), (2, .int a2), (3, .int a3), (4, .long a4)]) hx hb dX4_arrive_9 hl (by decide) rfl (fun ls hl => ?_)
    refine lv_iload hx hb dX4_arrive_11 (lv_at hl 0 rfl) ?_
    refine lv_iconst (v := (-1)) hx hb dX4_arrive_13 (by decide) ?_
    refine lv_icmp_ne (tgt := 28) hx hb dX4_arrive_14 (by decide) (fun c_17 => ?_) (fun c_17 => ?_)
    · have hw := hw.1 c_17
      exact lab_28 _ _ _ _ _ _ _ _ hw hP hS (lv_sub hl [1, 2, 3, 5, 0] rfl)
    · have hw := hw.2 c_17
      refine lv_aload_n hx hb dX4_arrive_17 rfl (lv_at hl 1 rfl) ?_
      refine gC_X4_floor F hK hP (hts _ mw_86) dX4_arrive_18 ?_
      refine lv_iload_n hx hb dX4_arrive_21 rfl (lv_at hl 2 rfl) ?_
      refine lv_iload_n hx hb dX4_arrive_22 rfl (lv_at hl 4 rfl) ?_
      refine cvI (As := [.int a1, .int a3]) (rest := []) F hK hP hS (c_X1_add l D ad cI cJ hap H.size _ _ _ _ hw) (cwV 2 hts gU_X4_312 rfl rfl rfl (by decide +kernel) ⟨Nat.le_of_ble_eq_true rfl, Nat.le_of_ble_eq_true rfl⟩) (va_recv hK hP (ci := 1) (q0 := 5) rfl rfl) rfl hl.1 rfl (Nat.le_of_ble_eq_true rfl) dX4_arrive_23 ⟨Nat.zero_le _, Nat.zero_le _⟩ (fun r_16 u_15 H locs hw hP hS => ?_)
      refine lv_istore (lv' := [(6, .int r_16), (0, .ref (ad 2)), (1, .int a1), (2, .int a2), (3, .int a3), (4, .long a4)]) hx hb dX4_arrive_26 hl (by decide) rfl (fun ls hl => ?_)
      exact lab_28 _ _ _ _ _ _ _ _ hw hP hS (lv_sub hl [1, 2, 3, 5, 0] rfl)
  exact key s.heap [] hP hS

abbrev rm_X4_begin : Room := { frames := 2, cells := 0, slots := 0, locals := 52 }
set_option maxHeartbeats 4000000 in
set_option maxRecDepth 100000 in
theorem c_X4_begin (l : Launch) (D : va_G) (ad : Nat → Nat) (cI cJ : ClassId) (hap : apart ad 42) (sz : Nat) (σ : St) (K : St → Prop) (hw : w_X4_begin σ K) : Met l yX4_begin wU_X4_begin rm_X4_begin (va_Pc [.ref (ad 2)] (fun U => U.heap.size = sz ∧ inW D (wdC ad cI cJ) [(cI, .int), (cJ, .long)] σ U)) (va_Qv K (inW D (wdC ad cI cJ) [(cI, .int), (cJ, .long)]) (AW ad 42 sz)) 0 0 (AW ad 42 sz) := by
  refine Met.ofW (cc := cX4_begin) (maxL := 4) (ret := none) (by decide) rfl ?_
  intro p e s m args below meth c s₁ B hml hv
  obtain ⟨rfl, hsz, ⟨hP, hK⟩⟩ := hv
  have F : CallFix p m c cX4_begin 4 s ([.ref (ad 2)] : List Value).toArray lw_U RX4 := ⟨B.exec, B.bytes, hml, findClass_of_methodNamed B.named, fun w h => atoms_spec (ws := wU_X4_begin) B.pre w (List.mem_cons_of_mem _ h)⟩
  have hx := F.1
  have hb := F.2.1
  have hown := F.2.2.2.1
  have hts := F.2.2.2.2
  have hr := B.returns
  have hlocks := B.notSynchronized
  subst hsz
  have hDs : ∀ σ, va_D (AW ad 42 s.heap.size) ((wdC ad cI cJ) σ) := fun σ => wdC_D hap σ
  have hS : va_S (AW ad 42 s.heap.size) s.heap s.heap [] := va_S.rf
  have lab_81 : ∀ (n : Nat), ∀ (σ : St) (x1 : Int32) (H : Heap) (locs : List Loc) (ls : Array Slot), w_X4_begin_81 K n σ x1 → va_P D vwCl ((wdC ad cI cJ) σ) H → va_S (AW ad 42 s.heap.size) s.heap H locs → lv_has ls 4 [(0, .ref (ad 2)), (1, .int x1)] → W p l e (headSpec wU_X4_begin rm_X4_begin).room s m ([.ref (ad 2)] : List Value).toArray below meth c H locs 0 0 (MQ below (va_Qv K (inW D (wdC ad cI cJ) [(cI, .int), (cJ, .long)]) (AW ad 42 s.heap.size)) ([.ref (ad 2)] : List Value).toArray s 0 0 (AW ad 42 s.heap.size)) (F0 m 81 ls []) := by
    intro n
    induction n with
    | zero =>
      intro σ x1 H locs ls hw
      exact hw.elim
    | succ n hL81 =>
      intro σ x1 H locs ls hw hP hS hl
      have hw : b_X4_begin_81 (w_X4_begin_81 K n) K σ x1 := hw
      unfold b_X4_begin_81 at hw
      generalize w_X4_begin_81 K n = L81 at hw hL81
      refine lv_iload_n hx hb dX4_begin_81 rfl (lv_at hl 1 rfl) ?_
      refine lv_aload_n hx hb dX4_begin_82 rfl (lv_at hl 0 rfl) ?_
      refine gC_X4_graph F hK hP (hts _ mw_92) dX4_begin_83 ?_
      refine gC_X2_tokens F hK hP (hts _ mw_117) dX4_begin_86 ?_
      refine lv_icmp_ge (tgt := 143) hx hb dX4_begin_89 (by decide) (fun c_9 => ?_) (fun c_9 => ?_)
      · have hw := hw.1 c_9
        exact rtV F hr hlocks hK hw hP hS dX4_begin_143
      · have hw := hw.2 c_9
        refine lv_aload_n hx hb dX4_begin_92 rfl (lv_at hl 0 rfl) ?_
        refine gC_X4_how F hK hP (hts _ mw_83) dX4_begin_93 ?_
        refine lv_iconst (v := (-1)) hx hb dX4_begin_96 (by decide) ?_
        refine lv_icmp_ne (tgt := 143) hx hb dX4_begin_97 (by decide) (fun c_8 => ?_) (fun c_8 => ?_)
        · have hw := hw.1 c_8
          exact rtV F hr hlocks hK hw hP hS dX4_begin_143
        · have hw := hw.2 c_8
          refine lv_aload_n hx hb dX4_begin_100 rfl (lv_at hl 0 rfl) ?_
          refine gC_X4_graph F hK hP (hts _ mw_92) dX4_begin_101 ?_
          refine gC_X2_tokenValue F hK hP (hts _ mw_118) dX4_begin_104 ?_
          refine lv_iload_n hx hb dX4_begin_107 rfl (lv_at hl 1 rfl) ?_
          obtain ⟨i_7, hw⟩ := hw
          refine lC_X2_tokenValue F hK hP i_7 dX4_begin_108 ?_
          refine csL (As := [.int (gA σ 11 (x1).toNatClampNeg)]) (rest := []) F hK hP hS (c_X8_ofNumber l D ad cI cJ hap H.size _ _ _ hw) (va_cwS 1 hts gU_X4_151 rfl rfl rfl (by decide +kernel) ⟨Nat.le_of_ble_eq_true rfl, Nat.le_of_ble_eq_true rfl⟩) rfl hl.1 rfl (Nat.le_of_ble_eq_true rfl) dX4_begin_109 ⟨Nat.zero_le _, Nat.zero_le _⟩ (fun r_2 u_1 H locs hw hP hS => ?_)
          refine lv_lstore_n (lv' := [(2, .long r_2), (0, .ref (ad 2)), (1, .int x1)]) hx hb dX4_begin_112 rfl hl (by decide) rfl (fun ls hl => ?_)
          refine lv_aload_n hx hb dX4_begin_113 rfl (lv_at hl 1 rfl) ?_
          refine lv_aload_n hx hb dX4_begin_114 rfl (lv_at hl 1 rfl) ?_
          refine gC_X4_graph F hK hP (hts _ mw_92) dX4_begin_115 ?_
          refine gC_X2_tokenAct F hK hP (hts _ mw_123) dX4_begin_118 ?_
          refine lv_iload_n hx hb dX4_begin_121 rfl (lv_at hl 2 rfl) ?_
          obtain ⟨i_6, hw⟩ := hw
          refine lC_X2_tokenAct F hK hP i_6 dX4_begin_122 ?_
          refine lv_aload_n hx hb dX4_begin_123 rfl (lv_at hl 1 rfl) ?_
          refine gC_X4_graph F hK hP (hts _ mw_92) dX4_begin_124 ?_
          refine gC_X2_tokenPort F hK hP (hts _ mw_124) dX4_begin_127 ?_
          refine lv_iload_n hx hb dX4_begin_130 rfl (lv_at hl 2 rfl) ?_
          obtain ⟨i_5, hw⟩ := hw
          refine lC_X2_tokenPort F hK hP i_5 dX4_begin_131 ?_
          refine lv_iconst (v := 0) hx hb dX4_begin_132 (by decide) ?_
          refine lv_lload_n hx hb dX4_begin_133 rfl (lv_at hl 0 rfl) ?_
          refine cvV (As := [.int (gA u_1 9 (x1).toNatClampNeg), .int (gA u_1 10 (x1).toNatClampNeg), .int 0, .long r_2]) (rest := []) F hK hP hS (c_X4_arrive l D ad cI cJ hap H.size _ _ _ _ _ _ hw) (cwV 4 hts gU_X4_160 rfl rfl rfl (by decide +kernel) ⟨Nat.le_of_ble_eq_true rfl, Nat.le_of_ble_eq_true rfl⟩) (va_recv hK hP (ci := 3) (q0 := 2) rfl rfl) rfl hl.1 rfl (Nat.le_of_ble_eq_true rfl) dX4_begin_134 ⟨Nat.zero_le _, Nat.zero_le _⟩ (fun u_3 H locs hw hP hS => ?_)
          refine lv_iinc (v := (x1 + 1)) (lv' := [(1, .int (x1 + 1)), (2, .long r_2), (0, .ref (ad 2))]) hx hb dX4_begin_137 hl (k := 2) rfl rfl (by decide) rfl (fun ls hl => ?_)
          refine lv_goto (tgt := 81) hx hb dX4_begin_140 (by decide) ?_
          exact hL81 _ _ _ _ _ hw hP hS (lv_sub hl [2, 0] rfl)
  have hl := lv_entry ([.ref (ad 2)]) (n := 4) (Nat.le_of_ble_eq_true rfl)
  rw [lg_entry_eq]
  generalize (lg_sl ([.ref (ad 2)]) ++ List.replicate (4 - (lg_sl ([.ref (ad 2)])).length) Slot.unset).toArray = ls at hl ⊢
  have hl : lv_has ls 4 [(0, .ref (ad 2))] := hl
  have key : ∀ (H : Heap) (locs : List Loc), va_P D vwCl ((wdC ad cI cJ) σ) H → va_S (AW ad 42 s.heap.size) s.heap H locs → W p l e (headSpec wU_X4_begin rm_X4_begin).room s m ([.ref (ad 2)] : List Value).toArray below meth c H locs 0 0 (MQ below (va_Qv K (inW D (wdC ad cI cJ) [(cI, .int), (cJ, .long)]) (AW ad 42 s.heap.size)) ([.ref (ad 2)] : List Value).toArray s 0 0 (AW ad 42 s.heap.size)) (F0 m 0 ls []) := by
    intro H locs hP hS
    unfold w_X4_begin at hw
    refine lv_aload_n hx hb dX4_begin_0 rfl (lv_at hl 0 rfl) ?_
    refine gC_X4_colours F hK hP (hts _ mw_129) dX4_begin_1 ?_
    refine cvV (As := []) (rest := []) F hK hP hS (c_X0_reset l D ad cI cJ hap H.size _ _ hw) (cwV 0 hts gU_X4_128 rfl rfl rfl (by decide +kernel) ⟨Nat.le_of_ble_eq_true rfl, Nat.le_of_ble_eq_true rfl⟩) (va_recv hK hP (ci := 0) (q0 := 4) rfl rfl) rfl hl.1 rfl (Nat.le_of_ble_eq_true rfl) dX4_begin_4 ⟨Nat.zero_le _, Nat.zero_le _⟩ (fun u_10 H locs hw hP hS => ?_)
    refine lv_aload_n hx hb dX4_begin_7 rfl (lv_at hl 0 rfl) ?_
    refine gC_X4_floor F hK hP (hts _ mw_86) dX4_begin_8 ?_
    refine cvV (As := []) (rest := []) F hK hP hS (c_X1_reset l D ad cI cJ hap H.size _ _ hw) (cwV 0 hts gU_X4_131 rfl rfl rfl (by decide +kernel) ⟨Nat.le_of_ble_eq_true rfl, Nat.le_of_ble_eq_true rfl⟩) (va_recv hK hP (ci := 1) (q0 := 5) rfl rfl) rfl hl.1 rfl (Nat.le_of_ble_eq_true rfl) dX4_begin_11 ⟨Nat.zero_le _, Nat.zero_le _⟩ (fun u_12 H locs hw hP hS => ?_)
    refine lv_aload_n hx hb dX4_begin_14 rfl (lv_at hl 0 rfl) ?_
    refine gC_X4_ready F hK hP (hts _ mw_98) dX4_begin_15 ?_
    refine cvV (As := []) (rest := []) F hK hP hS (c_X5_reset l D ad cI cJ hap H.size _ _ hw) (cwV 0 hts gU_X4_132 rfl rfl rfl (by decide +kernel) ⟨Nat.le_of_ble_eq_true rfl, Nat.le_of_ble_eq_true rfl⟩) (va_recv hK hP (ci := 4) (q0 := 6) rfl rfl) rfl hl.1 rfl (Nat.le_of_ble_eq_true rfl) dX4_begin_18 ⟨Nat.zero_le _, Nat.zero_le _⟩ (fun u_14 H locs hw hP hS => ?_)
    refine lv_aload_n hx hb dX4_begin_21 rfl (lv_at hl 0 rfl) ?_
    refine gC_X4_store F hK hP (hts _ mw_142) dX4_begin_22 ?_
    refine cvV (As := []) (rest := []) F hK hP hS (c_X6_reset l D ad cI cJ hap H.size _ _ hw) (cwV 0 hts gU_X4_133 rfl rfl rfl (by decide +kernel) ⟨Nat.le_of_ble_eq_true rfl, Nat.le_of_ble_eq_true rfl⟩) (va_recv hK hP (ci := 5) (q0 := 3) rfl rfl) rfl hl.1 rfl (Nat.le_of_ble_eq_true rfl) dX4_begin_25 ⟨Nat.zero_le _, Nat.zero_le _⟩ (fun u_16 H locs hw hP hS => ?_)
    refine lv_aload_n hx hb dX4_begin_28 rfl (lv_at hl 0 rfl) ?_
    refine gC_X4_firings F hK hP (hts _ mw_148) dX4_begin_29 ?_
    refine lv_iconst (v := 0) hx hb dX4_begin_32 (by decide) ?_
    refine fillI (rest := []) F hK hP (hDs _) hS 21 rfl (Nat.le_of_ble_eq_true rfl) (va_cwS 2 hts gU_X4_134 rfl rfl rfl (by decide +kernel) ⟨Nat.le_of_ble_eq_true rfl, Nat.le_of_ble_eq_true rfl⟩) hl.1 rfl (Nat.le_of_ble_eq_true rfl) dX4_begin_33 ⟨Nat.zero_le _, Nat.zero_le _⟩ (fun q h => AW.new h) (fun H locs hP hS => ?_)
    have hP : va_P D vwCl ((wdC ad cI cJ) (fA u_16 12 (jfill (gA u_16 12) 80 0))) H := hP
    refine lv_aload_n hx hb dX4_begin_36 rfl (lv_at hl 0 rfl) ?_
    refine gC_X4_ends F hK hP (hts _ mw_149) dX4_begin_37 ?_
    refine lv_lconst (v := 0) hx hb dX4_begin_40 (by decide) ?_
    refine fillL (rest := []) F hK hP (hDs _) hS 22 rfl (Nat.le_of_ble_eq_true rfl) (va_cwS 2 hts gU_X4_140 rfl rfl rfl (by decide +kernel) ⟨Nat.le_of_ble_eq_true rfl, Nat.le_of_ble_eq_true rfl⟩) hl.1 rfl (Nat.le_of_ble_eq_true rfl) dX4_begin_41 ⟨Nat.zero_le _, Nat.zero_le _⟩ (fun q h => AW.new h) (fun H locs hP hS => ?_)
    have hP : va_P D vwCl ((wdC ad cI cJ) (fL (fA u_16 12 (jfill (gA u_16 12) 80 0)) 2 (jfill (gL (fA u_16 12 (jfill (gA u_16 12) 80 0)) 2) 10 0))) H := hP
    refine lv_aload_n hx hb dX4_begin_44 rfl (lv_at hl 0 rfl) ?_
    refine lv_iconst (v := (-1)) hx hb dX4_begin_45 (by decide) ?_
    refine pC_X4_how F hK hP hDs hS (hts _ mw_83) dX4_begin_46 (fun H locs hP hS => ?_)
    refine lv_aload_n hx hb dX4_begin_49 rfl (lv_at hl 0 rfl) ?_
    refine lv_iconst (v := 0) hx hb dX4_begin_50 (by decide) ?_
    refine pC_X4_steps F hK hP hDs hS (hts _ mw_150) dX4_begin_51 (fun H locs hP hS => ?_)
    refine lv_aload_n hx hb dX4_begin_54 rfl (lv_at hl 0 rfl) ?_
    refine lv_iconst (v := 0) hx hb dX4_begin_55 (by decide) ?_
    refine pC_X4_tickCount F hK hP hDs hS (hts _ mw_151) dX4_begin_56 (fun H locs hP hS => ?_)
    refine lv_aload_n hx hb dX4_begin_59 rfl (lv_at hl 0 rfl) ?_
    refine lv_iconst (v := 0) hx hb dX4_begin_60 (by decide) ?_
    refine pC_X4_most F hK hP hDs hS (hts _ mw_152) dX4_begin_61 (fun H locs hP hS => ?_)
    refine lv_aload_n hx hb dX4_begin_64 rfl (lv_at hl 0 rfl) ?_
    refine lv_iconst (v := 0) hx hb dX4_begin_65 (by decide) ?_
    refine pC_X4_lost F hK hP hDs hS (hts _ mw_153) dX4_begin_66 (fun H locs hP hS => ?_)
    refine lv_aload_n hx hb dX4_begin_69 rfl (lv_at hl 0 rfl) ?_
    refine lv_iconst (v := 0) hx hb dX4_begin_70 (by decide) ?_
    refine pC_X4_strays F hK hP hDs hS (hts _ mw_154) dX4_begin_71 (fun H locs hP hS => ?_)
    refine lv_aload_n hx hb dX4_begin_74 rfl (lv_at hl 0 rfl) ?_
    refine lv_iconst (v := (-1)) hx hb dX4_begin_75 (by decide) ?_
    refine pC_X4_clashAct F hK hP hDs hS (hts _ mw_84) dX4_begin_76 (fun H locs hP hS => ?_)
    refine lv_iconst (v := 0) hx hb dX4_begin_79 (by decide) ?_
    refine lv_istore_n (lv' := [(1, .int 0), (0, .ref (ad 2))]) hx hb dX4_begin_80 rfl hl (by decide) rfl (fun ls hl => ?_)
    obtain ⟨n_18, hw⟩ := hw
    exact lab_81 n_18 _ _ _ _ _ hw hP hS (lv_sub hl [1, 0] rfl)
  exact key s.heap [] hP hS

abbrev rm_X5_size : Room := { frames := 0, cells := 0, slots := 0, locals := 0 }
set_option maxHeartbeats 4000000 in
set_option maxRecDepth 100000 in
theorem c_X5_size (l : Launch) (D : va_G) (ad : Nat → Nat) (cI cJ : ClassId) (hap : apart ad 42) (sz : Nat) (σ : St) (K : Int32 → St → Prop) (hw : w_X5_size σ K) : Met l yX5_size wU_X5_size rm_X5_size (va_Pc [.ref (ad 6)] (fun U => U.heap.size = sz ∧ inW D (wdC ad cI cJ) [(cI, .int), (cJ, .long)] σ U)) (va_Qi K (inW D (wdC ad cI cJ) [(cI, .int), (cJ, .long)]) (AW ad 42 sz)) 0 0 (AW ad 42 sz) := by
  refine Met.ofW (cc := cX5_size) (maxL := 1) (ret := (some .int)) (by decide) rfl ?_
  intro p e s m args below meth c s₁ B hml hv
  obtain ⟨rfl, hsz, ⟨hP, hK⟩⟩ := hv
  have F : CallFix p m c cX5_size 1 s ([.ref (ad 6)] : List Value).toArray lw_U RX5 := ⟨B.exec, B.bytes, hml, findClass_of_methodNamed B.named, fun w h => atoms_spec (ws := wU_X5_size) B.pre w (List.mem_cons_of_mem _ h)⟩
  have hx := F.1
  have hb := F.2.1
  have hown := F.2.2.2.1
  have hts := F.2.2.2.2
  have hr := B.returns
  have hlocks := B.notSynchronized
  subst hsz
  have hDs : ∀ σ, va_D (AW ad 42 s.heap.size) ((wdC ad cI cJ) σ) := fun σ => wdC_D hap σ
  have hS : va_S (AW ad 42 s.heap.size) s.heap s.heap [] := va_S.rf
  have hl := lv_entry ([.ref (ad 6)]) (n := 1) (Nat.le_of_ble_eq_true rfl)
  rw [lg_entry_eq]
  generalize (lg_sl ([.ref (ad 6)]) ++ List.replicate (1 - (lg_sl ([.ref (ad 6)])).length) Slot.unset).toArray = ls at hl ⊢
  have hl : lv_has ls 1 [(0, .ref (ad 6))] := hl
  have key : ∀ (H : Heap) (locs : List Loc), va_P D vwCl ((wdC ad cI cJ) σ) H → va_S (AW ad 42 s.heap.size) s.heap H locs → W p l e (headSpec wU_X5_size rm_X5_size).room s m ([.ref (ad 6)] : List Value).toArray below meth c H locs 0 0 (MQ below (va_Qi K (inW D (wdC ad cI cJ) [(cI, .int), (cJ, .long)]) (AW ad 42 s.heap.size)) ([.ref (ad 6)] : List Value).toArray s 0 0 (AW ad 42 s.heap.size)) (F0 m 0 ls []) := by
    intro H locs hP hS
    unfold w_X5_size at hw
    refine lv_aload_n hx hb dX5_size_0 rfl (lv_at hl 0 rfl) ?_
    refine gC_X5_tail F hK hP (hts _ mw_75) dX5_size_1 ?_
    refine lv_aload_n hx hb dX5_size_4 rfl (lv_at hl 0 rfl) ?_
    refine gC_X5_head F hK hP (hts _ mw_74) dX5_size_5 ?_
    refine lv_isub hx hb dX5_size_8 ?_
    exact rtI F hr hlocks hK hw hP hS dX5_size_9
  exact key s.heap [] hP hS

abbrev rm_X4_mayStep : Room := { frames := 1, cells := 0, slots := 0, locals := 20 }
set_option maxHeartbeats 4000000 in
set_option maxRecDepth 100000 in
theorem c_X4_mayStep (l : Launch) (D : va_G) (ad : Nat → Nat) (cI cJ : ClassId) (hap : apart ad 42) (sz : Nat) (σ : St) (a1 : Int32) (K : Int32 → St → Prop) (hw : w_X4_mayStep σ a1 K) : Met l yX4_mayStep wU_X4_mayStep rm_X4_mayStep (va_Pc [.ref (ad 2), .int a1] (fun U => U.heap.size = sz ∧ inW D (wdC ad cI cJ) [(cI, .int), (cJ, .long)] σ U)) (va_Qi (fun r u => zb r ∧ K r u) (inW D (wdC ad cI cJ) [(cI, .int), (cJ, .long)]) (AW ad 42 sz)) 0 0 (AW ad 42 sz) := by
  refine Met.ofW (cc := cX4_mayStep) (maxL := 2) (ret := (some .boolean)) (by decide) rfl ?_
  intro p e s m args below meth c s₁ B hml hv
  obtain ⟨rfl, hsz, ⟨hP, hK⟩⟩ := hv
  have F : CallFix p m c cX4_mayStep 2 s ([.ref (ad 2), .int a1] : List Value).toArray lw_U RX4 := ⟨B.exec, B.bytes, hml, findClass_of_methodNamed B.named, fun w h => atoms_spec (ws := wU_X4_mayStep) B.pre w (List.mem_cons_of_mem _ h)⟩
  have hx := F.1
  have hb := F.2.1
  have hown := F.2.2.2.1
  have hts := F.2.2.2.2
  have hr := B.returns
  have hlocks := B.notSynchronized
  subst hsz
  have hDs : ∀ σ, va_D (AW ad 42 s.heap.size) ((wdC ad cI cJ) σ) := fun σ => wdC_D hap σ
  have hS : va_S (AW ad 42 s.heap.size) s.heap s.heap [] := va_S.rf
  have hl := lv_entry ([.ref (ad 2), .int a1]) (n := 2) (Nat.le_of_ble_eq_true rfl)
  rw [lg_entry_eq]
  generalize (lg_sl ([.ref (ad 2), .int a1]) ++ List.replicate (2 - (lg_sl ([.ref (ad 2), .int a1])).length) Slot.unset).toArray = ls at hl ⊢
  have hl : lv_has ls 2 [(0, .ref (ad 2)), (1, .int a1)] := hl
  have key : ∀ (H : Heap) (locs : List Loc), va_P D vwCl ((wdC ad cI cJ) σ) H → va_S (AW ad 42 s.heap.size) s.heap H locs → W p l e (headSpec wU_X4_mayStep rm_X4_mayStep).room s m ([.ref (ad 2), .int a1] : List Value).toArray below meth c H locs 0 0 (MQ below (va_Qi (fun r u => zb r ∧ K r u) (inW D (wdC ad cI cJ) [(cI, .int), (cJ, .long)]) (AW ad 42 s.heap.size)) ([.ref (ad 2), .int a1] : List Value).toArray s 0 0 (AW ad 42 s.heap.size)) (F0 m 0 ls []) := by
    intro H locs hP hS
    unfold w_X4_mayStep at hw
    refine lv_aload_n hx hb dX4_mayStep_0 rfl (lv_at hl 0 rfl) ?_
    refine gC_X4_how F hK hP (hts _ mw_83) dX4_mayStep_1 ?_
    refine lv_iconst (v := (-1)) hx hb dX4_mayStep_4 (by decide) ?_
    refine lv_icmp_ne (tgt := 39) hx hb dX4_mayStep_5 (by decide) (fun c_9 => ?_) (fun c_9 => ?_)
    · have hw := hw.1 c_9
      refine lv_aload_n hx hb dX4_mayStep_39 rfl (lv_at hl 0 rfl) ?_
      refine gC_X4_how F hK hP (hts _ mw_83) dX4_mayStep_40 ?_
      refine lv_iconst (v := (-1)) hx hb dX4_mayStep_43 (by decide) ?_
      refine lv_icmp_ne (tgt := 51) hx hb dX4_mayStep_44 (by decide) (fun c_1 => ?_) (fun c_1 => ?_)
      · have hw := hw.1 c_1
        refine lv_iconst (v := 0) hx hb dX4_mayStep_51 (by decide) ?_
        exact rtZ F hr hlocks hK hw (Or.inl rfl) hP hS dX4_mayStep_52
      · have hw := hw.2 c_1
        refine lv_iconst (v := 1) hx hb dX4_mayStep_47 (by decide) ?_
        refine lv_goto (tgt := 52) hx hb dX4_mayStep_48 (by decide) ?_
        exact rtZ F hr hlocks hK hw (Or.inr rfl) hP hS dX4_mayStep_52
    · have hw := hw.2 c_9
      refine lv_aload_n hx hb dX4_mayStep_8 rfl (lv_at hl 0 rfl) ?_
      refine gC_X4_ready F hK hP (hts _ mw_98) dX4_mayStep_9 ?_
      refine cvI (As := []) (rest := []) F hK hP hS (c_X5_size l D ad cI cJ hap H.size _ _ hw) (cwV 0 hts gU_X4_59 rfl rfl rfl (by decide +kernel) ⟨Nat.le_of_ble_eq_true rfl, Nat.le_of_ble_eq_true rfl⟩) (va_recv hK hP (ci := 4) (q0 := 6) rfl rfl) rfl hl.1 rfl (Nat.le_of_ble_eq_true rfl) dX4_mayStep_12 ⟨Nat.zero_le _, Nat.zero_le _⟩ (fun r_3 u_2 H locs hw hP hS => ?_)
      refine lv_if_ne (tgt := 26) hx hb dX4_mayStep_15 (by decide) (fun c_8 => ?_) (fun c_8 => ?_)
      · have hw := hw.1 c_8
        refine lv_aload_n hx hb dX4_mayStep_26 rfl (lv_at hl 0 rfl) ?_
        refine gC_X4_steps F hK hP (hts _ mw_150) dX4_mayStep_27 ?_
        refine lv_iload_n hx hb dX4_mayStep_30 rfl (lv_at hl 1 rfl) ?_
        refine lv_icmp_lt (tgt := 39) hx hb dX4_mayStep_31 (by decide) (fun c_6 => ?_) (fun c_6 => ?_)
        · have hw := hw.1 c_6
          refine lv_aload_n hx hb dX4_mayStep_39 rfl (lv_at hl 0 rfl) ?_
          refine gC_X4_how F hK hP (hts _ mw_83) dX4_mayStep_40 ?_
          refine lv_iconst (v := (-1)) hx hb dX4_mayStep_43 (by decide) ?_
          refine lv_icmp_ne (tgt := 51) hx hb dX4_mayStep_44 (by decide) (fun c_4 => ?_) (fun c_4 => ?_)
          · have hw := hw.1 c_4
            refine lv_iconst (v := 0) hx hb dX4_mayStep_51 (by decide) ?_
            exact rtZ F hr hlocks hK hw (Or.inl rfl) hP hS dX4_mayStep_52
          · have hw := hw.2 c_4
            refine lv_iconst (v := 1) hx hb dX4_mayStep_47 (by decide) ?_
            refine lv_goto (tgt := 52) hx hb dX4_mayStep_48 (by decide) ?_
            exact rtZ F hr hlocks hK hw (Or.inr rfl) hP hS dX4_mayStep_52
        · have hw := hw.2 c_6
          refine lv_aload_n hx hb dX4_mayStep_34 rfl (lv_at hl 0 rfl) ?_
          refine lv_iconst (v := 3) hx hb dX4_mayStep_35 (by decide) ?_
          refine pC_X4_how F hK hP hDs hS (hts _ mw_83) dX4_mayStep_36 (fun H locs hP hS => ?_)
          refine lv_aload_n hx hb dX4_mayStep_39 rfl (lv_at hl 0 rfl) ?_
          refine gC_X4_how F hK hP (hts _ mw_83) dX4_mayStep_40 ?_
          refine jvi (y := 3) (by simp only [gS_sS, gS_sA, gS_sL, gS_fA, gS_fL, gA_sS, gA_sA, gA_sL, gA_fA, gA_fL, gL_sS, gL_sA, gL_sL, gL_fA, gL_fL, reduceIte, Nat.reduceEqDiff]) ?_
          refine lv_iconst (v := (-1)) hx hb dX4_mayStep_43 (by decide) ?_
          refine lv_icmp_ne (tgt := 51) hx hb dX4_mayStep_44 (by decide) (fun c_5 => ?_) (fun c_5 => ?_)
          · have hw := hw.1 c_5
            refine lv_iconst (v := 0) hx hb dX4_mayStep_51 (by decide) ?_
            exact rtZ F hr hlocks hK hw (Or.inl rfl) hP hS dX4_mayStep_52
          · have hw := hw.2 c_5
            refine lv_iconst (v := 1) hx hb dX4_mayStep_47 (by decide) ?_
            refine lv_goto (tgt := 52) hx hb dX4_mayStep_48 (by decide) ?_
            exact rtZ F hr hlocks hK hw (Or.inr rfl) hP hS dX4_mayStep_52
      · have hw := hw.2 c_8
        refine lv_aload_n hx hb dX4_mayStep_18 rfl (lv_at hl 0 rfl) ?_
        refine lv_iconst (v := 0) hx hb dX4_mayStep_19 (by decide) ?_
        refine pC_X4_how F hK hP hDs hS (hts _ mw_83) dX4_mayStep_20 (fun H locs hP hS => ?_)
        refine lv_goto (tgt := 39) hx hb dX4_mayStep_23 (by decide) ?_
        refine lv_aload_n hx hb dX4_mayStep_39 rfl (lv_at hl 0 rfl) ?_
        refine gC_X4_how F hK hP (hts _ mw_83) dX4_mayStep_40 ?_
        refine jvi (y := 0) (by simp only [gS_sS, gS_sA, gS_sL, gS_fA, gS_fL, gA_sS, gA_sA, gA_sL, gA_fA, gA_fL, gL_sS, gL_sA, gL_sL, gL_fA, gL_fL, reduceIte, Nat.reduceEqDiff]) ?_
        refine lv_iconst (v := (-1)) hx hb dX4_mayStep_43 (by decide) ?_
        refine lv_icmp_ne (tgt := 51) hx hb dX4_mayStep_44 (by decide) (fun c_7 => ?_) (fun c_7 => ?_)
        · have hw := hw.1 c_7
          refine lv_iconst (v := 0) hx hb dX4_mayStep_51 (by decide) ?_
          exact rtZ F hr hlocks hK hw (Or.inl rfl) hP hS dX4_mayStep_52
        · have hw := hw.2 c_7
          refine lv_iconst (v := 1) hx hb dX4_mayStep_47 (by decide) ?_
          refine lv_goto (tgt := 52) hx hb dX4_mayStep_48 (by decide) ?_
          exact rtZ F hr hlocks hK hw (Or.inr rfl) hP hS dX4_mayStep_52
  exact key s.heap [] hP hS

abbrev rm_X5_take : Room := { frames := 1, cells := 0, slots := 0, locals := 60 }
set_option maxHeartbeats 4000000 in
set_option maxRecDepth 100000 in
theorem c_X5_take (l : Launch) (D : va_G) (ad : Nat → Nat) (cI cJ : ClassId) (hap : apart ad 42) (sz : Nat) (σ : St) (a1 : Int32) (K : Int32 → St → Prop) (hw : w_X5_take σ a1 K) : Met l yX5_take wU_X5_take rm_X5_take (va_Pc [.ref (ad 6), .int a1] (fun U => U.heap.size = sz ∧ inW D (wdC ad cI cJ) [(cI, .int), (cJ, .long)] σ U)) (va_Qi K (inW D (wdC ad cI cJ) [(cI, .int), (cJ, .long)]) (AW ad 42 sz)) 0 0 (AW ad 42 sz) := by
  refine Met.ofW (cc := cX5_take) (maxL := 4) (ret := (some .int)) (by decide) rfl ?_
  intro p e s m args below meth c s₁ B hml hv
  obtain ⟨rfl, hsz, ⟨hP, hK⟩⟩ := hv
  have F : CallFix p m c cX5_take 4 s ([.ref (ad 6), .int a1] : List Value).toArray lw_U RX5 := ⟨B.exec, B.bytes, hml, findClass_of_methodNamed B.named, fun w h => atoms_spec (ws := wU_X5_take) B.pre w (List.mem_cons_of_mem _ h)⟩
  have hx := F.1
  have hb := F.2.1
  have hown := F.2.2.2.1
  have hts := F.2.2.2.2
  have hr := B.returns
  have hlocks := B.notSynchronized
  subst hsz
  have hDs : ∀ σ, va_D (AW ad 42 s.heap.size) ((wdC ad cI cJ) σ) := fun σ => wdC_D hap σ
  have hS : va_S (AW ad 42 s.heap.size) s.heap s.heap [] := va_S.rf
  have hl := lv_entry ([.ref (ad 6), .int a1]) (n := 4) (Nat.le_of_ble_eq_true rfl)
  rw [lg_entry_eq]
  generalize (lg_sl ([.ref (ad 6), .int a1]) ++ List.replicate (4 - (lg_sl ([.ref (ad 6), .int a1])).length) Slot.unset).toArray = ls at hl ⊢
  have hl : lv_has ls 4 [(0, .ref (ad 6)), (1, .int a1)] := hl
  have key : ∀ (H : Heap) (locs : List Loc), va_P D vwCl ((wdC ad cI cJ) σ) H → va_S (AW ad 42 s.heap.size) s.heap H locs → W p l e (headSpec wU_X5_take rm_X5_take).room s m ([.ref (ad 6), .int a1] : List Value).toArray below meth c H locs 0 0 (MQ below (va_Qi K (inW D (wdC ad cI cJ) [(cI, .int), (cJ, .long)]) (AW ad 42 s.heap.size)) ([.ref (ad 6), .int a1] : List Value).toArray s 0 0 (AW ad 42 s.heap.size)) (F0 m 0 ls []) := by
    intro H locs hP hS
    unfold w_X5_take at hw
    refine lv_iload_n hx hb dX5_take_0 rfl (lv_at hl 1 rfl) ?_
    refine lv_if_lt (tgt := 12) hx hb dX5_take_1 (by decide) (fun c_11 => ?_) (fun c_11 => ?_)
    · have hw := hw.1 c_11
      refine lv_iconst (v := (-1)) hx hb dX5_take_12 (by decide) ?_
      exact rtI F hr hlocks hK hw hP hS dX5_take_13
    · have hw := hw.2 c_11
      refine lv_iload_n hx hb dX5_take_4 rfl (lv_at hl 1 rfl) ?_
      refine lv_aload_n hx hb dX5_take_5 rfl (lv_at hl 0 rfl) ?_
      refine cvI (As := []) (rest := [.int a1]) F hK hP hS (c_X5_size l D ad cI cJ hap H.size _ _ hw) (cwV 0 hts gU_X5_22 rfl rfl rfl (by decide +kernel) ⟨Nat.le_of_ble_eq_true rfl, Nat.le_of_ble_eq_true rfl⟩) (va_recv hK hP (ci := 4) (q0 := 6) rfl rfl) rfl hl.1 rfl (Nat.le_of_ble_eq_true rfl) dX5_take_6 ⟨Nat.zero_le _, Nat.zero_le _⟩ (fun r_2 u_1 H locs hw hP hS => ?_)
      refine lv_icmp_lt (tgt := 14) hx hb dX5_take_9 (by decide) (fun c_10 => ?_) (fun c_10 => ?_)
      · have hw := hw.1 c_10
        refine lv_aload_n hx hb dX5_take_14 rfl (lv_at hl 0 rfl) ?_
        refine gC_X5_head F hK hP (hts _ mw_74) dX5_take_15 ?_
        refine lv_iload_n hx hb dX5_take_18 rfl (lv_at hl 1 rfl) ?_
        refine lv_iadd hx hb dX5_take_19 ?_
        refine lv_istore_n (lv' := [(2, .int ((gS u_1 17) + a1)), (0, .ref (ad 6)), (1, .int a1)]) hx hb dX5_take_20 rfl hl (by decide) rfl (fun ls hl => ?_)
        refine lv_aload_n hx hb dX5_take_21 rfl (lv_at hl 1 rfl) ?_
        refine gC_X5_row F hK hP (hts _ mw_85) dX5_take_22 ?_
        refine lv_iload_n hx hb dX5_take_25 rfl (lv_at hl 0 rfl) ?_
        obtain ⟨i_9, hw⟩ := hw
        refine lC_X5_row F hK hP i_9 dX5_take_26 ?_
        refine lv_istore_n (lv' := [(3, .int (gA u_1 29 (((gS u_1 17) + a1)).toNatClampNeg)), (2, .int ((gS u_1 17) + a1)), (0, .ref (ad 6)), (1, .int a1)]) hx hb dX5_take_27 rfl hl (by decide) rfl (fun ls hl => ?_)
        refine lv_iload_n hx hb dX5_take_28 rfl (lv_at hl 3 rfl) ?_
        refine lv_if_ne (tgt := 45) hx hb dX5_take_29 (by decide) (fun c_8 => ?_) (fun c_8 => ?_)
        · have hw := hw.1 c_8
          refine lv_aload_n hx hb dX5_take_45 rfl (lv_at hl 2 rfl) ?_
          refine gC_X5_row F hK hP (hts _ mw_85) dX5_take_46 ?_
          refine lv_iload_n hx hb dX5_take_49 rfl (lv_at hl 1 rfl) ?_
          refine lv_iconst (v := 1) hx hb dX5_take_50 (by decide) ?_
          refine lv_iadd hx hb dX5_take_51 ?_
          refine lv_aload_n hx hb dX5_take_52 rfl (lv_at hl 2 rfl) ?_
          refine gC_X5_row F hK hP (hts _ mw_85) dX5_take_53 ?_
          refine lv_iload_n hx hb dX5_take_56 rfl (lv_at hl 1 rfl) ?_
          refine lv_aload_n hx hb dX5_take_57 rfl (lv_at hl 2 rfl) ?_
          refine gC_X5_tail F hK hP (hts _ mw_75) dX5_take_58 ?_
          refine lv_iload_n hx hb dX5_take_61 rfl (lv_at hl 1 rfl) ?_
          refine lv_isub hx hb dX5_take_62 ?_
          refine lv_iconst (v := 1) hx hb dX5_take_63 (by decide) ?_
          refine lv_isub hx hb dX5_take_64 ?_
          obtain ⟨h_3, h_4, h_5, h_6, h_7, hw⟩ := hw
          refine va_copyi hx hb (hml.trans hl.1.symm) hown (hts _ mw_164) (hts _ mw_165) (hts _ mw_166) (hts _ mw_167) hK hP (hDs _) hS 41 41 0 0 rfl rfl rfl rfl rfl h_3 h_4 h_5 h_6 h_7 (fun _ _ => rfl) (Nat.le_of_ble_eq_true rfl) (Nat.le_of_ble_eq_true rfl) dX5_take_65 (fun H locs hP _ hS => ?_)
          have hP : va_P D vwCl ((wdC ad cI cJ) (fA u_1 29 (va_cpy (gA u_1 29) (gA u_1 29) (((gS u_1 17) + a1) + 1).toNatClampNeg ((gS u_1 17) + a1).toNatClampNeg (((gS u_1 18) - ((gS u_1 17) + a1)) - 1).toNatClampNeg))) H := hP
          refine lv_aload_n hx hb dX5_take_68 rfl (lv_at hl 2 rfl) ?_
          refine lv_dup hx hb dX5_take_69 rfl ?_
          refine gC_X5_tail F hK hP (hts _ mw_75) dX5_take_70 ?_
          refine jvi (y := (gS u_1 18)) (by simp only [gS_sS, gS_sA, gS_sL, gS_fA, gS_fL, gA_sS, gA_sA, gA_sL, gA_fA, gA_fL, gL_sS, gL_sA, gL_sL, gL_fA, gL_fL, reduceIte, Nat.reduceEqDiff]) ?_
          refine lv_iconst (v := 1) hx hb dX5_take_73 (by decide) ?_
          refine lv_isub hx hb dX5_take_74 ?_
          refine pC_X5_tail F hK hP hDs hS (hts _ mw_75) dX5_take_75 (fun H locs hP hS => ?_)
          refine lv_iload_n hx hb dX5_take_78 rfl (lv_at hl 0 rfl) ?_
          exact rtI F hr hlocks hK hw hP hS dX5_take_79
        · have hw := hw.2 c_8
          refine lv_aload_n hx hb dX5_take_32 rfl (lv_at hl 2 rfl) ?_
          refine lv_dup hx hb dX5_take_33 rfl ?_
          refine gC_X5_head F hK hP (hts _ mw_74) dX5_take_34 ?_
          refine lv_iconst (v := 1) hx hb dX5_take_37 (by decide) ?_
          refine lv_iadd hx hb dX5_take_38 ?_
          refine pC_X5_head F hK hP hDs hS (hts _ mw_74) dX5_take_39 (fun H locs hP hS => ?_)
          refine lv_goto (tgt := 78) hx hb dX5_take_42 (by decide) ?_
          refine lv_iload_n hx hb dX5_take_78 rfl (lv_at hl 0 rfl) ?_
          exact rtI F hr hlocks hK hw hP hS dX5_take_79
      · have hw := hw.2 c_10
        refine lv_iconst (v := (-1)) hx hb dX5_take_12 (by decide) ?_
        exact rtI F hr hlocks hK hw hP hS dX5_take_13
  exact key s.heap [] hP hS

abbrev rm_X8_sortOf : Room := { frames := 0, cells := 0, slots := 0, locals := 0 }
set_option maxHeartbeats 4000000 in
set_option maxRecDepth 100000 in
theorem c_X8_sortOf (l : Launch) (D : va_G) (ad : Nat → Nat) (cI cJ : ClassId) (hap : apart ad 42) (sz : Nat) (σ : St) (a1 : Int64) (K : Int32 → St → Prop) (hw : w_X8_sortOf σ a1 K) : Met l yX8_sortOf wU_X8_sortOf rm_X8_sortOf (va_Pc [.long a1] (fun U => U.heap.size = sz ∧ inW D (wdC ad cI cJ) [(cI, .int), (cJ, .long)] σ U)) (va_Qi K (inW D (wdC ad cI cJ) [(cI, .int), (cJ, .long)]) (AW ad 42 sz)) 0 0 (AW ad 42 sz) := by
  refine Met.ofW (cc := cX8_sortOf) (maxL := 2) (ret := (some .int)) (by decide) rfl ?_
  intro p e s m args below meth c s₁ B hml hv
  obtain ⟨rfl, hsz, ⟨hP, hK⟩⟩ := hv
  have F : CallFix p m c cX8_sortOf 2 s ([.long a1] : List Value).toArray lw_U RX8 := ⟨B.exec, B.bytes, hml, findClass_of_methodNamed B.named, fun w h => atoms_spec (ws := wU_X8_sortOf) B.pre w (List.mem_cons_of_mem _ h)⟩
  have hx := F.1
  have hb := F.2.1
  have hown := F.2.2.2.1
  have hts := F.2.2.2.2
  have hr := B.returns
  have hlocks := B.notSynchronized
  subst hsz
  have hDs : ∀ σ, va_D (AW ad 42 s.heap.size) ((wdC ad cI cJ) σ) := fun σ => wdC_D hap σ
  have hS : va_S (AW ad 42 s.heap.size) s.heap s.heap [] := va_S.rf
  have hl := lv_entry ([.long a1]) (n := 2) (Nat.le_of_ble_eq_true rfl)
  rw [lg_entry_eq]
  generalize (lg_sl ([.long a1]) ++ List.replicate (2 - (lg_sl ([.long a1])).length) Slot.unset).toArray = ls at hl ⊢
  have hl : lv_has ls 2 [(0, .long a1)] := hl
  have key : ∀ (H : Heap) (locs : List Loc), va_P D vwCl ((wdC ad cI cJ) σ) H → va_S (AW ad 42 s.heap.size) s.heap H locs → W p l e (headSpec wU_X8_sortOf rm_X8_sortOf).room s m ([.long a1] : List Value).toArray below meth c H locs 0 0 (MQ below (va_Qi K (inW D (wdC ad cI cJ) [(cI, .int), (cJ, .long)]) (AW ad 42 s.heap.size)) ([.long a1] : List Value).toArray s 0 0 (AW ad 42 s.heap.size)) (F0 m 0 ls []) := by
    intro H locs hP hS
    unfold w_X8_sortOf at hw
    refine lv_lload_n hx hb dX8_sortOf_0 rfl (lv_at hl 0 rfl) ?_
    refine lv_bipush (v := 40) hx hb dX8_sortOf_1 (by decide) ?_
    refine lv_lushr hx hb dX8_sortOf_3 rfl ?_
    refine lv_l2i hx hb dX8_sortOf_4 rfl ?_
    exact rtI F hr hlocks hK hw hP hS dX8_sortOf_5
  exact key s.heap [] hP hS

abbrev rm_X8_contentOf : Room := { frames := 0, cells := 0, slots := 0, locals := 0 }
set_option maxHeartbeats 4000000 in
set_option maxRecDepth 100000 in
theorem c_X8_contentOf (l : Launch) (D : va_G) (ad : Nat → Nat) (cI cJ : ClassId) (hap : apart ad 42) (sz : Nat) (σ : St) (a1 : Int64) (K : Int32 → St → Prop) (hw : w_X8_contentOf σ a1 K) : Met l yX8_contentOf wU_X8_contentOf rm_X8_contentOf (va_Pc [.long a1] (fun U => U.heap.size = sz ∧ inW D (wdC ad cI cJ) [(cI, .int), (cJ, .long)] σ U)) (va_Qi K (inW D (wdC ad cI cJ) [(cI, .int), (cJ, .long)]) (AW ad 42 sz)) 0 0 (AW ad 42 sz) := by
  refine Met.ofW (cc := cX8_contentOf) (maxL := 2) (ret := (some .int)) (by decide) rfl ?_
  intro p e s m args below meth c s₁ B hml hv
  obtain ⟨rfl, hsz, ⟨hP, hK⟩⟩ := hv
  have F : CallFix p m c cX8_contentOf 2 s ([.long a1] : List Value).toArray lw_U RX8 := ⟨B.exec, B.bytes, hml, findClass_of_methodNamed B.named, fun w h => atoms_spec (ws := wU_X8_contentOf) B.pre w (List.mem_cons_of_mem _ h)⟩
  have hx := F.1
  have hb := F.2.1
  have hown := F.2.2.2.1
  have hts := F.2.2.2.2
  have hr := B.returns
  have hlocks := B.notSynchronized
  subst hsz
  have hDs : ∀ σ, va_D (AW ad 42 s.heap.size) ((wdC ad cI cJ) σ) := fun σ => wdC_D hap σ
  have hS : va_S (AW ad 42 s.heap.size) s.heap s.heap [] := va_S.rf
  have hl := lv_entry ([.long a1]) (n := 2) (Nat.le_of_ble_eq_true rfl)
  rw [lg_entry_eq]
  generalize (lg_sl ([.long a1]) ++ List.replicate (2 - (lg_sl ([.long a1])).length) Slot.unset).toArray = ls at hl ⊢
  have hl : lv_has ls 2 [(0, .long a1)] := hl
  have key : ∀ (H : Heap) (locs : List Loc), va_P D vwCl ((wdC ad cI cJ) σ) H → va_S (AW ad 42 s.heap.size) s.heap H locs → W p l e (headSpec wU_X8_contentOf rm_X8_contentOf).room s m ([.long a1] : List Value).toArray below meth c H locs 0 0 (MQ below (va_Qi K (inW D (wdC ad cI cJ) [(cI, .int), (cJ, .long)]) (AW ad 42 s.heap.size)) ([.long a1] : List Value).toArray s 0 0 (AW ad 42 s.heap.size)) (F0 m 0 ls []) := by
    intro H locs hP hS
    unfold w_X8_contentOf at hw
    refine lv_lload_n hx hb dX8_contentOf_0 rfl (lv_at hl 0 rfl) ?_
    refine lv_l2i hx hb dX8_contentOf_1 rfl ?_
    exact rtI F hr hlocks hK hw hP hS dX8_contentOf_2
  exact key s.heap [] hP hS
