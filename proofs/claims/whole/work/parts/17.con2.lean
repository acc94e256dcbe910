abbrev rm_X3_exists : Room := { frames := 0, cells := 0, slots := 0, locals := 0 }
set_option maxHeartbeats 4000000 in
set_option maxRecDepth 100000 in
theorem c_X3_exists (l : Launch) (D : va_G) (ad : Nat → Nat) (cI cJ : ClassId) (hap : apart ad 42) (sz : Nat) (σ : St) (a1 : Int32) (K : Int32 → St → Prop) (hw : w_X3_exists σ a1 K) : Met l yX3_exists wU_X3_exists rm_X3_exists (va_Pc [.int a1] (fun U => U.heap.size = sz ∧ inW D (wdC ad cI cJ) [(cI, .int), (cJ, .long)] σ U)) (va_Qi (fun r u => zb r ∧ K r u) (inW D (wdC ad cI cJ) [(cI, .int), (cJ, .long)]) (AW ad 42 sz)) 0 0 (AW ad 42 sz) := by
  refine Met.ofW (cc := cX3_exists) (maxL := 1) (ret := (some .boolean)) (by decide) rfl ?_
  intro p e s m args below meth c s₁ B hml hv
  obtain ⟨rfl, hsz, ⟨hP, hK⟩⟩ := hv
  have F : CallFix p m c cX3_exists 1 s ([.int a1] : List Value).toArray lw_U RX3 := ⟨B.exec, B.bytes, hml, findClass_of_methodNamed B.named, fun w h => atoms_spec (ws := wU_X3_exists) B.pre w (List.mem_cons_of_mem _ h)⟩
  have hx := F.1
  have hb := F.2.1
  have hown := F.2.2.2.1
  have hts := F.2.2.2.2
  have hr := B.returns
  have hlocks := B.notSynchronized
  subst hsz
  have hDs : ∀ σ, va_D (AW ad 42 s.heap.size) ((wdC ad cI cJ) σ) := fun σ => wdC_D hap σ
  have hS : va_S (AW ad 42 s.heap.size) s.heap s.heap [] := va_S.rf
  have hl := lv_entry ([.int a1]) (n := 1) (Nat.le_of_ble_eq_true rfl)
  rw [lg_entry_eq]
  generalize (lg_sl ([.int a1]) ++ List.replicate (1 - (lg_sl ([.int a1])).length) Slot.unset).toArray = ls at hl ⊢
  have hl : lv_has ls 1 [(0, .int a1)] := hl
  have key : ∀ (H : Heap) (locs : List Loc), va_P D vwCl ((wdC ad cI cJ) σ) H → va_S (AW ad 42 s.heap.size) s.heap H locs → W p l e (headSpec wU_X3_exists rm_X3_exists).room s m ([.int a1] : List Value).toArray below meth c H locs 0 0 (MQ below (va_Qi (fun r u => zb r ∧ K r u) (inW D (wdC ad cI cJ) [(cI, .int), (cJ, .long)]) (AW ad 42 s.heap.size)) ([.int a1] : List Value).toArray s 0 0 (AW ad 42 s.heap.size)) (F0 m 0 ls []) := by
    intro H locs hP hS
    unfold w_X3_exists at hw
    refine lv_iload_n hx hb dX3_exists_0 rfl (lv_at hl 0 rfl) ?_
    refine lv_if_lt (tgt := 14) hx hb dX3_exists_1 (by decide) (fun c_2 => ?_) (fun c_2 => ?_)
    · have hw := hw.1 c_2
      refine lv_iconst (v := 0) hx hb dX3_exists_14 (by decide) ?_
      exact rtZ F hr hlocks hK hw (Or.inl rfl) hP hS dX3_exists_15
    · have hw := hw.2 c_2
      refine lv_iload_n hx hb dX3_exists_4 rfl (lv_at hl 0 rfl) ?_
      refine lv_bipush (v := 21) hx hb dX3_exists_5 (by decide) ?_
      refine lv_icmp_gt (tgt := 14) hx hb dX3_exists_7 (by decide) (fun c_1 => ?_) (fun c_1 => ?_)
      · have hw := hw.1 c_1
        refine lv_iconst (v := 0) hx hb dX3_exists_14 (by decide) ?_
        exact rtZ F hr hlocks hK hw (Or.inl rfl) hP hS dX3_exists_15
      · have hw := hw.2 c_1
        refine lv_iconst (v := 1) hx hb dX3_exists_10 (by decide) ?_
        refine lv_goto (tgt := 15) hx hb dX3_exists_11 (by decide) ?_
        exact rtZ F hr hlocks hK hw (Or.inr rfl) hP hS dX3_exists_15
  exact key s.heap [] hP hS

abbrev rm_X3_allowsNumber : Room := { frames := 0, cells := 0, slots := 0, locals := 0 }
set_option maxHeartbeats 4000000 in
set_option maxRecDepth 100000 in
theorem c_X3_allowsNumber (l : Launch) (D : va_G) (ad : Nat → Nat) (cI cJ : ClassId) (hap : apart ad 42) (sz : Nat) (σ : St) (a1 : Int32) (a2 : Int32) (K : Int32 → St → Prop) (hw : w_X3_allowsNumber σ a1 a2 K) : Met l yX3_allowsNumber wU_X3_allowsNumber rm_X3_allowsNumber (va_Pc [.int a1, .int a2] (fun U => U.heap.size = sz ∧ inW D (wdC ad cI cJ) [(cI, .int), (cJ, .long)] σ U)) (va_Qi (fun r u => zb r ∧ K r u) (inW D (wdC ad cI cJ) [(cI, .int), (cJ, .long)]) (AW ad 42 sz)) 0 0 (AW ad 42 sz) := by
  refine Met.ofW (cc := cX3_allowsNumber) (maxL := 2) (ret := (some .boolean)) (by decide) rfl ?_
  intro p e s m args below meth c s₁ B hml hv
  obtain ⟨rfl, hsz, ⟨hP, hK⟩⟩ := hv
  have F : CallFix p m c cX3_allowsNumber 2 s ([.int a1, .int a2] : List Value).toArray lw_U RX3 := ⟨B.exec, B.bytes, hml, findClass_of_methodNamed B.named, fun w h => atoms_spec (ws := wU_X3_allowsNumber) B.pre w (List.mem_cons_of_mem _ h)⟩
  have hx := F.1
  have hb := F.2.1
  have hown := F.2.2.2.1
  have hts := F.2.2.2.2
  have hr := B.returns
  have hlocks := B.notSynchronized
  subst hsz
  have hDs : ∀ σ, va_D (AW ad 42 s.heap.size) ((wdC ad cI cJ) σ) := fun σ => wdC_D hap σ
  have hS : va_S (AW ad 42 s.heap.size) s.heap s.heap [] := va_S.rf
  have hl := lv_entry ([.int a1, .int a2]) (n := 2) (Nat.le_of_ble_eq_true rfl)
  rw [lg_entry_eq]
  generalize (lg_sl ([.int a1, .int a2]) ++ List.replicate (2 - (lg_sl ([.int a1, .int a2])).length) Slot.unset).toArray = ls at hl ⊢
  have hl : lv_has ls 2 [(0, .int a1), (1, .int a2)] := hl
  have key : ∀ (H : Heap) (locs : List Loc), va_P D vwCl ((wdC ad cI cJ) σ) H → va_S (AW ad 42 s.heap.size) s.heap H locs → W p l e (headSpec wU_X3_allowsNumber rm_X3_allowsNumber).room s m ([.int a1, .int a2] : List Value).toArray below meth c H locs 0 0 (MQ below (va_Qi (fun r u => zb r ∧ K r u) (inW D (wdC ad cI cJ) [(cI, .int), (cJ, .long)]) (AW ad 42 s.heap.size)) ([.int a1, .int a2] : List Value).toArray s 0 0 (AW ad 42 s.heap.size)) (F0 m 0 ls []) := by
    intro H locs hP hS
    unfold w_X3_allowsNumber at hw
    refine lv_iload_n hx hb dX3_allowsNumber_0 rfl (lv_at hl 0 rfl) ?_
    by_cases k_1 : a1 = 11 ∨ a1 = 12 ∨ a1 = 13 ∨ a1 = 14 ∨ a1 = 21
    · have hw := hw.1 k_1
      have kd : W p l e (headSpec wU_X3_allowsNumber rm_X3_allowsNumber).room s m ([.int a1, .int a2] : List Value).toArray below meth c H locs 0 0 (MQ below (va_Qi (fun r u => zb r ∧ K r u) (inW D (wdC ad cI cJ) [(cI, .int), (cJ, .long)]) (AW ad 42 s.heap.size)) ([.int a1, .int a2] : List Value).toArray s 0 0 (AW ad 42 s.heap.size)) (F0 m 60 ls []) := by
        refine lv_iload_n hx hb dX3_allowsNumber_60 rfl (lv_at hl 1 rfl) ?_
        refine lv_if_lt (tgt := 74) hx hb dX3_allowsNumber_61 (by decide) (fun c_3 => ?_) (fun c_3 => ?_)
        · have hw := hw.1 c_3
          refine lv_iconst (v := 0) hx hb dX3_allowsNumber_74 (by decide) ?_
          exact rtZ F hr hlocks hK hw (Or.inl rfl) hP hS dX3_allowsNumber_75
        · have hw := hw.2 c_3
          refine lv_iload_n hx hb dX3_allowsNumber_64 rfl (lv_at hl 1 rfl) ?_
          refine lv_bipush (v := 9) hx hb dX3_allowsNumber_65 (by decide) ?_
          refine lv_icmp_gt (tgt := 74) hx hb dX3_allowsNumber_67 (by decide) (fun c_2 => ?_) (fun c_2 => ?_)
          · have hw := hw.1 c_2
            refine lv_iconst (v := 0) hx hb dX3_allowsNumber_74 (by decide) ?_
            exact rtZ F hr hlocks hK hw (Or.inl rfl) hP hS dX3_allowsNumber_75
          · have hw := hw.2 c_2
            refine lv_iconst (v := 1) hx hb dX3_allowsNumber_70 (by decide) ?_
            refine lv_goto (tgt := 75) hx hb dX3_allowsNumber_71 (by decide) ?_
            exact rtZ F hr hlocks hK hw (Or.inr rfl) hP hS dX3_allowsNumber_75
      rcases k_1 with k_16 | k_16 | k_16 | k_16 | k_16
      · exact sw_in 11 (tgt := 60) F dX3_allowsNumber_1 k_16 (by decide) (by decide) rfl (by decide) kd
      · exact sw_in 12 (tgt := 60) F dX3_allowsNumber_1 k_16 (by decide) (by decide) rfl (by decide) kd
      · exact sw_in 13 (tgt := 60) F dX3_allowsNumber_1 k_16 (by decide) (by decide) rfl (by decide) kd
      · exact sw_in 14 (tgt := 60) F dX3_allowsNumber_1 k_16 (by decide) (by decide) rfl (by decide) kd
      · exact sw_in 21 (tgt := 60) F dX3_allowsNumber_1 k_16 (by decide) (by decide) rfl (by decide) kd
    · have hw := hw.2 k_1
      by_cases k_4 : a1 = 15
      · have hw := hw.1 k_4
        refine sw_in 15 (tgt := 76) F dX3_allowsNumber_1 k_4 (by decide) (by decide) rfl (by decide) ?_
        refine lv_iload_n hx hb dX3_allowsNumber_76 rfl (lv_at hl 1 rfl) ?_
        refine lv_if_lt (tgt := 98) hx hb dX3_allowsNumber_77 (by decide) (fun c_7 => ?_) (fun c_7 => ?_)
        · have hw := hw.1 c_7
          refine lv_iconst (v := 0) hx hb dX3_allowsNumber_98 (by decide) ?_
          exact rtZ F hr hlocks hK hw (Or.inl rfl) hP hS dX3_allowsNumber_99
        · have hw := hw.2 c_7
          refine lv_iload_n hx hb dX3_allowsNumber_80 rfl (lv_at hl 1 rfl) ?_
          refine lv_bipush (v := 99) hx hb dX3_allowsNumber_81 (by decide) ?_
          refine lv_icmp_gt (tgt := 98) hx hb dX3_allowsNumber_83 (by decide) (fun c_6 => ?_) (fun c_6 => ?_)
          · have hw := hw.1 c_6
            refine lv_iconst (v := 0) hx hb dX3_allowsNumber_98 (by decide) ?_
            exact rtZ F hr hlocks hK hw (Or.inl rfl) hP hS dX3_allowsNumber_99
          · have hw := hw.2 c_6
            refine lv_iload_n hx hb dX3_allowsNumber_86 rfl (lv_at hl 1 rfl) ?_
            refine lv_bipush (v := 10) hx hb dX3_allowsNumber_87 (by decide) ?_
            refine lv_irem hx hb dX3_allowsNumber_89 (by decide) ?_
            refine lv_iconst (v := 3) hx hb dX3_allowsNumber_90 (by decide) ?_
            refine lv_icmp_ge (tgt := 98) hx hb dX3_allowsNumber_91 (by decide) (fun c_5 => ?_) (fun c_5 => ?_)
            · have hw := hw.1 c_5
              refine lv_iconst (v := 0) hx hb dX3_allowsNumber_98 (by decide) ?_
              exact rtZ F hr hlocks hK hw (Or.inl rfl) hP hS dX3_allowsNumber_99
            · have hw := hw.2 c_5
              refine lv_iconst (v := 1) hx hb dX3_allowsNumber_94 (by decide) ?_
              refine lv_goto (tgt := 99) hx hb dX3_allowsNumber_95 (by decide) ?_
              exact rtZ F hr hlocks hK hw (Or.inr rfl) hP hS dX3_allowsNumber_99
      · have hw := hw.2 k_4
        have z_8 : ¬ a1.toInt = 11 := lv_neT (fun z => k_1 (Or.inl z)) (k := 11) (by decide)
        have z_9 : ¬ a1.toInt = 12 := lv_neT (fun z => k_1 (Or.inr (Or.inl z))) (k := 12) (by decide)
        have z_10 : ¬ a1.toInt = 13 := lv_neT (fun z => k_1 (Or.inr (Or.inr (Or.inl z)))) (k := 13) (by decide)
        have z_11 : ¬ a1.toInt = 14 := lv_neT (fun z => k_1 (Or.inr (Or.inr (Or.inr (Or.inl z))))) (k := 14) (by decide)
        have z_12 : ¬ a1.toInt = 21 := lv_neT (fun z => k_1 (Or.inr (Or.inr (Or.inr (Or.inr z))))) (k := 21) (by decide)
        have z_13 : ¬ a1.toInt = 15 := lv_neT (fun z => k_4 z) (k := 15) (by decide)
        have kd : W p l e (headSpec wU_X3_allowsNumber rm_X3_allowsNumber).room s m ([.int a1, .int a2] : List Value).toArray below meth c H locs 0 0 (MQ below (va_Qi (fun r u => zb r ∧ K r u) (inW D (wdC ad cI cJ) [(cI, .int), (cJ, .long)]) (AW ad 42 s.heap.size)) ([.int a1, .int a2] : List Value).toArray s 0 0 (AW ad 42 s.heap.size)) (F0 m 100 ls []) := by
          refine lv_iconst (v := 1) hx hb dX3_allowsNumber_100 (by decide) ?_
          exact rtZ F hr hlocks hK hw (Or.inr rfl) hP hS dX3_allowsNumber_101
        rcases (show (a1.toInt < 11 ∨ 21 < a1.toInt) ∨ (a1.toInt = 16) ∨ (a1.toInt = 17) ∨ (a1.toInt = 18) ∨ (a1.toInt = 19) ∨ (a1.toInt = 20) by omega) with o_14 | o_14 | o_14 | o_14 | o_14 | o_14
        · exact lv_tableOut (tgt := 100) hx hb dX3_allowsNumber_1 o_14 (by decide) kd
        · exact sw_in 16 (tgt := 100) F dX3_allowsNumber_1 (Int32.toInt_inj.mp (by rw [o_14]; decide)) (by decide) (by decide) rfl (by decide) kd
        · exact sw_in 17 (tgt := 100) F dX3_allowsNumber_1 (Int32.toInt_inj.mp (by rw [o_14]; decide)) (by decide) (by decide) rfl (by decide) kd
        · exact sw_in 18 (tgt := 100) F dX3_allowsNumber_1 (Int32.toInt_inj.mp (by rw [o_14]; decide)) (by decide) (by decide) rfl (by decide) kd
        · exact sw_in 19 (tgt := 100) F dX3_allowsNumber_1 (Int32.toInt_inj.mp (by rw [o_14]; decide)) (by decide) (by decide) rfl (by decide) kd
        · exact sw_in 20 (tgt := 100) F dX3_allowsNumber_1 (Int32.toInt_inj.mp (by rw [o_14]; decide)) (by decide) (by decide) rfl (by decide) kd
  exact key s.heap [] hP hS

abbrev rm_X3_allowsPorts : Room := { frames := 0, cells := 0, slots := 0, locals := 0 }
set_option maxHeartbeats 4000000 in
set_option maxRecDepth 100000 in
theorem c_X3_allowsPorts (l : Launch) (D : va_G) (ad : Nat → Nat) (cI cJ : ClassId) (hap : apart ad 42) (sz : Nat) (σ : St) (a1 : Int32) (a2 : Int32) (K : Int32 → St → Prop) (hw : w_X3_allowsPorts σ a1 a2 K) : Met l yX3_allowsPorts wU_X3_allowsPorts rm_X3_allowsPorts (va_Pc [.int a1, .int a2] (fun U => U.heap.size = sz ∧ inW D (wdC ad cI cJ) [(cI, .int), (cJ, .long)] σ U)) (va_Qi (fun r u => zb r ∧ K r u) (inW D (wdC ad cI cJ) [(cI, .int), (cJ, .long)]) (AW ad 42 sz)) 0 0 (AW ad 42 sz) := by
  refine Met.ofW (cc := cX3_allowsPorts) (maxL := 2) (ret := (some .boolean)) (by decide) rfl ?_
  intro p e s m args below meth c s₁ B hml hv
  obtain ⟨rfl, hsz, ⟨hP, hK⟩⟩ := hv
  have F : CallFix p m c cX3_allowsPorts 2 s ([.int a1, .int a2] : List Value).toArray lw_U RX3 := ⟨B.exec, B.bytes, hml, findClass_of_methodNamed B.named, fun w h => atoms_spec (ws := wU_X3_allowsPorts) B.pre w (List.mem_cons_of_mem _ h)⟩
  have hx := F.1
  have hb := F.2.1
  have hown := F.2.2.2.1
  have hts := F.2.2.2.2
  have hr := B.returns
  have hlocks := B.notSynchronized
  subst hsz
  have hDs : ∀ σ, va_D (AW ad 42 s.heap.size) ((wdC ad cI cJ) σ) := fun σ => wdC_D hap σ
  have hS : va_S (AW ad 42 s.heap.size) s.heap s.heap [] := va_S.rf
  have hl := lv_entry ([.int a1, .int a2]) (n := 2) (Nat.le_of_ble_eq_true rfl)
  rw [lg_entry_eq]
  generalize (lg_sl ([.int a1, .int a2]) ++ List.replicate (2 - (lg_sl ([.int a1, .int a2])).length) Slot.unset).toArray = ls at hl ⊢
  have hl : lv_has ls 2 [(0, .int a1), (1, .int a2)] := hl
  have key : ∀ (H : Heap) (locs : List Loc), va_P D vwCl ((wdC ad cI cJ) σ) H → va_S (AW ad 42 s.heap.size) s.heap H locs → W p l e (headSpec wU_X3_allowsPorts rm_X3_allowsPorts).room s m ([.int a1, .int a2] : List Value).toArray below meth c H locs 0 0 (MQ below (va_Qi (fun r u => zb r ∧ K r u) (inW D (wdC ad cI cJ) [(cI, .int), (cJ, .long)]) (AW ad 42 s.heap.size)) ([.int a1, .int a2] : List Value).toArray s 0 0 (AW ad 42 s.heap.size)) (F0 m 0 ls []) := by
    intro H locs hP hS
    unfold w_X3_allowsPorts at hw
    refine lv_iload_n hx hb dX3_allowsPorts_0 rfl (lv_at hl 0 rfl) ?_
    refine lv_bipush (v := 14) hx hb dX3_allowsPorts_1 (by decide) ?_
    refine lv_icmp_ne (tgt := 16) hx hb dX3_allowsPorts_3 (by decide) (fun c_3 => ?_) (fun c_3 => ?_)
    · have hw := hw.1 c_3
      refine lv_iconst (v := 1) hx hb dX3_allowsPorts_16 (by decide) ?_
      refine lv_goto (tgt := 21) hx hb dX3_allowsPorts_17 (by decide) ?_
      exact rtZ F hr hlocks hK hw (Or.inr rfl) hP hS dX3_allowsPorts_21
    · have hw := hw.2 c_3
      refine lv_iload_n hx hb dX3_allowsPorts_6 rfl (lv_at hl 1 rfl) ?_
      refine lv_iconst (v := 1) hx hb dX3_allowsPorts_7 (by decide) ?_
      refine lv_icmp_lt (tgt := 20) hx hb dX3_allowsPorts_8 (by decide) (fun c_2 => ?_) (fun c_2 => ?_)
      · have hw := hw.1 c_2
        refine lv_iconst (v := 0) hx hb dX3_allowsPorts_20 (by decide) ?_
        exact rtZ F hr hlocks hK hw (Or.inl rfl) hP hS dX3_allowsPorts_21
      · have hw := hw.2 c_2
        refine lv_iload_n hx hb dX3_allowsPorts_11 rfl (lv_at hl 1 rfl) ?_
        refine lv_iconst (v := 3) hx hb dX3_allowsPorts_12 (by decide) ?_
        refine lv_icmp_gt (tgt := 20) hx hb dX3_allowsPorts_13 (by decide) (fun c_1 => ?_) (fun c_1 => ?_)
        · have hw := hw.1 c_1
          refine lv_iconst (v := 0) hx hb dX3_allowsPorts_20 (by decide) ?_
          exact rtZ F hr hlocks hK hw (Or.inl rfl) hP hS dX3_allowsPorts_21
        · have hw := hw.2 c_1
          refine lv_iconst (v := 1) hx hb dX3_allowsPorts_16 (by decide) ?_
          refine lv_goto (tgt := 21) hx hb dX3_allowsPorts_17 (by decide) ?_
          exact rtZ F hr hlocks hK hw (Or.inr rfl) hP hS dX3_allowsPorts_21
  exact key s.heap [] hP hS

abbrev rm_X3_portsOf : Room := { frames := 1, cells := 0, slots := 0, locals := 20 }
set_option maxHeartbeats 4000000 in
set_option maxRecDepth 100000 in
theorem c_X3_portsOf (l : Launch) (D : va_G) (ad : Nat → Nat) (cI cJ : ClassId) (hap : apart ad 42) (sz : Nat) (σ : St) (a1 : Int32) (a2 : Int32) (K : Int32 → St → Prop) (hw : w_X3_portsOf σ a1 a2 K) (aP : Nat) : Met l yX3_portsOf wU_X3_portsOf rm_X3_portsOf (va_Pc [.int a1, .int a2] (fun U => U.heap.size = sz ∧ inW D (wdC ad cI cJ) [(cI, .int), (cJ, .long)] σ U ∧ jPZ ad 42 sz aP U)) (va_Qi K (inW D (wdC ad cI cJ) [(cI, .int), (cJ, .long)]) (AW ad 42 sz)) 0 0 (AW ad 42 sz) := by
  refine Met.ofW (cc := cX3_portsOf) (maxL := 2) (ret := (some .int)) (by decide) rfl ?_
  intro p e s m args below meth c s₁ B hml hv
  obtain ⟨rfl, hsz, ⟨hP, hK⟩, hX⟩ := hv
  have F : CallFix p m c cX3_portsOf 2 s ([.int a1, .int a2] : List Value).toArray lw_U RX3 := ⟨B.exec, B.bytes, hml, findClass_of_methodNamed B.named, fun w h => atoms_spec (ws := wU_X3_portsOf) B.pre w (List.mem_cons_of_mem _ h)⟩
  have hx := F.1
  have hb := F.2.1
  have hown := F.2.2.2.1
  have hts := F.2.2.2.2
  have hr := B.returns
  have hlocks := B.notSynchronized
  subst hsz
  have hDs : ∀ σ, va_D (AW ad 42 s.heap.size) ((wdC ad cI cJ) σ) := fun σ => wdC_D hap σ
  have hS : va_S (AW ad 42 s.heap.size) s.heap s.heap [] := va_S.rf
  have hl := lv_entry ([.int a1, .int a2]) (n := 2) (Nat.le_of_ble_eq_true rfl)
  rw [lg_entry_eq]
  generalize (lg_sl ([.int a1, .int a2]) ++ List.replicate (2 - (lg_sl ([.int a1, .int a2])).length) Slot.unset).toArray = ls at hl ⊢
  have hl : lv_has ls 2 [(0, .int a1), (1, .int a2)] := hl
  have key : ∀ (H : Heap) (locs : List Loc), va_P D vwCl ((wdC ad cI cJ) σ) H → va_S (AW ad 42 s.heap.size) s.heap H locs → W p l e (headSpec wU_X3_portsOf rm_X3_portsOf).room s m ([.int a1, .int a2] : List Value).toArray below meth c H locs 0 0 (MQ below (va_Qi K (inW D (wdC ad cI cJ) [(cI, .int), (cJ, .long)]) (AW ad 42 s.heap.size)) ([.int a1, .int a2] : List Value).toArray s 0 0 (AW ad 42 s.heap.size)) (F0 m 0 ls []) := by
    intro H locs hP hS
    unfold w_X3_portsOf at hw
    refine lv_iload_n hx hb dX3_portsOf_0 rfl (lv_at hl 0 rfl) ?_
    refine lv_bipush (v := 14) hx hb dX3_portsOf_1 (by decide) ?_
    refine lv_icmp_eq (tgt := 13) hx hb dX3_portsOf_3 (by decide) (fun c_5 => ?_) (fun c_5 => ?_)
    · have hw := hw.1 c_5
      refine lv_iload_n hx hb dX3_portsOf_13 rfl (lv_at hl 1 rfl) ?_
      refine lv_goto (tgt := 22) hx hb dX3_portsOf_14 (by decide) ?_
      exact rtI F hr hlocks hK hw hP hS dX3_portsOf_22
    · have hw := hw.2 c_5
      refine lv_iload_n hx hb dX3_portsOf_6 rfl (lv_at hl 0 rfl) ?_
      refine csI (As := [.int a1]) (rest := []) F hK hP hS (c_X3_exists l D ad cI cJ hap H.size _ _ _ hw) (va_cwS 1 hts gU_X3_11 rfl rfl rfl (by decide +kernel) ⟨Nat.le_of_ble_eq_true rfl, Nat.le_of_ble_eq_true rfl⟩) rfl hl.1 rfl (Nat.le_of_ble_eq_true rfl) dX3_portsOf_7 ⟨Nat.zero_le _, Nat.zero_le _⟩ (fun r_2 u_1 H locs hw hP hS => ?_)
      obtain ⟨zr_2, hw⟩ := hw
      refine lv_if_ne (tgt := 17) hx hb dX3_portsOf_10 (by decide) (fun c_4 => ?_) (fun c_4 => ?_)
      · have hw := hw.1 c_4
        refine va_gets hx hb hX.1 hS hown (hts _ mw_38) (fun _ h => h) dX3_portsOf_17 ?_
        refine lv_iload_n hx hb dX3_portsOf_20 rfl (lv_at hl 0 rfl) ?_
        obtain ⟨i_3, hw⟩ := hw
        refine va_ti hx hb hX.2 hS i_3 rfl dX3_portsOf_21 ?_
        exact rtI F hr hlocks hK hw hP hS dX3_portsOf_22
      · have hw := hw.2 c_4
        refine lv_iload_n hx hb dX3_portsOf_13 rfl (lv_at hl 1 rfl) ?_
        refine lv_goto (tgt := 22) hx hb dX3_portsOf_14 (by decide) ?_
        exact rtI F hr hlocks hK hw hP hS dX3_portsOf_22
  exact key s.heap [] hP hS

abbrev rm_X2_addAct : Room := { frames := 2, cells := 0, slots := 0, locals := 41 }
set_option maxHeartbeats 4000000 in
set_option maxRecDepth 100000 in
theorem c_X2_addAct (l : Launch) (D : va_G) (ad : Nat → Nat) (cI cJ : ClassId) (hap : apart ad 42) (sz : Nat) (σ : St) (a1 : Int32) (a2 : Int32) (a3 : Int32) (K : Int32 → St → Prop) (hw : w_X2_addAct σ a1 a2 a3 K) (aP : Nat) : Met l yX2_addAct wU_X2_addAct rm_X2_addAct (va_Pc [.ref (ad 1), .int a1, .int a2, .int a3] (fun U => U.heap.size = sz ∧ inW D (wdC ad cI cJ) [(cI, .int), (cJ, .long)] σ U ∧ jPZ ad 42 sz aP U)) (va_Qi K (inW D (wdC ad cI cJ) [(cI, .int), (cJ, .long)]) (AW ad 42 sz)) 0 0 (AW ad 42 sz) := by
  refine Met.ofW (cc := cX2_addAct) (maxL := 6) (ret := (some .int)) (by decide) rfl ?_
  intro p e s m args below meth c s₁ B hml hv
  obtain ⟨rfl, hsz, ⟨hP, hK⟩, hX⟩ := hv
  have F : CallFix p m c cX2_addAct 6 s ([.ref (ad 1), .int a1, .int a2, .int a3] : List Value).toArray lw_U RX2 := ⟨B.exec, B.bytes, hml, findClass_of_methodNamed B.named, fun w h => atoms_spec (ws := wU_X2_addAct) B.pre w (List.mem_cons_of_mem _ h)⟩
  have hx := F.1
  have hb := F.2.1
  have hown := F.2.2.2.1
  have hts := F.2.2.2.2
  have hr := B.returns
  have hlocks := B.notSynchronized
  subst hsz
  have hDs : ∀ σ, va_D (AW ad 42 s.heap.size) ((wdC ad cI cJ) σ) := fun σ => wdC_D hap σ
  have hS : va_S (AW ad 42 s.heap.size) s.heap s.heap [] := va_S.rf
  have lab_28 : ∀ (σ : St) (x1 : Int32) (x2 : Int32) (x3 : Int32) (t0 : Int32) (H : Heap) (locs : List Loc) (ls : Array Slot), b_X2_addAct_28 K σ x1 x2 x3 t0 → va_P D vwCl ((wdC ad cI cJ) σ) H → va_S (AW ad 42 s.heap.size) s.heap H locs → lv_has ls 6 [(0, .ref (ad 1)), (1, .int x1), (2, .int x2), (3, .int x3)] → W p l e (headSpec wU_X2_addAct rm_X2_addAct).room s m ([.ref (ad 1), .int a1, .int a2, .int a3] : List Value).toArray below meth c H locs 0 0 (MQ below (va_Qi K (inW D (wdC ad cI cJ) [(cI, .int), (cJ, .long)]) (AW ad 42 s.heap.size)) ([.ref (ad 1), .int a1, .int a2, .int a3] : List Value).toArray s 0 0 (AW ad 42 s.heap.size)) (F0 m 28 ls [.int t0]) := by
    intro σ x1 x2 x3 t0 H locs ls hw hP hS hl
    unfold b_X2_addAct_28 at hw
    refine lv_istore (lv' := [(4, .int t0), (0, .ref (ad 1)), (1, .int x1), (2, .int x2), (3, .int x3)]) hx hb dX2_addAct_28 hl (by decide) rfl (fun ls hl => ?_)
    refine lv_iload hx hb dX2_addAct_30 (lv_at hl 0 rfl) ?_
    refine lv_if_eq (tgt := 44) hx hb dX2_addAct_32 (by decide) (fun c_11 => ?_) (fun c_11 => ?_)
    · have hw := hw.1 c_11
      refine lv_iconst (v := (-1)) hx hb dX2_addAct_44 (by decide) ?_
      exact rtI F hr hlocks hK hw hP hS dX2_addAct_45
    · have hw := hw.2 c_11
      refine lv_aload_n hx hb dX2_addAct_35 rfl (lv_at hl 1 rfl) ?_
      refine gC_X2_acts F hK hP (hts _ mw_27) dX2_addAct_36 ?_
      refine lv_bipush (v := 80) hx hb dX2_addAct_39 (by decide) ?_
      refine lv_icmp_lt (tgt := 46) hx hb dX2_addAct_41 (by decide) (fun c_10 => ?_) (fun c_10 => ?_)
      · have hw := hw.1 c_10
        refine lv_aload_n hx hb dX2_addAct_46 rfl (lv_at hl 1 rfl) ?_
        refine gC_X2_acts F hK hP (hts _ mw_27) dX2_addAct_47 ?_
        refine lv_istore (lv' := [(5, .int (gS σ 1)), (4, .int t0), (0, .ref (ad 1)), (1, .int x1), (2, .int x2), (3, .int x3)]) hx hb dX2_addAct_50 hl (by decide) rfl (fun ls hl => ?_)
        refine lv_aload_n hx hb dX2_addAct_52 rfl (lv_at hl 2 rfl) ?_
        refine lv_dup hx hb dX2_addAct_53 rfl ?_
        refine gC_X2_acts F hK hP (hts _ mw_27) dX2_addAct_54 ?_
        refine lv_iconst (v := 1) hx hb dX2_addAct_57 (by decide) ?_
        refine lv_iadd hx hb dX2_addAct_58 ?_
        refine pC_X2_acts F hK hP hDs hS (hts _ mw_27) dX2_addAct_59 (fun H locs hP hS => ?_)
        refine lv_aload_n hx hb dX2_addAct_62 rfl (lv_at hl 2 rfl) ?_
        refine gC_X2_kind F hK hP (hts _ mw_39) dX2_addAct_63 ?_
        refine lv_iload hx hb dX2_addAct_66 (lv_at hl 0 rfl) ?_
        refine lv_iload_n hx hb dX2_addAct_68 rfl (lv_at hl 3 rfl) ?_
        obtain ⟨i_9, hw⟩ := hw
        refine sC_X2_kind F hK hP hDs hS i_9 dX2_addAct_69 (fun H locs hP hS => ?_)
        refine lv_aload_n hx hb dX2_addAct_70 rfl (lv_at hl 2 rfl) ?_
        refine gC_X2_number F hK hP (hts _ mw_40) dX2_addAct_71 ?_
        refine lv_iload hx hb dX2_addAct_74 (lv_at hl 0 rfl) ?_
        refine lv_iload_n hx hb dX2_addAct_76 rfl (lv_at hl 4 rfl) ?_
        obtain ⟨i_8, hw⟩ := hw
        refine sC_X2_number F hK hP hDs hS i_8 dX2_addAct_77 (fun H locs hP hS => ?_)
        refine lv_aload_n hx hb dX2_addAct_78 rfl (lv_at hl 2 rfl) ?_
        refine gC_X2_ports F hK hP (hts _ mw_33) dX2_addAct_79 ?_
        refine lv_iload hx hb dX2_addAct_82 (lv_at hl 0 rfl) ?_
        refine lv_iload_n hx hb dX2_addAct_84 rfl (lv_at hl 3 rfl) ?_
        refine lv_iload_n hx hb dX2_addAct_85 rfl (lv_at hl 5 rfl) ?_
        refine csIX (X := jPZ ad 42 H.size aP) jPZ_blind (jPZ_at hX hS) (As := [.int x1, .int x3]) (rest := [.int (gS σ 1), .ref (ad 11)]) F hK hP hS (c_X3_portsOf l D ad cI cJ hap H.size _ _ _ _ hw aP) (va_cwS 2 hts gU_X2_74 rfl rfl rfl (by decide +kernel) ⟨Nat.le_of_ble_eq_true rfl, Nat.le_of_ble_eq_true rfl⟩) rfl hl.1 rfl (Nat.le_of_ble_eq_true rfl) dX2_addAct_86 ⟨Nat.zero_le _, Nat.zero_le _⟩ (fun r_2 u_1 H locs hw hP hS => ?_)
        obtain ⟨i_7, hw⟩ := hw
        refine sC_X2_ports F hK hP hDs hS i_7 dX2_addAct_89 (fun H locs hP hS => ?_)
        refine lv_iload_n hx hb dX2_addAct_90 rfl (lv_at hl 3 rfl) ?_
        refine lv_bipush (v := 15) hx hb dX2_addAct_91 (by decide) ?_
        refine lv_icmp_ne (tgt := 114) hx hb dX2_addAct_93 (by decide) (fun c_6 => ?_) (fun c_6 => ?_)
        · have hw := hw.1 c_6
          refine lv_iload hx hb dX2_addAct_114 (lv_at hl 0 rfl) ?_
          exact rtI F hr hlocks hK hw hP hS dX2_addAct_116
        · have hw := hw.2 c_6
          refine lv_aload_n hx hb dX2_addAct_96 rfl (lv_at hl 2 rfl) ?_
          refine gC_X2_parameter F hK hP (hts _ mw_44) dX2_addAct_97 ?_
          refine lv_iload_n hx hb dX2_addAct_100 rfl (lv_at hl 4 rfl) ?_
          obtain ⟨i_5, hw⟩ := hw
          refine lC_X2_parameter F hK hP i_5 dX2_addAct_101 ?_
          refine jvi (y := (gA u_1 3 (x2).toNatClampNeg)) (by simp only [gS_sS, gS_sA, gS_sL, gS_fA, gS_fL, gA_sS, gA_sA, gA_sL, gA_fA, gA_fL, gL_sS, gL_sA, gL_sL, gL_fA, gL_fL, reduceIte, Nat.reduceEqDiff]) ?_
          refine lv_iconst (v := (-1)) hx hb dX2_addAct_102 (by decide) ?_
          refine lv_icmp_ne (tgt := 114) hx hb dX2_addAct_103 (by decide) (fun c_4 => ?_) (fun c_4 => ?_)
          · have hw := hw.1 c_4
            refine lv_iload hx hb dX2_addAct_114 (lv_at hl 0 rfl) ?_
            exact rtI F hr hlocks hK hw hP hS dX2_addAct_116
          · have hw := hw.2 c_4
            refine lv_aload_n hx hb dX2_addAct_106 rfl (lv_at hl 2 rfl) ?_
            refine gC_X2_parameter F hK hP (hts _ mw_44) dX2_addAct_107 ?_
            refine lv_iload_n hx hb dX2_addAct_110 rfl (lv_at hl 4 rfl) ?_
            refine lv_iload hx hb dX2_addAct_111 (lv_at hl 0 rfl) ?_
            obtain ⟨i_3, hw⟩ := hw
            refine sC_X2_parameter F hK hP hDs hS i_3 dX2_addAct_113 (fun H locs hP hS => ?_)
            refine lv_iload hx hb dX2_addAct_114 (lv_at hl 0 rfl) ?_
            exact rtI F hr hlocks hK hw hP hS dX2_addAct_116
      · have hw := hw.2 c_10
        refine lv_iconst (v := (-1)) hx hb dX2_addAct_44 (by decide) ?_
        exact rtI F hr hlocks hK hw hP hS dX2_addAct_45
  have hl := lv_entry ([.ref (ad 1), .int a1, .int a2, .int a3]) (n := 6) (Nat.le_of_ble_eq_true rfl)
  rw [lg_entry_eq]
  generalize (lg_sl ([.ref (ad 1), .int a1, .int a2, .int a3]) ++ List.replicate (6 - (lg_sl ([.ref (ad 1), .int a1, .int a2, .int a3])).length) Slot.unset).toArray = ls at hl ⊢
  have hl : lv_has ls 6 [(0, .ref (ad 1)), (1, .int a1), (2, .int a2), (3, .int a3)] := hl
  have key : ∀ (H : Heap) (locs : List Loc), va_P D vwCl ((wdC ad cI cJ) σ) H → va_S (AW ad 42 s.heap.size) s.heap H locs → W p l e (headSpec wU_X2_addAct rm_X2_addAct).room s m ([.ref (ad 1), .int a1, .int a2, .int a3] : List Value).toArray below meth c H locs 0 0 (MQ below (va_Qi K (inW D (wdC ad cI cJ) [(cI, .int), (cJ, .long)]) (AW ad 42 s.heap.size)) ([.ref (ad 1), .int a1, .int a2, .int a3] : List Value).toArray s 0 0 (AW ad 42 s.heap.size)) (F0 m 0 ls []) := by
    intro H locs hP hS
    unfold w_X2_addAct at hw
    refine lv_iload_n hx hb dX2_addAct_0 rfl (lv_at hl 1 rfl) ?_
    refine csI (As := [.int a1]) (rest := []) F hK hP hS (c_X3_exists l D ad cI cJ hap H.size _ _ _ hw) (va_cwS 1 hts gU_X2_62 rfl rfl rfl (by decide +kernel) ⟨Nat.le_of_ble_eq_true rfl, Nat.le_of_ble_eq_true rfl⟩) rfl hl.1 rfl (Nat.le_of_ble_eq_true rfl) dX2_addAct_1 ⟨Nat.zero_le _, Nat.zero_le _⟩ (fun r_13 u_12 H locs hw hP hS => ?_)
    obtain ⟨zr_13, hw⟩ := hw
    refine lv_if_eq (tgt := 27) hx hb dX2_addAct_4 (by decide) (fun c_20 => ?_) (fun c_20 => ?_)
    · have hw := hw.1 c_20
      refine lv_iconst (v := 0) hx hb dX2_addAct_27 (by decide) ?_
      exact lab_28 _ _ _ _ _ _ _ _ hw hP hS (lv_sub hl [0, 1, 2, 3] rfl)
    · have hw := hw.2 c_20
      refine lv_iload_n hx hb dX2_addAct_7 rfl (lv_at hl 1 rfl) ?_
      refine lv_iload_n hx hb dX2_addAct_8 rfl (lv_at hl 2 rfl) ?_
      refine csI (As := [.int a1, .int a2]) (rest := []) F hK hP hS (c_X3_allowsNumber l D ad cI cJ hap H.size _ _ _ _ hw) (va_cwS 2 hts gU_X2_67 rfl rfl rfl (by decide +kernel) ⟨Nat.le_of_ble_eq_true rfl, Nat.le_of_ble_eq_true rfl⟩) rfl hl.1 rfl (Nat.le_of_ble_eq_true rfl) dX2_addAct_9 ⟨Nat.zero_le _, Nat.zero_le _⟩ (fun r_15 u_14 H locs hw hP hS => ?_)
      obtain ⟨zr_15, hw⟩ := hw
      refine lv_if_eq (tgt := 27) hx hb dX2_addAct_12 (by decide) (fun c_19 => ?_) (fun c_19 => ?_)
      · have hw := hw.1 c_19
        refine lv_iconst (v := 0) hx hb dX2_addAct_27 (by decide) ?_
        exact lab_28 _ _ _ _ _ _ _ _ hw hP hS (lv_sub hl [0, 1, 2, 3] rfl)
      · have hw := hw.2 c_19
        refine lv_iload_n hx hb dX2_addAct_15 rfl (lv_at hl 1 rfl) ?_
        refine lv_iload_n hx hb dX2_addAct_16 rfl (lv_at hl 3 rfl) ?_
        refine csI (As := [.int a1, .int a3]) (rest := []) F hK hP hS (c_X3_allowsPorts l D ad cI cJ hap H.size _ _ _ _ hw) (va_cwS 2 hts gU_X2_71 rfl rfl rfl (by decide +kernel) ⟨Nat.le_of_ble_eq_true rfl, Nat.le_of_ble_eq_true rfl⟩) rfl hl.1 rfl (Nat.le_of_ble_eq_true rfl) dX2_addAct_17 ⟨Nat.zero_le _, Nat.zero_le _⟩ (fun r_17 u_16 H locs hw hP hS => ?_)
        obtain ⟨zr_17, hw⟩ := hw
        refine lv_if_eq (tgt := 27) hx hb dX2_addAct_20 (by decide) (fun c_18 => ?_) (fun c_18 => ?_)
        · have hw := hw.1 c_18
          refine lv_iconst (v := 0) hx hb dX2_addAct_27 (by decide) ?_
          exact lab_28 _ _ _ _ _ _ _ _ hw hP hS (lv_sub hl [0, 1, 2, 3] rfl)
        · have hw := hw.2 c_18
          refine lv_iconst (v := 1) hx hb dX2_addAct_23 (by decide) ?_
          refine lv_goto (tgt := 28) hx hb dX2_addAct_24 (by decide) ?_
          exact lab_28 _ _ _ _ _ _ _ _ hw hP hS (lv_sub hl [0, 1, 2, 3] rfl)
  exact key s.heap [] hP hS

abbrev rm_X3_hasSide : Room := { frames := 0, cells := 0, slots := 0, locals := 0 }
set_option maxHeartbeats 4000000 in
set_option maxRecDepth 100000 in
theorem c_X3_hasSide (l : Launch) (D : va_G) (ad : Nat → Nat) (cI cJ : ClassId) (hap : apart ad 42) (sz : Nat) (σ : St) (a1 : Int32) (a2 : Int32) (K : Int32 → St → Prop) (hw : w_X3_hasSide σ a1 a2 K) : Met l yX3_hasSide wU_X3_hasSide rm_X3_hasSide (va_Pc [.int a1, .int a2] (fun U => U.heap.size = sz ∧ inW D (wdC ad cI cJ) [(cI, .int), (cJ, .long)] σ U)) (va_Qi (fun r u => zb r ∧ K r u) (inW D (wdC ad cI cJ) [(cI, .int), (cJ, .long)]) (AW ad 42 sz)) 0 0 (AW ad 42 sz) := by
  refine Met.ofW (cc := cX3_hasSide) (maxL := 2) (ret := (some .boolean)) (by decide) rfl ?_
  intro p e s m args below meth c s₁ B hml hv
  obtain ⟨rfl, hsz, ⟨hP, hK⟩⟩ := hv
  have F : CallFix p m c cX3_hasSide 2 s ([.int a1, .int a2] : List Value).toArray lw_U RX3 := ⟨B.exec, B.bytes, hml, findClass_of_methodNamed B.named, fun w h => atoms_spec (ws := wU_X3_hasSide) B.pre w (List.mem_cons_of_mem _ h)⟩
  have hx := F.1
  have hb := F.2.1
  have hown := F.2.2.2.1
  have hts := F.2.2.2.2
  have hr := B.returns
  have hlocks := B.notSynchronized
  subst hsz
  have hDs : ∀ σ, va_D (AW ad 42 s.heap.size) ((wdC ad cI cJ) σ) := fun σ => wdC_D hap σ
  have hS : va_S (AW ad 42 s.heap.size) s.heap s.heap [] := va_S.rf
  have hl := lv_entry ([.int a1, .int a2]) (n := 2) (Nat.le_of_ble_eq_true rfl)
  rw [lg_entry_eq]
  generalize (lg_sl ([.int a1, .int a2]) ++ List.replicate (2 - (lg_sl ([.int a1, .int a2])).length) Slot.unset).toArray = ls at hl ⊢
  have hl : lv_has ls 2 [(0, .int a1), (1, .int a2)] := hl
  have key : ∀ (H : Heap) (locs : List Loc), va_P D vwCl ((wdC ad cI cJ) σ) H → va_S (AW ad 42 s.heap.size) s.heap H locs → W p l e (headSpec wU_X3_hasSide rm_X3_hasSide).room s m ([.int a1, .int a2] : List Value).toArray below meth c H locs 0 0 (MQ below (va_Qi (fun r u => zb r ∧ K r u) (inW D (wdC ad cI cJ) [(cI, .int), (cJ, .long)]) (AW ad 42 s.heap.size)) ([.int a1, .int a2] : List Value).toArray s 0 0 (AW ad 42 s.heap.size)) (F0 m 0 ls []) := by
    intro H locs hP hS
    unfold w_X3_hasSide at hw
    refine lv_iload_n hx hb dX3_hasSide_0 rfl (lv_at hl 1 rfl) ?_
    refine lv_if_eq (tgt := 15) hx hb dX3_hasSide_1 (by decide) (fun c_3 => ?_) (fun c_3 => ?_)
    · have hw := hw.1 c_3
      refine lv_iconst (v := 1) hx hb dX3_hasSide_15 (by decide) ?_
      refine lv_goto (tgt := 20) hx hb dX3_hasSide_16 (by decide) ?_
      exact rtZ F hr hlocks hK hw (Or.inr rfl) hP hS dX3_hasSide_20
    · have hw := hw.2 c_3
      refine lv_iload_n hx hb dX3_hasSide_4 rfl (lv_at hl 1 rfl) ?_
      refine lv_iconst (v := 1) hx hb dX3_hasSide_5 (by decide) ?_
      refine lv_icmp_ne (tgt := 19) hx hb dX3_hasSide_6 (by decide) (fun c_2 => ?_) (fun c_2 => ?_)
      · have hw := hw.1 c_2
        refine lv_iconst (v := 0) hx hb dX3_hasSide_19 (by decide) ?_
        exact rtZ F hr hlocks hK hw (Or.inl rfl) hP hS dX3_hasSide_20
      · have hw := hw.2 c_2
        refine lv_iload_n hx hb dX3_hasSide_9 rfl (lv_at hl 0 rfl) ?_
        refine lv_bipush (v := 10) hx hb dX3_hasSide_10 (by decide) ?_
        refine lv_icmp_ne (tgt := 19) hx hb dX3_hasSide_12 (by decide) (fun c_1 => ?_) (fun c_1 => ?_)
        · have hw := hw.1 c_1
          refine lv_iconst (v := 0) hx hb dX3_hasSide_19 (by decide) ?_
          exact rtZ F hr hlocks hK hw (Or.inl rfl) hP hS dX3_hasSide_20
        · have hw := hw.2 c_1
          refine lv_iconst (v := 1) hx hb dX3_hasSide_15 (by decide) ?_
          refine lv_goto (tgt := 20) hx hb dX3_hasSide_16 (by decide) ?_
          exact rtZ F hr hlocks hK hw (Or.inr rfl) hP hS dX3_hasSide_20
  exact key s.heap [] hP hS

abbrev rm_X2_addWay : Room := { frames := 2, cells := 0, slots := 0, locals := 43 }
set_option maxHeartbeats 4000000 in
set_option maxRecDepth 100000 in
theorem c_X2_addWay (l : Launch) (D : va_G) (ad : Nat → Nat) (cI cJ : ClassId) (hap : apart ad 42) (sz : Nat) (σ : St) (a1 : Int32) (a2 : Int32) (a3 : Int32) (a4 : Int32) (K : Int32 → St → Prop) (hw : w_X2_addWay σ a1 a2 a3 a4 K) : Met l yX2_addWay wU_X2_addWay rm_X2_addWay (va_Pc [.ref (ad 1), .int a1, .int a2, .int a3, .int a4] (fun U => U.heap.size = sz ∧ inW D (wdC ad cI cJ) [(cI, .int), (cJ, .long)] σ U)) (va_Qi K (inW D (wdC ad cI cJ) [(cI, .int), (cJ, .long)]) (AW ad 42 sz)) 0 0 (AW ad 42 sz) := by
  refine Met.ofW (cc := cX2_addWay) (maxL := 8) (ret := (some .int)) (by decide) rfl ?_
  intro p e s m args below meth c s₁ B hml hv
  obtain ⟨rfl, hsz, ⟨hP, hK⟩⟩ := hv
  have F : CallFix p m c cX2_addWay 8 s ([.ref (ad 1), .int a1, .int a2, .int a3, .int a4] : List Value).toArray lw_U RX2 := ⟨B.exec, B.bytes, hml, findClass_of_methodNamed B.named, fun w h => atoms_spec (ws := wU_X2_addWay) B.pre w (List.mem_cons_of_mem _ h)⟩
  have hx := F.1
  have hb := F.2.1
  have hown := F.2.2.2.1
  have hts := F.2.2.2.2
  have hr := B.returns
  have hlocks := B.notSynchronized
  subst hsz
  have hDs : ∀ σ, va_D (AW ad 42 s.heap.size) ((wdC ad cI cJ) σ) := fun σ => wdC_D hap σ
  have hS : va_S (AW ad 42 s.heap.size) s.heap s.heap [] := va_S.rf
  have hl := lv_entry ([.ref (ad 1), .int a1, .int a2, .int a3, .int a4]) (n := 8) (Nat.le_of_ble_eq_true rfl)
  rw [lg_entry_eq]
  generalize (lg_sl ([.ref (ad 1), .int a1, .int a2, .int a3, .int a4]) ++ List.replicate (8 - (lg_sl ([.ref (ad 1), .int a1, .int a2, .int a3, .int a4])).length) Slot.unset).toArray = ls at hl ⊢
  have hl : lv_has ls 8 [(0, .ref (ad 1)), (1, .int a1), (2, .int a2), (3, .int a3), (4, .int a4)] := hl
  have key : ∀ (H : Heap) (locs : List Loc), va_P D vwCl ((wdC ad cI cJ) σ) H → va_S (AW ad 42 s.heap.size) s.heap H locs → W p l e (headSpec wU_X2_addWay rm_X2_addWay).room s m ([.ref (ad 1), .int a1, .int a2, .int a3, .int a4] : List Value).toArray below meth c H locs 0 0 (MQ below (va_Qi K (inW D (wdC ad cI cJ) [(cI, .int), (cJ, .long)]) (AW ad 42 s.heap.size)) ([.ref (ad 1), .int a1, .int a2, .int a3, .int a4] : List Value).toArray s 0 0 (AW ad 42 s.heap.size)) (F0 m 0 ls []) := by
    intro H locs hP hS
    unfold w_X2_addWay at hw
    refine lv_aload_n hx hb dX2_addWay_0 rfl (lv_at hl 0 rfl) ?_
    refine lv_iload_n hx hb dX2_addWay_1 rfl (lv_at hl 1 rfl) ?_
    refine cvI (As := [.int a1]) (rest := []) F hK hP hS (c_X2_hasAct l D ad cI cJ hap H.size _ _ _ hw) (cwV 1 hts gU_X2_58 rfl rfl rfl (by decide +kernel) ⟨Nat.le_of_ble_eq_true rfl, Nat.le_of_ble_eq_true rfl⟩) (va_recv hK hP (ci := 2) (q0 := 1) rfl rfl) rfl hl.1 rfl (Nat.le_of_ble_eq_true rfl) dX2_addWay_2 ⟨Nat.zero_le _, Nat.zero_le _⟩ (fun r_2 u_1 H locs hw hP hS => ?_)
    obtain ⟨zr_2, hw⟩ := hw
    refine lv_if_eq (tgt := 31) hx hb dX2_addWay_5 (by decide) (fun c_20 => ?_) (fun c_20 => ?_)
    · have hw := hw.1 c_20
      refine lv_iconst (v := (-1)) hx hb dX2_addWay_31 (by decide) ?_
      exact rtI F hr hlocks hK hw hP hS dX2_addWay_32
    · have hw := hw.2 c_20
      refine lv_aload_n hx hb dX2_addWay_8 rfl (lv_at hl 0 rfl) ?_
      refine gC_X2_kind F hK hP (hts _ mw_39) dX2_addWay_9 ?_
      refine lv_iload_n hx hb dX2_addWay_12 rfl (lv_at hl 1 rfl) ?_
      obtain ⟨i_19, hw⟩ := hw
      refine lC_X2_kind F hK hP i_19 dX2_addWay_13 ?_
      refine lv_iload_n hx hb dX2_addWay_14 rfl (lv_at hl 2 rfl) ?_
      refine csI (As := [.int (gA u_1 0 (a1).toNatClampNeg), .int a2]) (rest := []) F hK hP hS (c_X3_hasSide l D ad cI cJ hap H.size _ _ _ _ hw) (va_cwS 2 hts gU_X2_78 rfl rfl rfl (by decide +kernel) ⟨Nat.le_of_ble_eq_true rfl, Nat.le_of_ble_eq_true rfl⟩) rfl hl.1 rfl (Nat.le_of_ble_eq_true rfl) dX2_addWay_15 ⟨Nat.zero_le _, Nat.zero_le _⟩ (fun r_4 u_3 H locs hw hP hS => ?_)
      obtain ⟨zr_4, hw⟩ := hw
      refine lv_if_eq (tgt := 31) hx hb dX2_addWay_18 (by decide) (fun c_18 => ?_) (fun c_18 => ?_)
      · have hw := hw.1 c_18
        refine lv_iconst (v := (-1)) hx hb dX2_addWay_31 (by decide) ?_
        exact rtI F hr hlocks hK hw hP hS dX2_addWay_32
      · have hw := hw.2 c_18
        refine lv_aload_n hx hb dX2_addWay_21 rfl (lv_at hl 0 rfl) ?_
        refine lv_iload_n hx hb dX2_addWay_22 rfl (lv_at hl 3 rfl) ?_
        refine lv_iload hx hb dX2_addWay_23 (lv_at hl 4 rfl) ?_
        refine cvI (As := [.int a3, .int a4]) (rest := []) F hK hP hS (c_X2_hasPort l D ad cI cJ hap H.size _ _ _ _ hw) (cwV 2 hts gU_X2_81 rfl rfl rfl (by decide +kernel) ⟨Nat.le_of_ble_eq_true rfl, Nat.le_of_ble_eq_true rfl⟩) (va_recv hK hP (ci := 2) (q0 := 1) rfl rfl) rfl hl.1 rfl (Nat.le_of_ble_eq_true rfl) dX2_addWay_25 ⟨Nat.zero_le _, Nat.zero_le _⟩ (fun r_6 u_5 H locs hw hP hS => ?_)
        obtain ⟨zr_6, hw⟩ := hw
        refine lv_if_ne (tgt := 33) hx hb dX2_addWay_28 (by decide) (fun c_17 => ?_) (fun c_17 => ?_)
        · have hw := hw.1 c_17
          refine lv_aload_n hx hb dX2_addWay_33 rfl (lv_at hl 0 rfl) ?_
          refine gC_X2_ways F hK hP (hts _ mw_59) dX2_addWay_34 ?_
          refine lv_sipush (v := 300) hx hb dX2_addWay_37 (by decide) ?_
          refine lv_icmp_lt (tgt := 45) hx hb dX2_addWay_40 (by decide) (fun c_16 => ?_) (fun c_16 => ?_)
          · have hw := hw.1 c_16
            refine lv_aload_n hx hb dX2_addWay_45 rfl (lv_at hl 0 rfl) ?_
            refine gC_X2_ways F hK hP (hts _ mw_59) dX2_addWay_46 ?_
            refine lv_istore (lv' := [(5, .int (gS u_5 2)), (0, .ref (ad 1)), (1, .int a1), (2, .int a2), (3, .int a3), (4, .int a4)]) hx hb dX2_addWay_49 hl (by decide) rfl (fun ls hl => ?_)
            refine lv_aload_n hx hb dX2_addWay_51 rfl (lv_at hl 1 rfl) ?_
            refine lv_dup hx hb dX2_addWay_52 rfl ?_
            refine gC_X2_ways F hK hP (hts _ mw_59) dX2_addWay_53 ?_
            refine lv_iconst (v := 1) hx hb dX2_addWay_56 (by decide) ?_
            refine lv_iadd hx hb dX2_addWay_57 ?_
            refine pC_X2_ways F hK hP hDs hS (hts _ mw_59) dX2_addWay_58 (fun H locs hP hS => ?_)
            refine lv_aload_n hx hb dX2_addWay_61 rfl (lv_at hl 1 rfl) ?_
            refine gC_X2_wayTo F hK hP (hts _ mw_60) dX2_addWay_62 ?_
            refine lv_iload hx hb dX2_addWay_65 (lv_at hl 0 rfl) ?_
            refine lv_iload_n hx hb dX2_addWay_67 rfl (lv_at hl 4 rfl) ?_
            obtain ⟨i_15, hw⟩ := hw
            refine sC_X2_wayTo F hK hP hDs hS i_15 dX2_addWay_68 (fun H locs hP hS => ?_)
            refine lv_aload_n hx hb dX2_addWay_69 rfl (lv_at hl 1 rfl) ?_
            refine gC_X2_wayPort F hK hP (hts _ mw_61) dX2_addWay_70 ?_
            refine lv_iload hx hb dX2_addWay_73 (lv_at hl 0 rfl) ?_
            refine lv_iload hx hb dX2_addWay_75 (lv_at hl 5 rfl) ?_
            obtain ⟨i_14, hw⟩ := hw
            refine sC_X2_wayPort F hK hP hDs hS i_14 dX2_addWay_77 (fun H locs hP hS => ?_)
            refine lv_aload_n hx hb dX2_addWay_78 rfl (lv_at hl 1 rfl) ?_
            refine gC_X2_nextWay F hK hP (hts _ mw_62) dX2_addWay_79 ?_
            refine lv_iload hx hb dX2_addWay_82 (lv_at hl 0 rfl) ?_
            refine lv_iconst (v := (-1)) hx hb dX2_addWay_84 (by decide) ?_
            obtain ⟨i_13, hw⟩ := hw
            refine sC_X2_nextWay F hK hP hDs hS i_13 dX2_addWay_85 (fun H locs hP hS => ?_)
            refine lv_iconst (v := 2) hx hb dX2_addWay_86 (by decide) ?_
            refine lv_iload_n hx hb dX2_addWay_87 rfl (lv_at hl 2 rfl) ?_
            refine lv_imul hx hb dX2_addWay_88 ?_
            refine lv_iload_n hx hb dX2_addWay_89 rfl (lv_at hl 3 rfl) ?_
            refine lv_iadd hx hb dX2_addWay_90 ?_
            refine lv_istore (lv' := [(6, .int ((2 * a1) + a2)), (5, .int (gS u_5 2)), (0, .ref (ad 1)), (1, .int a1), (2, .int a2), (3, .int a3), (4, .int a4)]) hx hb dX2_addWay_91 hl (by decide) rfl (fun ls hl => ?_)
            refine lv_aload_n hx hb dX2_addWay_93 rfl (lv_at hl 2 rfl) ?_
            refine gC_X2_lastWay F hK hP (hts _ mw_63) dX2_addWay_94 ?_
            refine lv_iload hx hb dX2_addWay_97 (lv_at hl 0 rfl) ?_
            obtain ⟨i_12, hw⟩ := hw
            refine lC_X2_lastWay F hK hP i_12 dX2_addWay_99 ?_
            refine jvi (y := (gA u_5 8 (((2 * a1) + a2)).toNatClampNeg)) (by simp only [gS_sS, gS_sA, gS_sL, gS_fA, gS_fL, gA_sS, gA_sA, gA_sL, gA_fA, gA_fL, gL_sS, gL_sA, gL_sL, gL_fA, gL_fL, reduceIte, Nat.reduceEqDiff]) ?_
            refine lv_istore (lv' := [(7, .int (gA u_5 8 (((2 * a1) + a2)).toNatClampNeg)), (6, .int ((2 * a1) + a2)), (5, .int (gS u_5 2)), (0, .ref (ad 1)), (1, .int a1), (2, .int a2), (3, .int a3), (4, .int a4)]) hx hb dX2_addWay_100 hl (by decide) rfl (fun ls hl => ?_)
            refine lv_iload hx hb dX2_addWay_102 (lv_at hl 0 rfl) ?_
            refine lv_iconst (v := (-1)) hx hb dX2_addWay_104 (by decide) ?_
            refine lv_icmp_ne (tgt := 120) hx hb dX2_addWay_105 (by decide) (fun c_11 => ?_) (fun c_11 => ?_)
            · have hw := hw.1 c_11
              refine lv_aload_n hx hb dX2_addWay_120 rfl (lv_at hl 3 rfl) ?_
              refine gC_X2_nextWay F hK hP (hts _ mw_62) dX2_addWay_121 ?_
              refine lv_iload hx hb dX2_addWay_124 (lv_at hl 0 rfl) ?_
              refine lv_iload hx hb dX2_addWay_126 (lv_at hl 2 rfl) ?_
              obtain ⟨i_8, hw⟩ := hw
              refine sC_X2_nextWay F hK hP hDs hS i_8 dX2_addWay_128 (fun H locs hP hS => ?_)
              refine lv_aload_n hx hb dX2_addWay_129 rfl (lv_at hl 3 rfl) ?_
              refine gC_X2_lastWay F hK hP (hts _ mw_63) dX2_addWay_130 ?_
              refine lv_iload hx hb dX2_addWay_133 (lv_at hl 1 rfl) ?_
              refine lv_iload hx hb dX2_addWay_135 (lv_at hl 2 rfl) ?_
              obtain ⟨i_7, hw⟩ := hw
              refine sC_X2_lastWay F hK hP hDs hS i_7 dX2_addWay_137 (fun H locs hP hS => ?_)
              refine lv_iload hx hb dX2_addWay_138 (lv_at hl 2 rfl) ?_
              exact rtI F hr hlocks hK hw hP hS dX2_addWay_140
            · have hw := hw.2 c_11
              refine lv_aload_n hx hb dX2_addWay_108 rfl (lv_at hl 3 rfl) ?_
              refine gC_X2_firstWay F hK hP (hts _ mw_64) dX2_addWay_109 ?_
              refine lv_iload hx hb dX2_addWay_112 (lv_at hl 1 rfl) ?_
              refine lv_iload hx hb dX2_addWay_114 (lv_at hl 2 rfl) ?_
              obtain ⟨i_10, hw⟩ := hw
              refine sC_X2_firstWay F hK hP hDs hS i_10 dX2_addWay_116 (fun H locs hP hS => ?_)
              refine lv_goto (tgt := 129) hx hb dX2_addWay_117 (by decide) ?_
              refine lv_aload_n hx hb dX2_addWay_129 rfl (lv_at hl 3 rfl) ?_
              refine gC_X2_lastWay F hK hP (hts _ mw_63) dX2_addWay_130 ?_
              refine lv_iload hx hb dX2_addWay_133 (lv_at hl 1 rfl) ?_
              refine lv_iload hx hb dX2_addWay_135 (lv_at hl 2 rfl) ?_
              obtain ⟨i_9, hw⟩ := hw
              refine sC_X2_lastWay F hK hP hDs hS i_9 dX2_addWay_137 (fun H locs hP hS => ?_)
              refine lv_iload hx hb dX2_addWay_138 (lv_at hl 2 rfl) ?_
              exact rtI F hr hlocks hK hw hP hS dX2_addWay_140
          · have hw := hw.2 c_16
            refine lv_iconst (v := (-1)) hx hb dX2_addWay_43 (by decide) ?_
            exact rtI F hr hlocks hK hw hP hS dX2_addWay_44
        · have hw := hw.2 c_17
          refine lv_iconst (v := (-1)) hx hb dX2_addWay_31 (by decide) ?_
          exact rtI F hr hlocks hK hw hP hS dX2_addWay_32
  exact key s.heap [] hP hS

abbrev rm_X2_addToken : Room := { frames := 2, cells := 0, slots := 0, locals := 43 }
set_option maxHeartbeats 4000000 in
set_option maxRecDepth 100000 in
theorem c_X2_addToken (l : Launch) (D : va_G) (ad : Nat → Nat) (cI cJ : ClassId) (hap : apart ad 42) (sz : Nat) (σ : St) (a1 : Int32) (a2 : Int32) (a3 : Int32) (K : Int32 → St → Prop) (hw : w_X2_addToken σ a1 a2 a3 K) : Met l yX2_addToken wU_X2_addToken rm_X2_addToken (va_Pc [.ref (ad 1), .int a1, .int a2, .int a3] (fun U => U.heap.size = sz ∧ inW D (wdC ad cI cJ) [(cI, .int), (cJ, .long)] σ U)) (va_Qi K (inW D (wdC ad cI cJ) [(cI, .int), (cJ, .long)]) (AW ad 42 sz)) 0 0 (AW ad 42 sz) := by
  refine Met.ofW (cc := cX2_addToken) (maxL := 4) (ret := (some .int)) (by decide) rfl ?_
  intro p e s m args below meth c s₁ B hml hv
  obtain ⟨rfl, hsz, ⟨hP, hK⟩⟩ := hv
  have F : CallFix p m c cX2_addToken 4 s ([.ref (ad 1), .int a1, .int a2, .int a3] : List Value).toArray lw_U RX2 := ⟨B.exec, B.bytes, hml, findClass_of_methodNamed B.named, fun w h => atoms_spec (ws := wU_X2_addToken) B.pre w (List.mem_cons_of_mem _ h)⟩
  have hx := F.1
  have hb := F.2.1
  have hown := F.2.2.2.1
  have hts := F.2.2.2.2
  have hr := B.returns
  have hlocks := B.notSynchronized
  subst hsz
  have hDs : ∀ σ, va_D (AW ad 42 s.heap.size) ((wdC ad cI cJ) σ) := fun σ => wdC_D hap σ
  have hS : va_S (AW ad 42 s.heap.size) s.heap s.heap [] := va_S.rf
  have hl := lv_entry ([.ref (ad 1), .int a1, .int a2, .int a3]) (n := 4) (Nat.le_of_ble_eq_true rfl)
  rw [lg_entry_eq]
  generalize (lg_sl ([.ref (ad 1), .int a1, .int a2, .int a3]) ++ List.replicate (4 - (lg_sl ([.ref (ad 1), .int a1, .int a2, .int a3])).length) Slot.unset).toArray = ls at hl ⊢
  have hl : lv_has ls 4 [(0, .ref (ad 1)), (1, .int a1), (2, .int a2), (3, .int a3)] := hl
  have key : ∀ (H : Heap) (locs : List Loc), va_P D vwCl ((wdC ad cI cJ) σ) H → va_S (AW ad 42 s.heap.size) s.heap H locs → W p l e (headSpec wU_X2_addToken rm_X2_addToken).room s m ([.ref (ad 1), .int a1, .int a2, .int a3] : List Value).toArray below meth c H locs 0 0 (MQ below (va_Qi K (inW D (wdC ad cI cJ) [(cI, .int), (cJ, .long)]) (AW ad 42 s.heap.size)) ([.ref (ad 1), .int a1, .int a2, .int a3] : List Value).toArray s 0 0 (AW ad 42 s.heap.size)) (F0 m 0 ls []) := by
    intro H locs hP hS
    unfold w_X2_addToken at hw
    refine lv_aload_n hx hb dX2_addToken_0 rfl (lv_at hl 0 rfl) ?_
    refine lv_iload_n hx hb dX2_addToken_1 rfl (lv_at hl 1 rfl) ?_
    refine lv_iload_n hx hb dX2_addToken_2 rfl (lv_at hl 2 rfl) ?_
    refine cvI (As := [.int a1, .int a2]) (rest := []) F hK hP hS (c_X2_hasPort l D ad cI cJ hap H.size _ _ _ _ hw) (cwV 2 hts gU_X2_81 rfl rfl rfl (by decide +kernel) ⟨Nat.le_of_ble_eq_true rfl, Nat.le_of_ble_eq_true rfl⟩) (va_recv hK hP (ci := 2) (q0 := 1) rfl rfl) rfl hl.1 rfl (Nat.le_of_ble_eq_true rfl) dX2_addToken_3 ⟨Nat.zero_le _, Nat.zero_le _⟩ (fun r_2 u_1 H locs hw hP hS => ?_)
    obtain ⟨zr_2, hw⟩ := hw
    refine lv_if_eq (tgt := 18) hx hb dX2_addToken_6 (by decide) (fun c_7 => ?_) (fun c_7 => ?_)
    · have hw := hw.1 c_7
      refine lv_iconst (v := (-1)) hx hb dX2_addToken_18 (by decide) ?_
      exact rtI F hr hlocks hK hw hP hS dX2_addToken_19
    · have hw := hw.2 c_7
      refine lv_aload_n hx hb dX2_addToken_9 rfl (lv_at hl 0 rfl) ?_
      refine gC_X2_tokens F hK hP (hts _ mw_65) dX2_addToken_10 ?_
      refine lv_bipush (v := 40) hx hb dX2_addToken_13 (by decide) ?_
      refine lv_icmp_lt (tgt := 20) hx hb dX2_addToken_15 (by decide) (fun c_6 => ?_) (fun c_6 => ?_)
      · have hw := hw.1 c_6
        refine lv_aload_n hx hb dX2_addToken_20 rfl (lv_at hl 0 rfl) ?_
        refine gC_X2_tokenAct F hK hP (hts _ mw_66) dX2_addToken_21 ?_
        refine lv_aload_n hx hb dX2_addToken_24 rfl (lv_at hl 0 rfl) ?_
        refine gC_X2_tokens F hK hP (hts _ mw_65) dX2_addToken_25 ?_
        refine lv_iload_n hx hb dX2_addToken_28 rfl (lv_at hl 1 rfl) ?_
        obtain ⟨i_5, hw⟩ := hw
        refine sC_X2_tokenAct F hK hP hDs hS i_5 dX2_addToken_29 (fun H locs hP hS => ?_)
        refine lv_aload_n hx hb dX2_addToken_30 rfl (lv_at hl 0 rfl) ?_
        refine gC_X2_tokenPort F hK hP (hts _ mw_67) dX2_addToken_31 ?_
        refine lv_aload_n hx hb dX2_addToken_34 rfl (lv_at hl 0 rfl) ?_
        refine gC_X2_tokens F hK hP (hts _ mw_65) dX2_addToken_35 ?_
        refine jvi (y := (gS u_1 3)) (by simp only [gS_sS, gS_sA, gS_sL, gS_fA, gS_fL, gA_sS, gA_sA, gA_sL, gA_fA, gA_fL, gL_sS, gL_sA, gL_sL, gL_fA, gL_fL, reduceIte, Nat.reduceEqDiff]) ?_
        refine lv_iload_n hx hb dX2_addToken_38 rfl (lv_at hl 2 rfl) ?_
        obtain ⟨i_4, hw⟩ := hw
        refine sC_X2_tokenPort F hK hP hDs hS i_4 dX2_addToken_39 (fun H locs hP hS => ?_)
        refine lv_aload_n hx hb dX2_addToken_40 rfl (lv_at hl 0 rfl) ?_
        refine gC_X2_tokenValue F hK hP (hts _ mw_68) dX2_addToken_41 ?_
        refine lv_aload_n hx hb dX2_addToken_44 rfl (lv_at hl 0 rfl) ?_
        refine gC_X2_tokens F hK hP (hts _ mw_65) dX2_addToken_45 ?_
        refine jvi (y := (gS u_1 3)) (by simp only [gS_sS, gS_sA, gS_sL, gS_fA, gS_fL, gA_sS, gA_sA, gA_sL, gA_fA, gA_fL, gL_sS, gL_sA, gL_sL, gL_fA, gL_fL, reduceIte, Nat.reduceEqDiff]) ?_
        refine lv_iload_n hx hb dX2_addToken_48 rfl (lv_at hl 3 rfl) ?_
        obtain ⟨i_3, hw⟩ := hw
        refine sC_X2_tokenValue F hK hP hDs hS i_3 dX2_addToken_49 (fun H locs hP hS => ?_)
        refine lv_aload_n hx hb dX2_addToken_50 rfl (lv_at hl 0 rfl) ?_
        refine lv_dup hx hb dX2_addToken_51 rfl ?_
        refine gC_X2_tokens F hK hP (hts _ mw_65) dX2_addToken_52 ?_
        refine jvi (y := (gS u_1 3)) (by simp only [gS_sS, gS_sA, gS_sL, gS_fA, gS_fL, gA_sS, gA_sA, gA_sL, gA_fA, gA_fL, gL_sS, gL_sA, gL_sL, gL_fA, gL_fL, reduceIte, Nat.reduceEqDiff]) ?_
        refine lv_iconst (v := 1) hx hb dX2_addToken_55 (by decide) ?_
        refine lv_iadd hx hb dX2_addToken_56 ?_
        refine pC_X2_tokens F hK hP hDs hS (hts _ mw_65) dX2_addToken_57 (fun H locs hP hS => ?_)
        refine lv_aload_n hx hb dX2_addToken_60 rfl (lv_at hl 0 rfl) ?_
        refine gC_X2_tokens F hK hP (hts _ mw_65) dX2_addToken_61 ?_
        refine jvi (y := ((gS u_1 3) + 1)) (by simp only [gS_sS, gS_sA, gS_sL, gS_fA, gS_fL, gA_sS, gA_sA, gA_sL, gA_fA, gA_fL, gL_sS, gL_sA, gL_sL, gL_fA, gL_fL, reduceIte, Nat.reduceEqDiff]) ?_
        exact rtI F hr hlocks hK hw hP hS dX2_addToken_64
      · have hw := hw.2 c_6
        refine lv_iconst (v := (-1)) hx hb dX2_addToken_18 (by decide) ?_
        exact rtI F hr hlocks hK hw hP hS dX2_addToken_19
  exact key s.heap [] hP hS

abbrev rm_X2_dropTokens : Room := { frames := 0, cells := 0, slots := 0, locals := 0 }
set_option maxHeartbeats 4000000 in
set_option maxRecDepth 100000 in
theorem c_X2_dropTokens (l : Launch) (D : va_G) (ad : Nat → Nat) (cI cJ : ClassId) (hap : apart ad 42) (sz : Nat) (σ : St) (K : St → Prop) (hw : w_X2_dropTokens σ K) : Met l yX2_dropTokens wU_X2_dropTokens rm_X2_dropTokens (va_Pc [.ref (ad 1)] (fun U => U.heap.size = sz ∧ inW D (wdC ad cI cJ) [(cI, .int), (cJ, .long)] σ U)) (va_Qv K (inW D (wdC ad cI cJ) [(cI, .int), (cJ, .long)]) (AW ad 42 sz)) 0 0 (AW ad 42 sz) := by
  refine Met.ofW (cc := cX2_dropTokens) (maxL := 1) (ret := none) (by decide) rfl ?_
  intro p e s m args below meth c s₁ B hml hv
  obtain ⟨rfl, hsz, ⟨hP, hK⟩⟩ := hv
  have F : CallFix p m c cX2_dropTokens 1 s ([.ref (ad 1)] : List Value).toArray lw_U RX2 := ⟨B.exec, B.bytes, hml, findClass_of_methodNamed B.named, fun w h => atoms_spec (ws := wU_X2_dropTokens) B.pre w (List.mem_cons_of_mem _ h)⟩
  have hx := F.1
  have hb := F.2.1
  have hown := F.2.2.2.1
  have hts := F.2.2.2.2
  have hr := B.returns
  have hlocks := B.notSynchronized
  subst hsz
  have hDs : ∀ σ, va_D (AW ad 42 s.heap.size) ((wdC ad cI cJ) σ) := fun σ => wdC_D hap σ
  have hS : va_S (AW ad 42 s.heap.size) s.heap s.heap [] := va_S.rf
  have hl := lv_entry ([.ref (ad 1)]) (n := 1) (Nat.le_of_ble_eq_true rfl)
  rw [lg_entry_eq]
  generalize (lg_sl ([.ref (ad 1)]) ++ List.replicate (1 - (lg_sl ([.ref (ad 1)])).length) Slot.unset).toArray = ls at hl ⊢
  have hl : lv_has ls 1 [(0, .ref (ad 1))] := hl
  have key : ∀ (H : Heap) (locs : List Loc), va_P D vwCl ((wdC ad cI cJ) σ) H → va_S (AW ad 42 s.heap.size) s.heap H locs → W p l e (headSpec wU_X2_dropTokens rm_X2_dropTokens).room s m ([.ref (ad 1)] : List Value).toArray below meth c H locs 0 0 (MQ below (va_Qv K (inW D (wdC ad cI cJ) [(cI, .int), (cJ, .long)]) (AW ad 42 s.heap.size)) ([.ref (ad 1)] : List Value).toArray s 0 0 (AW ad 42 s.heap.size)) (F0 m 0 ls []) := by
    intro H locs hP hS
    unfold w_X2_dropTokens at hw
    refine lv_aload_n hx hb dX2_dropTokens_0 rfl (lv_at hl 0 rfl) ?_
    refine lv_iconst (v := 0) hx hb dX2_dropTokens_1 (by decide) ?_
    refine pC_X2_tokens F hK hP hDs hS (hts _ mw_65) dX2_dropTokens_2 (fun H locs hP hS => ?_)
    exact rtV F hr hlocks hK hw hP hS dX2_dropTokens_5
  exact key s.heap [] hP hS

abbrev rm_X2_dropWays : Room := { frames := 1, cells := 0, slots := 0, locals := 23 }
set_option maxHeartbeats 4000000 in
set_option maxRecDepth 100000 in
theorem c_X2_dropWays (l : Launch) (D : va_G) (ad : Nat → Nat) (cI cJ : ClassId) (hap : apart ad 42) (sz : Nat) (σ : St) (K : St → Prop) (hw : w_X2_dropWays σ K) : Met l yX2_dropWays wU_X2_dropWays rm_X2_dropWays (va_Pc [.ref (ad 1)] (fun U => U.heap.size = sz ∧ inW D (wdC ad cI cJ) [(cI, .int), (cJ, .long)] σ U)) (va_Qv K (inW D (wdC ad cI cJ) [(cI, .int), (cJ, .long)]) (AW ad 42 sz)) 0 0 (AW ad 42 sz) := by
  refine Met.ofW (cc := cX2_dropWays) (maxL := 1) (ret := none) (by decide) rfl ?_
  intro p e s m args below meth c s₁ B hml hv
  obtain ⟨rfl, hsz, ⟨hP, hK⟩⟩ := hv
  have F : CallFix p m c cX2_dropWays 1 s ([.ref (ad 1)] : List Value).toArray lw_U RX2 := ⟨B.exec, B.bytes, hml, findClass_of_methodNamed B.named, fun w h => atoms_spec (ws := wU_X2_dropWays) B.pre w (List.mem_cons_of_mem _ h)⟩
  have hx := F.1
  have hb := F.2.1
  have hown := F.2.2.2.1
  have hts := F.2.2.2.2
  have hr := B.returns
  have hlocks := B.notSynchronized
  subst hsz
  have hDs : ∀ σ, va_D (AW ad 42 s.heap.size) ((wdC ad cI cJ) σ) := fun σ => wdC_D hap σ
  have hS : va_S (AW ad 42 s.heap.size) s.heap s.heap [] := va_S.rf
  have hl := lv_entry ([.ref (ad 1)]) (n := 1) (Nat.le_of_ble_eq_true rfl)
  rw [lg_entry_eq]
  generalize (lg_sl ([.ref (ad 1)]) ++ List.replicate (1 - (lg_sl ([.ref (ad 1)])).length) Slot.unset).toArray = ls at hl ⊢
  have hl : lv_has ls 1 [(0, .ref (ad 1))] := hl
  have key : ∀ (H : Heap) (locs : List Loc), va_P D vwCl ((wdC ad cI cJ) σ) H → va_S (AW ad 42 s.heap.size) s.heap H locs → W p l e (headSpec wU_X2_dropWays rm_X2_dropWays).room s m ([.ref (ad 1)] : List Value).toArray below meth c H locs 0 0 (MQ below (va_Qv K (inW D (wdC ad cI cJ) [(cI, .int), (cJ, .long)]) (AW ad 42 s.heap.size)) ([.ref (ad 1)] : List Value).toArray s 0 0 (AW ad 42 s.heap.size)) (F0 m 0 ls []) := by
    intro H locs hP hS
    unfold w_X2_dropWays at hw
    refine lv_aload_n hx hb dX2_dropWays_0 rfl (lv_at hl 0 rfl) ?_
    refine lv_iconst (v := 0) hx hb dX2_dropWays_1 (by decide) ?_
    refine pC_X2_ways F hK hP hDs hS (hts _ mw_59) dX2_dropWays_2 (fun H locs hP hS => ?_)
    refine lv_aload_n hx hb dX2_dropWays_5 rfl (lv_at hl 0 rfl) ?_
    refine gC_X2_firstWay F hK hP (hts _ mw_64) dX2_dropWays_6 ?_
    refine lv_iconst (v := (-1)) hx hb dX2_dropWays_9 (by decide) ?_
    refine fillI (rest := []) F hK hP (hDs _) hS 16 rfl (Nat.le_of_ble_eq_true rfl) (va_cwS 2 hts gU_X2_48 rfl rfl rfl (by decide +kernel) ⟨Nat.le_of_ble_eq_true rfl, Nat.le_of_ble_eq_true rfl⟩) hl.1 rfl (Nat.le_of_ble_eq_true rfl) dX2_dropWays_10 ⟨Nat.zero_le _, Nat.zero_le _⟩ (fun q h => AW.new h) (fun H locs hP hS => ?_)
    have hP : va_P D vwCl ((wdC ad cI cJ) (fA (sS σ 2 0) 7 (jfill (gA (sS σ 2 0) 7) 160 (-1)))) H := hP
    refine lv_aload_n hx hb dX2_dropWays_13 rfl (lv_at hl 0 rfl) ?_
    refine gC_X2_lastWay F hK hP (hts _ mw_63) dX2_dropWays_14 ?_
    refine lv_iconst (v := (-1)) hx hb dX2_dropWays_17 (by decide) ?_
    refine fillI (rest := []) F hK hP (hDs _) hS 17 rfl (Nat.le_of_ble_eq_true rfl) (va_cwS 2 hts gU_X2_48 rfl rfl rfl (by decide +kernel) ⟨Nat.le_of_ble_eq_true rfl, Nat.le_of_ble_eq_true rfl⟩) hl.1 rfl (Nat.le_of_ble_eq_true rfl) dX2_dropWays_18 ⟨Nat.zero_le _, Nat.zero_le _⟩ (fun q h => AW.new h) (fun H locs hP hS => ?_)
    have hP : va_P D vwCl ((wdC ad cI cJ) (fA (fA (sS σ 2 0) 7 (jfill (gA (sS σ 2 0) 7) 160 (-1))) 8 (jfill (gA (fA (sS σ 2 0) 7 (jfill (gA (sS σ 2 0) 7) 160 (-1))) 8) 160 (-1)))) H := hP
    exact rtV F hr hlocks hK hw hP hS dX2_dropWays_21
  exact key s.heap [] hP hS

abbrev rm_X2_dropActs : Room := { frames := 1, cells := 0, slots := 0, locals := 23 }
set_option maxHeartbeats 4000000 in
set_option maxRecDepth 100000 in
theorem c_X2_dropActs (l : Launch) (D : va_G) (ad : Nat → Nat) (cI cJ : ClassId) (hap : apart ad 42) (sz : Nat) (σ : St) (K : St → Prop) (hw : w_X2_dropActs σ K) : Met l yX2_dropActs wU_X2_dropActs rm_X2_dropActs (va_Pc [.ref (ad 1)] (fun U => U.heap.size = sz ∧ inW D (wdC ad cI cJ) [(cI, .int), (cJ, .long)] σ U)) (va_Qv K (inW D (wdC ad cI cJ) [(cI, .int), (cJ, .long)]) (AW ad 42 sz)) 0 0 (AW ad 42 sz) := by
  refine Met.ofW (cc := cX2_dropActs) (maxL := 1) (ret := none) (by decide) rfl ?_
  intro p e s m args below meth c s₁ B hml hv
  obtain ⟨rfl, hsz, ⟨hP, hK⟩⟩ := hv
  have F : CallFix p m c cX2_dropActs 1 s ([.ref (ad 1)] : List Value).toArray lw_U RX2 := ⟨B.exec, B.bytes, hml, findClass_of_methodNamed B.named, fun w h => atoms_spec (ws := wU_X2_dropActs) B.pre w (List.mem_cons_of_mem _ h)⟩
  have hx := F.1
  have hb := F.2.1
  have hown := F.2.2.2.1
  have hts := F.2.2.2.2
  have hr := B.returns
  have hlocks := B.notSynchronized
  subst hsz
  have hDs : ∀ σ, va_D (AW ad 42 s.heap.size) ((wdC ad cI cJ) σ) := fun σ => wdC_D hap σ
  have hS : va_S (AW ad 42 s.heap.size) s.heap s.heap [] := va_S.rf
  have hl := lv_entry ([.ref (ad 1)]) (n := 1) (Nat.le_of_ble_eq_true rfl)
  rw [lg_entry_eq]
  generalize (lg_sl ([.ref (ad 1)]) ++ List.replicate (1 - (lg_sl ([.ref (ad 1)])).length) Slot.unset).toArray = ls at hl ⊢
  have hl : lv_has ls 1 [(0, .ref (ad 1))] := hl
  have key : ∀ (H : Heap) (locs : List Loc), va_P D vwCl ((wdC ad cI cJ) σ) H → va_S (AW ad 42 s.heap.size) s.heap H locs → W p l e (headSpec wU_X2_dropActs rm_X2_dropActs).room s m ([.ref (ad 1)] : List Value).toArray below meth c H locs 0 0 (MQ below (va_Qv K (inW D (wdC ad cI cJ) [(cI, .int), (cJ, .long)]) (AW ad 42 s.heap.size)) ([.ref (ad 1)] : List Value).toArray s 0 0 (AW ad 42 s.heap.size)) (F0 m 0 ls []) := by
    intro H locs hP hS
    unfold w_X2_dropActs at hw
    refine lv_aload_n hx hb dX2_dropActs_0 rfl (lv_at hl 0 rfl) ?_
    refine lv_iconst (v := 0) hx hb dX2_dropActs_1 (by decide) ?_
    refine pC_X2_acts F hK hP hDs hS (hts _ mw_27) dX2_dropActs_2 (fun H locs hP hS => ?_)
    refine lv_aload_n hx hb dX2_dropActs_5 rfl (lv_at hl 0 rfl) ?_
    refine gC_X2_parameter F hK hP (hts _ mw_44) dX2_dropActs_6 ?_
    refine lv_iconst (v := (-1)) hx hb dX2_dropActs_9 (by decide) ?_
    refine fillI (rest := []) F hK hP (hDs _) hS 12 rfl (Nat.le_of_ble_eq_true rfl) (va_cwS 2 hts gU_X2_48 rfl rfl rfl (by decide +kernel) ⟨Nat.le_of_ble_eq_true rfl, Nat.le_of_ble_eq_true rfl⟩) hl.1 rfl (Nat.le_of_ble_eq_true rfl) dX2_dropActs_10 ⟨Nat.zero_le _, Nat.zero_le _⟩ (fun q h => AW.new h) (fun H locs hP hS => ?_)
    have hP : va_P D vwCl ((wdC ad cI cJ) (fA (sS σ 1 0) 3 (jfill (gA (sS σ 1 0) 3) 100 (-1)))) H := hP
    exact rtV F hr hlocks hK hw hP hS dX2_dropActs_13
  exact key s.heap [] hP hS

abbrev rm_X2_firstWayOf : Room := { frames := 0, cells := 0, slots := 0, locals := 0 }
set_option maxHeartbeats 4000000 in
set_option maxRecDepth 100000 in
theorem c_X2_firstWayOf (l : Launch) (D : va_G) (ad : Nat → Nat) (cI cJ : ClassId) (hap : apart ad 42) (sz : Nat) (σ : St) (a1 : Int32) (a2 : Int32) (K : Int32 → St → Prop) (hw : w_X2_firstWayOf σ a1 a2 K) : Met l yX2_firstWayOf wU_X2_firstWayOf rm_X2_firstWayOf (va_Pc [.ref (ad 1), .int a1, .int a2] (fun U => U.heap.size = sz ∧ inW D (wdC ad cI cJ) [(cI, .int), (cJ, .long)] σ U)) (va_Qi K (inW D (wdC ad cI cJ) [(cI, .int), (cJ, .long)]) (AW ad 42 sz)) 0 0 (AW ad 42 sz) := by
  refine Met.ofW (cc := cX2_firstWayOf) (maxL := 3) (ret := (some .int)) (by decide) rfl ?_
  intro p e s m args below meth c s₁ B hml hv
  obtain ⟨rfl, hsz, ⟨hP, hK⟩⟩ := hv
  have F : CallFix p m c cX2_firstWayOf 3 s ([.ref (ad 1), .int a1, .int a2] : List Value).toArray lw_U RX2 := ⟨B.exec, B.bytes, hml, findClass_of_methodNamed B.named, fun w h => atoms_spec (ws := wU_X2_firstWayOf) B.pre w (List.mem_cons_of_mem _ h)⟩
  have hx := F.1
  have hb := F.2.1
  have hown := F.2.2.2.1
  have hts := F.2.2.2.2
  have hr := B.returns
  have hlocks := B.notSynchronized
  subst hsz
  have hDs : ∀ σ, va_D (AW ad 42 s.heap.size) ((wdC ad cI cJ) σ) := fun σ => wdC_D hap σ
  have hS : va_S (AW ad 42 s.heap.size) s.heap s.heap [] := va_S.rf
  have hl := lv_entry ([.ref (ad 1), .int a1, .int a2]) (n := 3) (Nat.le_of_ble_eq_true rfl)
  rw [lg_entry_eq]
  generalize (lg_sl ([.ref (ad 1), .int a1, .int a2]) ++ List.replicate (3 - (lg_sl ([.ref (ad 1), .int a1, .int a2])).length) Slot.unset).toArray = ls at hl ⊢
  have hl : lv_has ls 3 [(0, .ref (ad 1)), (1, .int a1), (2, .int a2)] := hl
  have key : ∀ (H : Heap) (locs : List Loc), va_P D vwCl ((wdC ad cI cJ) σ) H → va_S (AW ad 42 s.heap.size) s.heap H locs → W p l e (headSpec wU_X2_firstWayOf rm_X2_firstWayOf).room s m ([.ref (ad 1), .int a1, .int a2] : List Value).toArray below meth c H locs 0 0 (MQ below (va_Qi K (inW D (wdC ad cI cJ) [(cI, .int), (cJ, .long)]) (AW ad 42 s.heap.size)) ([.ref (ad 1), .int a1, .int a2] : List Value).toArray s 0 0 (AW ad 42 s.heap.size)) (F0 m 0 ls []) := by
    intro H locs hP hS
    unfold w_X2_firstWayOf at hw
    refine lv_aload_n hx hb dX2_firstWayOf_0 rfl (lv_at hl 0 rfl) ?_
    refine gC_X2_firstWay F hK hP (hts _ mw_64) dX2_firstWayOf_1 ?_
    refine lv_iconst (v := 2) hx hb dX2_firstWayOf_4 (by decide) ?_
    refine lv_iload_n hx hb dX2_firstWayOf_5 rfl (lv_at hl 1 rfl) ?_
    refine lv_imul hx hb dX2_firstWayOf_6 ?_
    refine lv_iload_n hx hb dX2_firstWayOf_7 rfl (lv_at hl 2 rfl) ?_
    refine lv_iadd hx hb dX2_firstWayOf_8 ?_
    obtain ⟨i_1, hw⟩ := hw
    refine lC_X2_firstWay F hK hP i_1 dX2_firstWayOf_9 ?_
    exact rtI F hr hlocks hK hw hP hS dX2_firstWayOf_10
  exact key s.heap [] hP hS

abbrev rm_X2_countWays : Room := { frames := 1, cells := 0, slots := 0, locals := 22 }
set_option maxHeartbeats 4000000 in
set_option maxRecDepth 100000 in
theorem c_X2_countWays (l : Launch) (D : va_G) (ad : Nat → Nat) (cI cJ : ClassId) (hap : apart ad 42) (sz : Nat) (σ : St) (a1 : Int32) (a2 : Int32) (K : Int32 → St → Prop) (hw : w_X2_countWays σ a1 a2 K) : Met l yX2_countWays wU_X2_countWays rm_X2_countWays (va_Pc [.ref (ad 1), .int a1, .int a2] (fun U => U.heap.size = sz ∧ inW D (wdC ad cI cJ) [(cI, .int), (cJ, .long)] σ U)) (va_Qi K (inW D (wdC ad cI cJ) [(cI, .int), (cJ, .long)]) (AW ad 42 sz)) 0 0 (AW ad 42 sz) := by
  refine Met.ofW (cc := cX2_countWays) (maxL := 5) (ret := (some .int)) (by decide) rfl ?_
  intro p e s m args below meth c s₁ B hml hv
  obtain ⟨rfl, hsz, ⟨hP, hK⟩⟩ := hv
  have F : CallFix p m c cX2_countWays 5 s ([.ref (ad 1), .int a1, .int a2] : List Value).toArray lw_U RX2 := ⟨B.exec, B.bytes, hml, findClass_of_methodNamed B.named, fun w h => atoms_spec (ws := wU_X2_countWays) B.pre w (List.mem_cons_of_mem _ h)⟩
  have hx := F.1
  have hb := F.2.1
  have hown := F.2.2.2.1
  have hts := F.2.2.2.2
  have hr := B.returns
  have hlocks := B.notSynchronized
  subst hsz
  have hDs : ∀ σ, va_D (AW ad 42 s.heap.size) ((wdC ad cI cJ) σ) := fun σ => wdC_D hap σ
  have hS : va_S (AW ad 42 s.heap.size) s.heap s.heap [] := va_S.rf
  have lab_10 : ∀ (n : Nat), ∀ (σ : St) (x3 : Int32) (x4 : Int32) (H : Heap) (locs : List Loc) (ls : Array Slot), w_X2_countWays_10 K n σ x3 x4 → va_P D vwCl ((wdC ad cI cJ) σ) H → va_S (AW ad 42 s.heap.size) s.heap H locs → lv_has ls 5 [(0, .ref (ad 1)), (3, .int x3), (4, .int x4)] → W p l e (headSpec wU_X2_countWays rm_X2_countWays).room s m ([.ref (ad 1), .int a1, .int a2] : List Value).toArray below meth c H locs 0 0 (MQ below (va_Qi K (inW D (wdC ad cI cJ) [(cI, .int), (cJ, .long)]) (AW ad 42 s.heap.size)) ([.ref (ad 1), .int a1, .int a2] : List Value).toArray s 0 0 (AW ad 42 s.heap.size)) (F0 m 10 ls []) := by
    intro n
    induction n with
    | zero =>
      intro σ x3 x4 H locs ls hw
      exact hw.elim
    | succ n hL10 =>
      intro σ x3 x4 H locs ls hw hP hS hl
      have hw : b_X2_countWays_10 (w_X2_countWays_10 K n) K σ x3 x4 := hw
      unfold b_X2_countWays_10 at hw
      generalize w_X2_countWays_10 K n = L10 at hw hL10
      refine lv_iload hx hb dX2_countWays_10 (lv_at hl 2 rfl) ?_
      refine lv_iconst (v := (-1)) hx hb dX2_countWays_12 (by decide) ?_
      refine lv_icmp_eq (tgt := 38) hx hb dX2_countWays_13 (by decide) (fun c_3 => ?_) (fun c_3 => ?_)
      · have hw := hw.1 c_3
        refine lv_iload_n hx hb dX2_countWays_38 rfl (lv_at hl 1 rfl) ?_
        exact rtI F hr hlocks hK hw hP hS dX2_countWays_39
      · have hw := hw.2 c_3
        refine lv_iload_n hx hb dX2_countWays_16 rfl (lv_at hl 1 rfl) ?_
        refine lv_sipush (v := 300) hx hb dX2_countWays_17 (by decide) ?_
        refine lv_icmp_ge (tgt := 38) hx hb dX2_countWays_20 (by decide) (fun c_2 => ?_) (fun c_2 => ?_)
        · have hw := hw.1 c_2
          refine lv_iload_n hx hb dX2_countWays_38 rfl (lv_at hl 1 rfl) ?_
          exact rtI F hr hlocks hK hw hP hS dX2_countWays_39
        · have hw := hw.2 c_2
          refine lv_iinc (v := (x3 + 1)) (lv' := [(3, .int (x3 + 1)), (0, .ref (ad 1)), (4, .int x4)]) hx hb dX2_countWays_23 hl (k := 1) rfl rfl (by decide) rfl (fun ls hl => ?_)
          refine lv_aload_n hx hb dX2_countWays_26 rfl (lv_at hl 1 rfl) ?_
          refine gC_X2_nextWay F hK hP (hts _ mw_62) dX2_countWays_27 ?_
          refine lv_iload hx hb dX2_countWays_30 (lv_at hl 2 rfl) ?_
          obtain ⟨i_1, hw⟩ := hw
          refine lC_X2_nextWay F hK hP i_1 dX2_countWays_32 ?_
          refine lv_istore (lv' := [(4, .int (gA σ 6 (x4).toNatClampNeg)), (3, .int (x3 + 1)), (0, .ref (ad 1))]) hx hb dX2_countWays_33 hl (by decide) rfl (fun ls hl => ?_)
          refine lv_goto (tgt := 10) hx hb dX2_countWays_35 (by decide) ?_
          exact hL10 _ _ _ _ _ _ hw hP hS (lv_sub hl [2, 1, 0] rfl)
  have hl := lv_entry ([.ref (ad 1), .int a1, .int a2]) (n := 5) (Nat.le_of_ble_eq_true rfl)
  rw [lg_entry_eq]
  generalize (lg_sl ([.ref (ad 1), .int a1, .int a2]) ++ List.replicate (5 - (lg_sl ([.ref (ad 1), .int a1, .int a2])).length) Slot.unset).toArray = ls at hl ⊢
  have hl : lv_has ls 5 [(0, .ref (ad 1)), (1, .int a1), (2, .int a2)] := hl
  have key : ∀ (H : Heap) (locs : List Loc), va_P D vwCl ((wdC ad cI cJ) σ) H → va_S (AW ad 42 s.heap.size) s.heap H locs → W p l e (headSpec wU_X2_countWays rm_X2_countWays).room s m ([.ref (ad 1), .int a1, .int a2] : List Value).toArray below meth c H locs 0 0 (MQ below (va_Qi K (inW D (wdC ad cI cJ) [(cI, .int), (cJ, .long)]) (AW ad 42 s.heap.size)) ([.ref (ad 1), .int a1, .int a2] : List Value).toArray s 0 0 (AW ad 42 s.heap.size)) (F0 m 0 ls []) := by
    intro H locs hP hS
    unfold w_X2_countWays at hw
    refine lv_iconst (v := 0) hx hb dX2_countWays_0 (by decide) ?_
    refine lv_istore_n (lv' := [(3, .int 0), (0, .ref (ad 1)), (1, .int a1), (2, .int a2)]) hx hb dX2_countWays_1 rfl hl (by decide) rfl (fun ls hl => ?_)
    refine lv_aload_n hx hb dX2_countWays_2 rfl (lv_at hl 1 rfl) ?_
    refine lv_iload_n hx hb dX2_countWays_3 rfl (lv_at hl 2 rfl) ?_
    refine lv_iload_n hx hb dX2_countWays_4 rfl (lv_at hl 3 rfl) ?_
    refine cvI (As := [.int a1, .int a2]) (rest := []) F hK hP hS (c_X2_firstWayOf l D ad cI cJ hap H.size _ _ _ _ hw) (cwV 2 hts gU_X2_90 rfl rfl rfl (by decide +kernel) ⟨Nat.le_of_ble_eq_true rfl, Nat.le_of_ble_eq_true rfl⟩) (va_recv hK hP (ci := 2) (q0 := 1) rfl rfl) rfl hl.1 rfl (Nat.le_of_ble_eq_true rfl) dX2_countWays_5 ⟨Nat.zero_le _, Nat.zero_le _⟩ (fun r_5 u_4 H locs hw hP hS => ?_)
    refine lv_istore (lv' := [(4, .int r_5), (3, .int 0), (0, .ref (ad 1)), (1, .int a1), (2, .int a2)]) hx hb dX2_countWays_8 hl (by decide) rfl (fun ls hl => ?_)
    obtain ⟨n_6, hw⟩ := hw
    exact lab_10 n_6 _ _ _ _ _ _ hw hP hS (lv_sub hl [2, 1, 0] rfl)
  exact key s.heap [] hP hS
