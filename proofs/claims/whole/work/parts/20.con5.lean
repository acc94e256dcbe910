abbrev rm_X6_placeIn : Room := { frames := 1, cells := 0, slots := 0, locals := 21 }
set_option maxHeartbeats 4000000 in
set_option maxRecDepth 100000 in
theorem c_X6_placeIn (l : Launch) (D : va_G) (ad : Nat → Nat) (cI cJ : ClassId) (hap : apart ad 42) (sz : Nat) (σ : St) (a1 : Int32) (a2 : Int32) (K : Int32 → St → Prop) (hw : w_X6_placeIn σ a1 a2 K) : Met l yX6_placeIn wU_X6_placeIn rm_X6_placeIn (va_Pc [.ref (ad 3), .int a1, .int a2] (fun U => U.heap.size = sz ∧ inW D (wdC ad cI cJ) [(cI, .int), (cJ, .long)] σ U)) (va_Qi K (inW D (wdC ad cI cJ) [(cI, .int), (cJ, .long)]) (AW ad 42 sz)) 0 0 (AW ad 42 sz) := by
  refine Met.ofW (cc := cX6_placeIn) (maxL := 3) (ret := (some .int)) (by decide) rfl ?_
  intro p e s m args below meth c s₁ B hml hv
  obtain ⟨rfl, hsz, ⟨hP, hK⟩⟩ := hv
  have F : CallFix p m c cX6_placeIn 3 s ([.ref (ad 3), .int a1, .int a2] : List Value).toArray lw_U RX6 := ⟨B.exec, B.bytes, hml, findClass_of_methodNamed B.named, fun w h => atoms_spec (ws := wU_X6_placeIn) B.pre w (List.mem_cons_of_mem _ h)⟩
  have hx := F.1
  have hb := F.2.1
  have hown := F.2.2.2.1
  have hts := F.2.2.2.2
  have hr := B.returns
  have hlocks := B.notSynchronized
  subst hsz
  have hDs : ∀ σ, va_D (AW ad 42 s.heap.size) ((wdC ad cI cJ) σ) := fun σ => wdC_D hap σ
  have hS : va_S (AW ad 42 s.heap.size) s.heap s.heap [] := va_S.rf
  have hl := lv_entry ([.ref (ad 3), .int a1, .int a2]) (n := 3) (Nat.le_of_ble_eq_true rfl)
  rw [lg_entry_eq]
  generalize (lg_sl ([.ref (ad 3), .int a1, .int a2]) ++ List.replicate (3 - (lg_sl ([.ref (ad 3), .int a1, .int a2])).length) Slot.unset).toArray = ls at hl ⊢
  have hl : lv_has ls 3 [(0, .ref (ad 3)), (1, .int a1), (2, .int a2)] := hl
  have key : ∀ (H : Heap) (locs : List Loc), va_P D vwCl ((wdC ad cI cJ) σ) H → va_S (AW ad 42 s.heap.size) s.heap H locs → W p l e (headSpec wU_X6_placeIn rm_X6_placeIn).room s m ([.ref (ad 3), .int a1, .int a2] : List Value).toArray below meth c H locs 0 0 (MQ below (va_Qi K (inW D (wdC ad cI cJ) [(cI, .int), (cJ, .long)]) (AW ad 42 s.heap.size)) ([.ref (ad 3), .int a1, .int a2] : List Value).toArray s 0 0 (AW ad 42 s.heap.size)) (F0 m 0 ls []) := by
    intro H locs hP hS
    unfold w_X6_placeIn at hw
    refine lv_iload_n hx hb dX6_placeIn_0 rfl (lv_at hl 2 rfl) ?_
    refine lv_if_lt (tgt := 24) hx hb dX6_placeIn_1 (by decide) (fun c_5 => ?_) (fun c_5 => ?_)
    · have hw := hw.1 c_5
      refine lv_iconst (v := (-1)) hx hb dX6_placeIn_24 (by decide) ?_
      exact rtI F hr hlocks hK hw hP hS dX6_placeIn_25
    · have hw := hw.2 c_5
      refine lv_iload_n hx hb dX6_placeIn_4 rfl (lv_at hl 2 rfl) ?_
      refine lv_aload_n hx hb dX6_placeIn_5 rfl (lv_at hl 0 rfl) ?_
      refine lv_iload_n hx hb dX6_placeIn_6 rfl (lv_at hl 1 rfl) ?_
      refine cvI (As := [.int a1]) (rest := [.int a2]) F hK hP hS (c_X6_sizeOf l D ad cI cJ hap H.size _ _ _ hw) (cwV 1 hts gU_X6_52 rfl rfl rfl (by decide +kernel) ⟨Nat.le_of_ble_eq_true rfl, Nat.le_of_ble_eq_true rfl⟩) (va_recv hK hP (ci := 5) (q0 := 3) rfl rfl) rfl hl.1 rfl (Nat.le_of_ble_eq_true rfl) dX6_placeIn_7 ⟨Nat.zero_le _, Nat.zero_le _⟩ (fun r_2 u_1 H locs hw hP hS => ?_)
      refine lv_icmp_ge (tgt := 24) hx hb dX6_placeIn_10 (by decide) (fun c_4 => ?_) (fun c_4 => ?_)
      · have hw := hw.1 c_4
        refine lv_iconst (v := (-1)) hx hb dX6_placeIn_24 (by decide) ?_
        exact rtI F hr hlocks hK hw hP hS dX6_placeIn_25
      · have hw := hw.2 c_4
        refine lv_aload_n hx hb dX6_placeIn_13 rfl (lv_at hl 0 rfl) ?_
        refine gC_X6_start F hK hP (hts _ mw_221) dX6_placeIn_14 ?_
        refine lv_iload_n hx hb dX6_placeIn_17 rfl (lv_at hl 1 rfl) ?_
        obtain ⟨i_3, hw⟩ := hw
        refine lC_X6_start F hK hP i_3 dX6_placeIn_18 ?_
        refine lv_iload_n hx hb dX6_placeIn_19 rfl (lv_at hl 2 rfl) ?_
        refine lv_iadd hx hb dX6_placeIn_20 ?_
        refine lv_goto (tgt := 25) hx hb dX6_placeIn_21 (by decide) ?_
        exact rtI F hr hlocks hK hw hP hS dX6_placeIn_25
  exact key s.heap [] hP hS

abbrev rm_X4_placeAsked : Room := { frames := 2, cells := 0, slots := 0, locals := 43 }
set_option maxHeartbeats 4000000 in
set_option maxRecDepth 100000 in
theorem c_X4_placeAsked (l : Launch) (D : va_G) (ad : Nat → Nat) (cI cJ : ClassId) (hap : apart ad 42) (sz : Nat) (σ : St) (a1 : Int32) (K : Int32 → St → Prop) (hw : w_X4_placeAsked σ a1 K) : Met l yX4_placeAsked wU_X4_placeAsked rm_X4_placeAsked (va_Pc [.ref (ad 2), .int a1] (fun U => U.heap.size = sz ∧ inW D (wdC ad cI cJ) [(cI, .int), (cJ, .long)] σ U)) (va_Qi K (inW D (wdC ad cI cJ) [(cI, .int), (cJ, .long)]) (AW ad 42 sz)) 0 0 (AW ad 42 sz) := by
  refine Met.ofW (cc := cX4_placeAsked) (maxL := 3) (ret := (some .int)) (by decide) rfl ?_
  intro p e s m args below meth c s₁ B hml hv
  obtain ⟨rfl, hsz, ⟨hP, hK⟩⟩ := hv
  have F : CallFix p m c cX4_placeAsked 3 s ([.ref (ad 2), .int a1] : List Value).toArray lw_U RX4 := ⟨B.exec, B.bytes, hml, findClass_of_methodNamed B.named, fun w h => atoms_spec (ws := wU_X4_placeAsked) B.pre w (List.mem_cons_of_mem _ h)⟩
  have hx := F.1
  have hb := F.2.1
  have hown := F.2.2.2.1
  have hts := F.2.2.2.2
  have hr := B.returns
  have hlocks := B.notSynchronized
  subst hsz
  have hDs : ∀ σ, va_D (AW ad 42 s.heap.size) ((wdC ad cI cJ) σ) := fun σ => wdC_D hap σ
  have hS : va_S (AW ad 42 s.heap.size) s.heap s.heap [] := va_S.rf
  have hl := lv_entry ([.ref (ad 2), .int a1]) (n := 3) (Nat.le_of_ble_eq_true rfl)
  rw [lg_entry_eq]
  generalize (lg_sl ([.ref (ad 2), .int a1]) ++ List.replicate (3 - (lg_sl ([.ref (ad 2), .int a1])).length) Slot.unset).toArray = ls at hl ⊢
  have hl : lv_has ls 3 [(0, .ref (ad 2)), (1, .int a1)] := hl
  have key : ∀ (H : Heap) (locs : List Loc), va_P D vwCl ((wdC ad cI cJ) σ) H → va_S (AW ad 42 s.heap.size) s.heap H locs → W p l e (headSpec wU_X4_placeAsked rm_X4_placeAsked).room s m ([.ref (ad 2), .int a1] : List Value).toArray below meth c H locs 0 0 (MQ below (va_Qi K (inW D (wdC ad cI cJ) [(cI, .int), (cJ, .long)]) (AW ad 42 s.heap.size)) ([.ref (ad 2), .int a1] : List Value).toArray s 0 0 (AW ad 42 s.heap.size)) (F0 m 0 ls []) := by
    intro H locs hP hS
    unfold w_X4_placeAsked at hw
    refine lv_aload_n hx hb dX4_placeAsked_0 rfl (lv_at hl 0 rfl) ?_
    refine gC_X4_floor F hK hP (hts _ mw_86) dX4_placeAsked_1 ?_
    refine lv_iload_n hx hb dX4_placeAsked_4 rfl (lv_at hl 1 rfl) ?_
    refine lv_iconst (v := 0) hx hb dX4_placeAsked_5 (by decide) ?_
    refine cvL (As := [.int a1, .int 0]) (rest := []) F hK hP hS (c_X1_cameTo l D ad cI cJ hap H.size _ _ _ _ hw) (cwV 2 hts gU_X4_175 rfl rfl rfl (by decide +kernel) ⟨Nat.le_of_ble_eq_true rfl, Nat.le_of_ble_eq_true rfl⟩) (va_recv hK hP (ci := 1) (q0 := 5) rfl rfl) rfl hl.1 rfl (Nat.le_of_ble_eq_true rfl) dX4_placeAsked_6 ⟨Nat.zero_le _, Nat.zero_le _⟩ (fun r_2 u_1 H locs hw hP hS => ?_)
    refine csI (As := [.long r_2]) (rest := []) F hK hP hS (c_X8_contentOf l D ad cI cJ hap H.size _ _ _ hw) (va_cwS 1 hts gU_X4_111 rfl rfl rfl (by decide +kernel) ⟨Nat.le_of_ble_eq_true rfl, Nat.le_of_ble_eq_true rfl⟩) rfl hl.1 rfl (Nat.le_of_ble_eq_true rfl) dX4_placeAsked_9 ⟨Nat.zero_le _, Nat.zero_le _⟩ (fun r_4 u_3 H locs hw hP hS => ?_)
    refine lv_istore_n (lv' := [(2, .int r_4), (0, .ref (ad 2)), (1, .int a1)]) hx hb dX4_placeAsked_12 rfl hl (by decide) rfl (fun ls hl => ?_)
    refine lv_aload_n hx hb dX4_placeAsked_13 rfl (lv_at hl 1 rfl) ?_
    refine gC_X4_store F hK hP (hts _ mw_142) dX4_placeAsked_14 ?_
    refine lv_iload_n hx hb dX4_placeAsked_17 rfl (lv_at hl 0 rfl) ?_
    refine lv_aload_n hx hb dX4_placeAsked_18 rfl (lv_at hl 1 rfl) ?_
    refine gC_X4_floor F hK hP (hts _ mw_86) dX4_placeAsked_19 ?_
    refine lv_iload_n hx hb dX4_placeAsked_22 rfl (lv_at hl 2 rfl) ?_
    refine lv_iconst (v := 1) hx hb dX4_placeAsked_23 (by decide) ?_
    refine cvL (As := [.int a1, .int 1]) (rest := [.int r_4, .ref (ad 3)]) F hK hP hS (c_X1_cameTo l D ad cI cJ hap H.size _ _ _ _ hw) (cwV 2 hts gU_X4_175 rfl rfl rfl (by decide +kernel) ⟨Nat.le_of_ble_eq_true rfl, Nat.le_of_ble_eq_true rfl⟩) (va_recv hK hP (ci := 1) (q0 := 5) rfl rfl) rfl hl.1 rfl (Nat.le_of_ble_eq_true rfl) dX4_placeAsked_24 ⟨Nat.zero_le _, Nat.zero_le _⟩ (fun r_6 u_5 H locs hw hP hS => ?_)
    refine csI (As := [.long r_6]) (rest := [.int r_4, .ref (ad 3)]) F hK hP hS (c_X8_contentOf l D ad cI cJ hap H.size _ _ _ hw) (va_cwS 1 hts gU_X4_111 rfl rfl rfl (by decide +kernel) ⟨Nat.le_of_ble_eq_true rfl, Nat.le_of_ble_eq_true rfl⟩) rfl hl.1 rfl (Nat.le_of_ble_eq_true rfl) dX4_placeAsked_27 ⟨Nat.zero_le _, Nat.zero_le _⟩ (fun r_8 u_7 H locs hw hP hS => ?_)
    refine cvI (As := [.int r_4, .int r_8]) (rest := []) F hK hP hS (c_X6_placeIn l D ad cI cJ hap H.size _ _ _ _ hw) (cwV 2 hts gU_X4_294 rfl rfl rfl (by decide +kernel) ⟨Nat.le_of_ble_eq_true rfl, Nat.le_of_ble_eq_true rfl⟩) (va_recv hK hP (ci := 5) (q0 := 3) rfl rfl) rfl hl.1 rfl (Nat.le_of_ble_eq_true rfl) dX4_placeAsked_30 ⟨Nat.zero_le _, Nat.zero_le _⟩ (fun r_10 u_9 H locs hw hP hS => ?_)
    exact rtI F hr hlocks hK hw hP hS dX4_placeAsked_33
  exact key s.heap [] hP hS

abbrev rm_X8_refuseTwo : Room := { frames := 1, cells := 0, slots := 0, locals := 21 }
set_option maxHeartbeats 4000000 in
set_option maxRecDepth 100000 in
theorem c_X8_refuseTwo (l : Launch) (D : va_G) (ad : Nat → Nat) (cI cJ : ClassId) (hap : apart ad 42) (sz : Nat) (σ : St) (a1 : Int32) (a2 : Int64) (a3 : Int32) (a4 : Int64) (a5 : Int32) (K : Int64 → St → Prop) (hw : w_X8_refuseTwo σ a1 a2 a3 a4 a5 K) : Met l yX8_refuseTwo wU_X8_refuseTwo rm_X8_refuseTwo (va_Pc [.int a1, .long a2, .int a3, .long a4, .int a5] (fun U => U.heap.size = sz ∧ inW D (wdC ad cI cJ) [(cI, .int), (cJ, .long)] σ U)) (va_Ql K (inW D (wdC ad cI cJ) [(cI, .int), (cJ, .long)]) (AW ad 42 sz)) 0 0 (AW ad 42 sz) := by
  refine Met.ofW (cc := cX8_refuseTwo) (maxL := 8) (ret := (some .long)) (by decide) rfl ?_
  intro p e s m args below meth c s₁ B hml hv
  obtain ⟨rfl, hsz, ⟨hP, hK⟩⟩ := hv
  have F : CallFix p m c cX8_refuseTwo 8 s ([.int a1, .long a2, .int a3, .long a4, .int a5] : List Value).toArray lw_U RX8 := ⟨B.exec, B.bytes, hml, findClass_of_methodNamed B.named, fun w h => atoms_spec (ws := wU_X8_refuseTwo) B.pre w (List.mem_cons_of_mem _ h)⟩
  have hx := F.1
  have hb := F.2.1
  have hown := F.2.2.2.1
  have hts := F.2.2.2.2
  have hr := B.returns
  have hlocks := B.notSynchronized
  subst hsz
  have hDs : ∀ σ, va_D (AW ad 42 s.heap.size) ((wdC ad cI cJ) σ) := fun σ => wdC_D hap σ
  have hS : va_S (AW ad 42 s.heap.size) s.heap s.heap [] := va_S.rf
  have lab_45 : ∀ (σ : St) (x0 : Int32) (t0 : Int32) (H : Heap) (locs : List Loc) (ls : Array Slot), b_X8_refuseTwo_45 K σ x0 t0 → va_P D vwCl ((wdC ad cI cJ) σ) H → va_S (AW ad 42 s.heap.size) s.heap H locs → lv_has ls 8 [(0, .int x0)] → W p l e (headSpec wU_X8_refuseTwo rm_X8_refuseTwo).room s m ([.int a1, .long a2, .int a3, .long a4, .int a5] : List Value).toArray below meth c H locs 0 0 (MQ below (va_Ql K (inW D (wdC ad cI cJ) [(cI, .int), (cJ, .long)]) (AW ad 42 s.heap.size)) ([.int a1, .long a2, .int a3, .long a4, .int a5] : List Value).toArray s 0 0 (AW ad 42 s.heap.size)) (F0 m 45 ls [.int t0]) := by
    intro σ x0 t0 H locs ls hw hP hS hl
    unfold b_X8_refuseTwo_45 at hw
    refine lv_istore (lv' := [(7, .int t0), (0, .int x0)]) hx hb dX8_refuseTwo_45 hl (by decide) rfl (fun ls hl => ?_)
    refine lv_iload hx hb dX8_refuseTwo_47 (lv_at hl 0 rfl) ?_
    refine lv_if_eq (tgt := 56) hx hb dX8_refuseTwo_49 (by decide) (fun c_3 => ?_) (fun c_3 => ?_)
    · have hw := hw.1 c_3
      refine lv_iconst (v := 4) hx hb dX8_refuseTwo_56 (by decide) ?_
      refine lv_iload_n hx hb dX8_refuseTwo_57 rfl (lv_at hl 1 rfl) ?_
      refine csL (As := [.int 4, .int x0]) (rest := []) F hK hP hS (c_X8_ofFault l D ad cI cJ hap H.size _ _ _ _ hw) (va_cwS 2 hts gU_X8_25 rfl rfl rfl (by decide +kernel) ⟨Nat.le_of_ble_eq_true rfl, Nat.le_of_ble_eq_true rfl⟩) rfl hl.1 rfl (Nat.le_of_ble_eq_true rfl) dX8_refuseTwo_58 ⟨Nat.zero_le _, Nat.zero_le _⟩ (fun r_2 u_1 H locs hw hP hS => ?_)
      exact rtL F hr hlocks hK hw hP hS dX8_refuseTwo_61
    · have hw := hw.2 c_3
      refine lv_lconst (v := 0) hx hb dX8_refuseTwo_52 (by decide) ?_
      refine lv_goto (tgt := 61) hx hb dX8_refuseTwo_53 (by decide) ?_
      exact rtL F hr hlocks hK hw hP hS dX8_refuseTwo_61
  have hl := lv_entry ([.int a1, .long a2, .int a3, .long a4, .int a5]) (n := 8) (Nat.le_of_ble_eq_true rfl)
  rw [lg_entry_eq]
  generalize (lg_sl ([.int a1, .long a2, .int a3, .long a4, .int a5]) ++ List.replicate (8 - (lg_sl ([.int a1, .long a2, .int a3, .long a4, .int a5])).length) Slot.unset).toArray = ls at hl ⊢
  have hl : lv_has ls 8 [(0, .int a1), (1, .long a2), (3, .int a3), (4, .long a4), (6, .int a5)] := hl
  have key : ∀ (H : Heap) (locs : List Loc), va_P D vwCl ((wdC ad cI cJ) σ) H → va_S (AW ad 42 s.heap.size) s.heap H locs → W p l e (headSpec wU_X8_refuseTwo rm_X8_refuseTwo).room s m ([.int a1, .long a2, .int a3, .long a4, .int a5] : List Value).toArray below meth c H locs 0 0 (MQ below (va_Ql K (inW D (wdC ad cI cJ) [(cI, .int), (cJ, .long)]) (AW ad 42 s.heap.size)) ([.int a1, .long a2, .int a3, .long a4, .int a5] : List Value).toArray s 0 0 (AW ad 42 s.heap.size)) (F0 m 0 ls []) := by
    intro H locs hP hS
    unfold w_X8_refuseTwo at hw
    refine lv_lload_n hx hb dX8_refuseTwo_0 rfl (lv_at hl 1 rfl) ?_
    refine csI (As := [.long a2]) (rest := []) F hK hP hS (c_X8_sortOf l D ad cI cJ hap H.size _ _ _ hw) (va_cwS 1 hts gU_X8_21 rfl rfl rfl (by decide +kernel) ⟨Nat.le_of_ble_eq_true rfl, Nat.le_of_ble_eq_true rfl⟩) rfl hl.1 rfl (Nat.le_of_ble_eq_true rfl) dX8_refuseTwo_1 ⟨Nat.zero_le _, Nat.zero_le _⟩ (fun r_5 u_4 H locs hw hP hS => ?_)
    refine lv_iconst (v := 3) hx hb dX8_refuseTwo_4 (by decide) ?_
    refine lv_icmp_ne (tgt := 10) hx hb dX8_refuseTwo_5 (by decide) (fun c_15 => ?_) (fun c_15 => ?_)
    · have hw := hw.1 c_15
      refine lv_lload hx hb dX8_refuseTwo_10 (lv_at hl 3 rfl) ?_
      refine csI (As := [.long a4]) (rest := []) F hK hP hS (c_X8_sortOf l D ad cI cJ hap H.size _ _ _ hw) (va_cwS 1 hts gU_X8_21 rfl rfl rfl (by decide +kernel) ⟨Nat.le_of_ble_eq_true rfl, Nat.le_of_ble_eq_true rfl⟩) rfl hl.1 rfl (Nat.le_of_ble_eq_true rfl) dX8_refuseTwo_12 ⟨Nat.zero_le _, Nat.zero_le _⟩ (fun r_7 u_6 H locs hw hP hS => ?_)
      refine lv_iconst (v := 3) hx hb dX8_refuseTwo_15 (by decide) ?_
      refine lv_icmp_ne (tgt := 22) hx hb dX8_refuseTwo_16 (by decide) (fun c_14 => ?_) (fun c_14 => ?_)
      · have hw := hw.1 c_14
        refine lv_lload_n hx hb dX8_refuseTwo_22 rfl (lv_at hl 1 rfl) ?_
        refine csI (As := [.long a2]) (rest := []) F hK hP hS (c_X8_sortOf l D ad cI cJ hap H.size _ _ _ hw) (va_cwS 1 hts gU_X8_21 rfl rfl rfl (by decide +kernel) ⟨Nat.le_of_ble_eq_true rfl, Nat.le_of_ble_eq_true rfl⟩) rfl hl.1 rfl (Nat.le_of_ble_eq_true rfl) dX8_refuseTwo_23 ⟨Nat.zero_le _, Nat.zero_le _⟩ (fun r_9 u_8 H locs hw hP hS => ?_)
        refine lv_iload_n hx hb dX8_refuseTwo_26 rfl (lv_at hl 2 rfl) ?_
        refine lv_icmp_ne (tgt := 44) hx hb dX8_refuseTwo_27 (by decide) (fun c_13 => ?_) (fun c_13 => ?_)
        · have hw := hw.1 c_13
          refine lv_iconst (v := 0) hx hb dX8_refuseTwo_44 (by decide) ?_
          exact lab_45 _ _ _ _ _ _ hw hP hS (lv_sub hl [0] rfl)
        · have hw := hw.2 c_13
          refine lv_lload hx hb dX8_refuseTwo_30 (lv_at hl 3 rfl) ?_
          refine csI (As := [.long a4]) (rest := []) F hK hP hS (c_X8_sortOf l D ad cI cJ hap H.size _ _ _ hw) (va_cwS 1 hts gU_X8_21 rfl rfl rfl (by decide +kernel) ⟨Nat.le_of_ble_eq_true rfl, Nat.le_of_ble_eq_true rfl⟩) rfl hl.1 rfl (Nat.le_of_ble_eq_true rfl) dX8_refuseTwo_32 ⟨Nat.zero_le _, Nat.zero_le _⟩ (fun r_11 u_10 H locs hw hP hS => ?_)
          refine lv_iload hx hb dX8_refuseTwo_35 (lv_at hl 4 rfl) ?_
          refine lv_icmp_ne (tgt := 44) hx hb dX8_refuseTwo_37 (by decide) (fun c_12 => ?_) (fun c_12 => ?_)
          · have hw := hw.1 c_12
            refine lv_iconst (v := 0) hx hb dX8_refuseTwo_44 (by decide) ?_
            exact lab_45 _ _ _ _ _ _ hw hP hS (lv_sub hl [0] rfl)
          · have hw := hw.2 c_12
            refine lv_iconst (v := 1) hx hb dX8_refuseTwo_40 (by decide) ?_
            refine lv_goto (tgt := 45) hx hb dX8_refuseTwo_41 (by decide) ?_
            exact lab_45 _ _ _ _ _ _ hw hP hS (lv_sub hl [0] rfl)
      · have hw := hw.2 c_14
        refine lv_lload hx hb dX8_refuseTwo_19 (lv_at hl 3 rfl) ?_
        exact rtL F hr hlocks hK hw hP hS dX8_refuseTwo_21
    · have hw := hw.2 c_15
      refine lv_lload_n hx hb dX8_refuseTwo_8 rfl (lv_at hl 1 rfl) ?_
      exact rtL F hr hlocks hK hw hP hS dX8_refuseTwo_9
  exact key s.heap [] hP hS

abbrev rm_X4_refuseCell : Room := { frames := 2, cells := 0, slots := 0, locals := 48 }
set_option maxHeartbeats 4000000 in
set_option maxRecDepth 100000 in
theorem c_X4_refuseCell (l : Launch) (D : va_G) (ad : Nat → Nat) (cI cJ : ClassId) (hap : apart ad 42) (sz : Nat) (σ : St) (a1 : Int32) (a2 : Int32) (a3 : Int32) (K : Int64 → St → Prop) (hw : w_X4_refuseCell σ a1 a2 a3 K) : Met l yX4_refuseCell wU_X4_refuseCell rm_X4_refuseCell (va_Pc [.ref (ad 2), .int a1, .int a2, .int a3] (fun U => U.heap.size = sz ∧ inW D (wdC ad cI cJ) [(cI, .int), (cJ, .long)] σ U)) (va_Ql K (inW D (wdC ad cI cJ) [(cI, .int), (cJ, .long)]) (AW ad 42 sz)) 0 0 (AW ad 42 sz) := by
  refine Met.ofW (cc := cX4_refuseCell) (maxL := 10) (ret := (some .long)) (by decide) rfl ?_
  intro p e s m args below meth c s₁ B hml hv
  obtain ⟨rfl, hsz, ⟨hP, hK⟩⟩ := hv
  have F : CallFix p m c cX4_refuseCell 10 s ([.ref (ad 2), .int a1, .int a2, .int a3] : List Value).toArray lw_U RX4 := ⟨B.exec, B.bytes, hml, findClass_of_methodNamed B.named, fun w h => atoms_spec (ws := wU_X4_refuseCell) B.pre w (List.mem_cons_of_mem _ h)⟩
  have hx := F.1
  have hb := F.2.1
  have hown := F.2.2.2.1
  have hts := F.2.2.2.2
  have hr := B.returns
  have hlocks := B.notSynchronized
  subst hsz
  have hDs : ∀ σ, va_D (AW ad 42 s.heap.size) ((wdC ad cI cJ) σ) := fun σ => wdC_D hap σ
  have hS : va_S (AW ad 42 s.heap.size) s.heap s.heap [] := va_S.rf
  have hl := lv_entry ([.ref (ad 2), .int a1, .int a2, .int a3]) (n := 10) (Nat.le_of_ble_eq_true rfl)
  rw [lg_entry_eq]
  generalize (lg_sl ([.ref (ad 2), .int a1, .int a2, .int a3]) ++ List.replicate (10 - (lg_sl ([.ref (ad 2), .int a1, .int a2, .int a3])).length) Slot.unset).toArray = ls at hl ⊢
  have hl : lv_has ls 10 [(0, .ref (ad 2)), (1, .int a1), (2, .int a2), (3, .int a3)] := hl
  have key : ∀ (H : Heap) (locs : List Loc), va_P D vwCl ((wdC ad cI cJ) σ) H → va_S (AW ad 42 s.heap.size) s.heap H locs → W p l e (headSpec wU_X4_refuseCell rm_X4_refuseCell).room s m ([.ref (ad 2), .int a1, .int a2, .int a3] : List Value).toArray below meth c H locs 0 0 (MQ below (va_Ql K (inW D (wdC ad cI cJ) [(cI, .int), (cJ, .long)]) (AW ad 42 s.heap.size)) ([.ref (ad 2), .int a1, .int a2, .int a3] : List Value).toArray s 0 0 (AW ad 42 s.heap.size)) (F0 m 0 ls []) := by
    intro H locs hP hS
    unfold w_X4_refuseCell at hw
    refine lv_aload_n hx hb dX4_refuseCell_0 rfl (lv_at hl 0 rfl) ?_
    refine gC_X4_floor F hK hP (hts _ mw_86) dX4_refuseCell_1 ?_
    refine lv_iload_n hx hb dX4_refuseCell_4 rfl (lv_at hl 1 rfl) ?_
    refine lv_iconst (v := 0) hx hb dX4_refuseCell_5 (by decide) ?_
    refine cvL (As := [.int a1, .int 0]) (rest := []) F hK hP hS (c_X1_cameTo l D ad cI cJ hap H.size _ _ _ _ hw) (cwV 2 hts gU_X4_175 rfl rfl rfl (by decide +kernel) ⟨Nat.le_of_ble_eq_true rfl, Nat.le_of_ble_eq_true rfl⟩) (va_recv hK hP (ci := 1) (q0 := 5) rfl rfl) rfl hl.1 rfl (Nat.le_of_ble_eq_true rfl) dX4_refuseCell_6 ⟨Nat.zero_le _, Nat.zero_le _⟩ (fun r_2 u_1 H locs hw hP hS => ?_)
    refine lv_lstore (lv' := [(4, .long r_2), (0, .ref (ad 2)), (1, .int a1), (2, .int a2), (3, .int a3)]) hx hb dX4_refuseCell_9 hl (by decide) rfl (fun ls hl => ?_)
    refine lv_aload_n hx hb dX4_refuseCell_11 rfl (lv_at hl 1 rfl) ?_
    refine gC_X4_floor F hK hP (hts _ mw_86) dX4_refuseCell_12 ?_
    refine lv_iload_n hx hb dX4_refuseCell_15 rfl (lv_at hl 2 rfl) ?_
    refine lv_iconst (v := 1) hx hb dX4_refuseCell_16 (by decide) ?_
    refine cvL (As := [.int a1, .int 1]) (rest := []) F hK hP hS (c_X1_cameTo l D ad cI cJ hap H.size _ _ _ _ hw) (cwV 2 hts gU_X4_175 rfl rfl rfl (by decide +kernel) ⟨Nat.le_of_ble_eq_true rfl, Nat.le_of_ble_eq_true rfl⟩) (va_recv hK hP (ci := 1) (q0 := 5) rfl rfl) rfl hl.1 rfl (Nat.le_of_ble_eq_true rfl) dX4_refuseCell_17 ⟨Nat.zero_le _, Nat.zero_le _⟩ (fun r_4 u_3 H locs hw hP hS => ?_)
    refine lv_lstore (lv' := [(6, .long r_4), (4, .long r_2), (0, .ref (ad 2)), (1, .int a1), (2, .int a2), (3, .int a3)]) hx hb dX4_refuseCell_20 hl (by decide) rfl (fun ls hl => ?_)
    refine lv_iload_n hx hb dX4_refuseCell_22 rfl (lv_at hl 4 rfl) ?_
    refine lv_lload hx hb dX4_refuseCell_23 (lv_at hl 1 rfl) ?_
    refine lv_iconst (v := 2) hx hb dX4_refuseCell_25 (by decide) ?_
    refine lv_lload hx hb dX4_refuseCell_26 (lv_at hl 0 rfl) ?_
    refine lv_iconst (v := 1) hx hb dX4_refuseCell_28 (by decide) ?_
    refine csL (As := [.int a2, .long r_2, .int 2, .long r_4, .int 1]) (rest := []) F hK hP hS (c_X8_refuseTwo l D ad cI cJ hap H.size _ _ _ _ _ _ _ hw) (va_cwS 5 hts gU_X4_290 rfl rfl rfl (by decide +kernel) ⟨Nat.le_of_ble_eq_true rfl, Nat.le_of_ble_eq_true rfl⟩) rfl hl.1 rfl (Nat.le_of_ble_eq_true rfl) dX4_refuseCell_29 ⟨Nat.zero_le _, Nat.zero_le _⟩ (fun r_6 u_5 H locs hw hP hS => ?_)
    refine lv_lstore (lv' := [(8, .long r_6), (6, .long r_4), (4, .long r_2), (0, .ref (ad 2)), (1, .int a1), (2, .int a2), (3, .int a3)]) hx hb dX4_refuseCell_32 hl (by decide) rfl (fun ls hl => ?_)
    refine lv_lload hx hb dX4_refuseCell_34 (lv_at hl 0 rfl) ?_
    refine lv_lconst (v := 0) hx hb dX4_refuseCell_36 (by decide) ?_
    refine W.lcmp hx hb dX4_refuseCell_37 ?_
    refine lv_if_ne (tgt := 52) hx hb dX4_refuseCell_38 (by decide) (fun c_10 => ?_) (fun c_10 => ?_)
    · have hw := hw.1 c_10
      refine lv_lload hx hb dX4_refuseCell_52 (lv_at hl 0 rfl) ?_
      exact rtL F hr hlocks hK hw hP hS dX4_refuseCell_54
    · have hw := hw.2 c_10
      refine lv_iload_n hx hb dX4_refuseCell_41 rfl (lv_at hl 6 rfl) ?_
      refine lv_iconst (v := (-1)) hx hb dX4_refuseCell_42 (by decide) ?_
      refine lv_icmp_ne (tgt := 52) hx hb dX4_refuseCell_43 (by decide) (fun c_9 => ?_) (fun c_9 => ?_)
      · have hw := hw.1 c_9
        refine lv_lload hx hb dX4_refuseCell_52 (lv_at hl 0 rfl) ?_
        exact rtL F hr hlocks hK hw hP hS dX4_refuseCell_54
      · have hw := hw.2 c_9
        refine lv_iconst (v := 2) hx hb dX4_refuseCell_46 (by decide) ?_
        refine lv_iload_n hx hb dX4_refuseCell_47 rfl (lv_at hl 5 rfl) ?_
        refine csL (As := [.int 2, .int a2]) (rest := []) F hK hP hS (c_X8_ofFault l D ad cI cJ hap H.size _ _ _ _ hw) (va_cwS 2 hts gU_X4_241 rfl rfl rfl (by decide +kernel) ⟨Nat.le_of_ble_eq_true rfl, Nat.le_of_ble_eq_true rfl⟩) rfl hl.1 rfl (Nat.le_of_ble_eq_true rfl) dX4_refuseCell_48 ⟨Nat.zero_le _, Nat.zero_le _⟩ (fun r_8 u_7 H locs hw hP hS => ?_)
        exact rtL F hr hlocks hK hw hP hS dX4_refuseCell_51
  exact key s.heap [] hP hS

abbrev rm_X6_addReader : Room := { frames := 0, cells := 0, slots := 0, locals := 0 }
set_option maxHeartbeats 4000000 in
set_option maxRecDepth 100000 in
theorem c_X6_addReader (l : Launch) (D : va_G) (ad : Nat → Nat) (cI cJ : ClassId) (hap : apart ad 42) (sz : Nat) (σ : St) (a1 : Int32) (a2 : Int32) (K : St → Prop) (hw : w_X6_addReader σ a1 a2 K) : Met l yX6_addReader wU_X6_addReader rm_X6_addReader (va_Pc [.ref (ad 3), .int a1, .int a2] (fun U => U.heap.size = sz ∧ inW D (wdC ad cI cJ) [(cI, .int), (cJ, .long)] σ U)) (va_Qv K (inW D (wdC ad cI cJ) [(cI, .int), (cJ, .long)]) (AW ad 42 sz)) 0 0 (AW ad 42 sz) := by
  refine Met.ofW (cc := cX6_addReader) (maxL := 4) (ret := none) (by decide) rfl ?_
  intro p e s m args below meth c s₁ B hml hv
  obtain ⟨rfl, hsz, ⟨hP, hK⟩⟩ := hv
  have F : CallFix p m c cX6_addReader 4 s ([.ref (ad 3), .int a1, .int a2] : List Value).toArray lw_U RX6 := ⟨B.exec, B.bytes, hml, findClass_of_methodNamed B.named, fun w h => atoms_spec (ws := wU_X6_addReader) B.pre w (List.mem_cons_of_mem _ h)⟩
  have hx := F.1
  have hb := F.2.1
  have hown := F.2.2.2.1
  have hts := F.2.2.2.2
  have hr := B.returns
  have hlocks := B.notSynchronized
  subst hsz
  have hDs : ∀ σ, va_D (AW ad 42 s.heap.size) ((wdC ad cI cJ) σ) := fun σ => wdC_D hap σ
  have hS : va_S (AW ad 42 s.heap.size) s.heap s.heap [] := va_S.rf
  have lab_36 : ∀ (σ : St) (x1 : Int32) (x2 : Int32) (H : Heap) (locs : List Loc) (ls : Array Slot), b_X6_addReader_36 K σ x1 x2 → va_P D vwCl ((wdC ad cI cJ) σ) H → va_S (AW ad 42 s.heap.size) s.heap H locs → lv_has ls 4 [(0, .ref (ad 3)), (1, .int x1), (2, .int x2)] → W p l e (headSpec wU_X6_addReader rm_X6_addReader).room s m ([.ref (ad 3), .int a1, .int a2] : List Value).toArray below meth c H locs 0 0 (MQ below (va_Qv K (inW D (wdC ad cI cJ) [(cI, .int), (cJ, .long)]) (AW ad 42 s.heap.size)) ([.ref (ad 3), .int a1, .int a2] : List Value).toArray s 0 0 (AW ad 42 s.heap.size)) (F0 m 36 ls []) := by
    intro σ x1 x2 H locs ls hw hP hS hl
    unfold b_X6_addReader_36 at hw
    refine lv_aload_n hx hb dX6_addReader_36 rfl (lv_at hl 0 rfl) ?_
    refine gC_X6_lastReader F hK hP (hts _ mw_220) dX6_addReader_37 ?_
    refine lv_iload_n hx hb dX6_addReader_40 rfl (lv_at hl 1 rfl) ?_
    refine lv_iload_n hx hb dX6_addReader_41 rfl (lv_at hl 2 rfl) ?_
    obtain ⟨i_1, hw⟩ := hw
    refine sC_X6_lastReader F hK hP hDs hS i_1 dX6_addReader_42 (fun H locs hP hS => ?_)
    refine lv_aload_n hx hb dX6_addReader_43 rfl (lv_at hl 0 rfl) ?_
    refine lv_dup hx hb dX6_addReader_44 rfl ?_
    refine gC_X6_waiting F hK hP (hts _ mw_76) dX6_addReader_45 ?_
    refine jvi (y := (gS σ 11)) (by simp only [gS_sS, gS_sA, gS_sL, gS_fA, gS_fL, gA_sS, gA_sA, gA_sL, gA_fA, gA_fL, gL_sS, gL_sA, gL_sL, gL_fA, gL_fL, reduceIte, Nat.reduceEqDiff]) ?_
    refine lv_iconst (v := 1) hx hb dX6_addReader_48 (by decide) ?_
    refine lv_iadd hx hb dX6_addReader_49 ?_
    refine pC_X6_waiting F hK hP hDs hS (hts _ mw_76) dX6_addReader_50 (fun H locs hP hS => ?_)
    exact rtV F hr hlocks hK hw hP hS dX6_addReader_53
  have hl := lv_entry ([.ref (ad 3), .int a1, .int a2]) (n := 4) (Nat.le_of_ble_eq_true rfl)
  rw [lg_entry_eq]
  generalize (lg_sl ([.ref (ad 3), .int a1, .int a2]) ++ List.replicate (4 - (lg_sl ([.ref (ad 3), .int a1, .int a2])).length) Slot.unset).toArray = ls at hl ⊢
  have hl : lv_has ls 4 [(0, .ref (ad 3)), (1, .int a1), (2, .int a2)] := hl
  have key : ∀ (H : Heap) (locs : List Loc), va_P D vwCl ((wdC ad cI cJ) σ) H → va_S (AW ad 42 s.heap.size) s.heap H locs → W p l e (headSpec wU_X6_addReader rm_X6_addReader).room s m ([.ref (ad 3), .int a1, .int a2] : List Value).toArray below meth c H locs 0 0 (MQ below (va_Qv K (inW D (wdC ad cI cJ) [(cI, .int), (cJ, .long)]) (AW ad 42 s.heap.size)) ([.ref (ad 3), .int a1, .int a2] : List Value).toArray s 0 0 (AW ad 42 s.heap.size)) (F0 m 0 ls []) := by
    intro H locs hP hS
    unfold w_X6_addReader at hw
    refine lv_aload_n hx hb dX6_addReader_0 rfl (lv_at hl 0 rfl) ?_
    refine gC_X6_nextReader F hK hP (hts _ mw_246) dX6_addReader_1 ?_
    refine lv_iload_n hx hb dX6_addReader_4 rfl (lv_at hl 2 rfl) ?_
    refine lv_iconst (v := (-1)) hx hb dX6_addReader_5 (by decide) ?_
    obtain ⟨i_6, hw⟩ := hw
    refine sC_X6_nextReader F hK hP hDs hS i_6 dX6_addReader_6 (fun H locs hP hS => ?_)
    refine lv_aload_n hx hb dX6_addReader_7 rfl (lv_at hl 0 rfl) ?_
    refine gC_X6_lastReader F hK hP (hts _ mw_220) dX6_addReader_8 ?_
    refine lv_iload_n hx hb dX6_addReader_11 rfl (lv_at hl 1 rfl) ?_
    obtain ⟨i_5, hw⟩ := hw
    refine lC_X6_lastReader F hK hP i_5 dX6_addReader_12 ?_
    refine jvi (y := (gA σ 17 (a1).toNatClampNeg)) (by simp only [gS_sS, gS_sA, gS_sL, gS_fA, gS_fL, gA_sS, gA_sA, gA_sL, gA_fA, gA_fL, gL_sS, gL_sA, gL_sL, gL_fA, gL_fL, reduceIte, Nat.reduceEqDiff]) ?_
    refine lv_istore_n (lv' := [(3, .int (gA σ 17 (a1).toNatClampNeg)), (0, .ref (ad 3)), (1, .int a1), (2, .int a2)]) hx hb dX6_addReader_13 rfl hl (by decide) rfl (fun ls hl => ?_)
    refine lv_iload_n hx hb dX6_addReader_14 rfl (lv_at hl 0 rfl) ?_
    refine lv_iconst (v := (-1)) hx hb dX6_addReader_15 (by decide) ?_
    refine lv_icmp_ne (tgt := 29) hx hb dX6_addReader_16 (by decide) (fun c_4 => ?_) (fun c_4 => ?_)
    · have hw := hw.1 c_4
      refine lv_aload_n hx hb dX6_addReader_29 rfl (lv_at hl 1 rfl) ?_
      refine gC_X6_nextReader F hK hP (hts _ mw_246) dX6_addReader_30 ?_
      refine lv_iload_n hx hb dX6_addReader_33 rfl (lv_at hl 0 rfl) ?_
      refine lv_iload_n hx hb dX6_addReader_34 rfl (lv_at hl 3 rfl) ?_
      obtain ⟨i_2, hw⟩ := hw
      refine sC_X6_nextReader F hK hP hDs hS i_2 dX6_addReader_35 (fun H locs hP hS => ?_)
      exact lab_36 _ _ _ _ _ _ hw hP hS (lv_sub hl [1, 2, 3] rfl)
    · have hw := hw.2 c_4
      refine lv_aload_n hx hb dX6_addReader_19 rfl (lv_at hl 1 rfl) ?_
      refine gC_X6_firstReader F hK hP (hts _ mw_219) dX6_addReader_20 ?_
      refine lv_iload_n hx hb dX6_addReader_23 rfl (lv_at hl 2 rfl) ?_
      refine lv_iload_n hx hb dX6_addReader_24 rfl (lv_at hl 3 rfl) ?_
      obtain ⟨i_3, hw⟩ := hw
      refine sC_X6_firstReader F hK hP hDs hS i_3 dX6_addReader_25 (fun H locs hP hS => ?_)
      refine lv_goto (tgt := 36) hx hb dX6_addReader_26 (by decide) ?_
      exact lab_36 _ _ _ _ _ _ hw hP hS (lv_sub hl [1, 2, 3] rfl)
  exact key s.heap [] hP hS

abbrev rm_X4_goRead : Room := { frames := 3, cells := 0, slots := 0, locals := 79 }
set_option maxHeartbeats 4000000 in
set_option maxRecDepth 100000 in
theorem c_X4_goRead (l : Launch) (D : va_G) (ad : Nat → Nat) (cI cJ : ClassId) (hap : apart ad 42) (sz : Nat) (σ : St) (a1 : Int32) (a2 : Int32) (a3 : Int32) (K : St → Prop) (hw : w_X4_goRead σ a1 a2 a3 K) : Met l yX4_goRead wU_X4_goRead rm_X4_goRead (va_Pc [.ref (ad 2), .int a1, .int a2, .int a3] (fun U => U.heap.size = sz ∧ inW D (wdC ad cI cJ) [(cI, .int), (cJ, .long)] σ U)) (va_Qv K (inW D (wdC ad cI cJ) [(cI, .int), (cJ, .long)]) (AW ad 42 sz)) 0 0 (AW ad 42 sz) := by
  refine Met.ofW (cc := cX4_goRead) (maxL := 9) (ret := none) (by decide) rfl ?_
  intro p e s m args below meth c s₁ B hml hv
  obtain ⟨rfl, hsz, ⟨hP, hK⟩⟩ := hv
  have F : CallFix p m c cX4_goRead 9 s ([.ref (ad 2), .int a1, .int a2, .int a3] : List Value).toArray lw_U RX4 := ⟨B.exec, B.bytes, hml, findClass_of_methodNamed B.named, fun w h => atoms_spec (ws := wU_X4_goRead) B.pre w (List.mem_cons_of_mem _ h)⟩
  have hx := F.1
  have hb := F.2.1
  have hown := F.2.2.2.1
  have hts := F.2.2.2.2
  have hr := B.returns
  have hlocks := B.notSynchronized
  subst hsz
  have hDs : ∀ σ, va_D (AW ad 42 s.heap.size) ((wdC ad cI cJ) σ) := fun σ => wdC_D hap σ
  have hS : va_S (AW ad 42 s.heap.size) s.heap s.heap [] := va_S.rf
  have hl := lv_entry ([.ref (ad 2), .int a1, .int a2, .int a3]) (n := 9) (Nat.le_of_ble_eq_true rfl)
  rw [lg_entry_eq]
  generalize (lg_sl ([.ref (ad 2), .int a1, .int a2, .int a3]) ++ List.replicate (9 - (lg_sl ([.ref (ad 2), .int a1, .int a2, .int a3])).length) Slot.unset).toArray = ls at hl ⊢
  have hl : lv_has ls 9 [(0, .ref (ad 2)), (1, .int a1), (2, .int a2), (3, .int a3)] := hl
  have key : ∀ (H : Heap) (locs : List Loc), va_P D vwCl ((wdC ad cI cJ) σ) H → va_S (AW ad 42 s.heap.size) s.heap H locs → W p l e (headSpec wU_X4_goRead rm_X4_goRead).room s m ([.ref (ad 2), .int a1, .int a2, .int a3] : List Value).toArray below meth c H locs 0 0 (MQ below (va_Qv K (inW D (wdC ad cI cJ) [(cI, .int), (cJ, .long)]) (AW ad 42 s.heap.size)) ([.ref (ad 2), .int a1, .int a2, .int a3] : List Value).toArray s 0 0 (AW ad 42 s.heap.size)) (F0 m 0 ls []) := by
    intro H locs hP hS
    unfold w_X4_goRead at hw
    refine lv_aload_n hx hb dX4_goRead_0 rfl (lv_at hl 0 rfl) ?_
    refine lv_iload_n hx hb dX4_goRead_1 rfl (lv_at hl 1 rfl) ?_
    refine cvI (As := [.int a1]) (rest := []) F hK hP hS (c_X4_placeAsked l D ad cI cJ hap H.size _ _ _ hw) (cwV 1 hts gU_X4_270 rfl rfl rfl (by decide +kernel) ⟨Nat.le_of_ble_eq_true rfl, Nat.le_of_ble_eq_true rfl⟩) (va_recv hK hP (ci := 3) (q0 := 2) rfl rfl) rfl hl.1 rfl (Nat.le_of_ble_eq_true rfl) dX4_goRead_2 ⟨Nat.zero_le _, Nat.zero_le _⟩ (fun r_2 u_1 H locs hw hP hS => ?_)
    refine lv_istore (lv' := [(4, .int r_2), (0, .ref (ad 2)), (1, .int a1), (2, .int a2), (3, .int a3)]) hx hb dX4_goRead_5 hl (by decide) rfl (fun ls hl => ?_)
    refine lv_aload_n hx hb dX4_goRead_7 rfl (lv_at hl 1 rfl) ?_
    refine lv_iload_n hx hb dX4_goRead_8 rfl (lv_at hl 2 rfl) ?_
    refine lv_iload_n hx hb dX4_goRead_9 rfl (lv_at hl 3 rfl) ?_
    refine lv_iload hx hb dX4_goRead_10 (lv_at hl 0 rfl) ?_
    refine cvL (As := [.int a1, .int a2, .int r_2]) (rest := []) F hK hP hS (c_X4_refuseCell l D ad cI cJ hap H.size _ _ _ _ _ hw) (cwV 3 hts gU_X4_273 rfl rfl rfl (by decide +kernel) ⟨Nat.le_of_ble_eq_true rfl, Nat.le_of_ble_eq_true rfl⟩) (va_recv hK hP (ci := 3) (q0 := 2) rfl rfl) rfl hl.1 rfl (Nat.le_of_ble_eq_true rfl) dX4_goRead_12 ⟨Nat.zero_le _, Nat.zero_le _⟩ (fun r_4 u_3 H locs hw hP hS => ?_)
    refine lv_lstore (lv' := [(5, .long r_4), (4, .int r_2), (0, .ref (ad 2)), (1, .int a1), (2, .int a2), (3, .int a3)]) hx hb dX4_goRead_15 hl (by decide) rfl (fun ls hl => ?_)
    refine lv_lload hx hb dX4_goRead_17 (lv_at hl 0 rfl) ?_
    refine lv_lconst (v := 0) hx hb dX4_goRead_19 (by decide) ?_
    refine W.lcmp hx hb dX4_goRead_20 ?_
    refine lv_if_ne (tgt := 30) hx hb dX4_goRead_21 (by decide) (fun c_16 => ?_) (fun c_16 => ?_)
    · have hw := hw.1 c_16
      refine lv_aload_n hx hb dX4_goRead_30 rfl (lv_at hl 2 rfl) ?_
      refine lv_iload_n hx hb dX4_goRead_31 rfl (lv_at hl 4 rfl) ?_
      refine lv_iconst (v := 0) hx hb dX4_goRead_32 (by decide) ?_
      refine lv_iload_n hx hb dX4_goRead_33 rfl (lv_at hl 5 rfl) ?_
      refine lv_lload hx hb dX4_goRead_34 (lv_at hl 0 rfl) ?_
      refine cvV (As := [.int a2, .int 0, .int a3, .long r_4]) (rest := []) F hK hP hS (c_X4_give l D ad cI cJ hap H.size _ _ _ _ _ _ hw) (cwV 4 hts gU_X4_192 rfl rfl rfl (by decide +kernel) ⟨Nat.le_of_ble_eq_true rfl, Nat.le_of_ble_eq_true rfl⟩) (va_recv hK hP (ci := 3) (q0 := 2) rfl rfl) rfl hl.1 rfl (Nat.le_of_ble_eq_true rfl) dX4_goRead_36 ⟨Nat.zero_le _, Nat.zero_le _⟩ (fun u_5 H locs hw hP hS => ?_)
      exact rtV F hr hlocks hK hw hP hS dX4_goRead_39
    · have hw := hw.2 c_16
      refine lv_iload hx hb dX4_goRead_24 (lv_at hl 1 rfl) ?_
      refine lv_iconst (v := (-1)) hx hb dX4_goRead_26 (by decide) ?_
      refine lv_icmp_ne (tgt := 40) hx hb dX4_goRead_27 (by decide) (fun c_15 => ?_) (fun c_15 => ?_)
      · have hw := hw.1 c_15
        refine lv_aload_n hx hb dX4_goRead_40 rfl (lv_at hl 2 rfl) ?_
        refine gC_X4_store F hK hP (hts _ mw_142) dX4_goRead_41 ?_
        refine gC_X6_written F hK hP (hts _ mw_255) dX4_goRead_44 ?_
        refine lv_iload hx hb dX4_goRead_47 (lv_at hl 1 rfl) ?_
        obtain ⟨i_12, hw⟩ := hw
        refine lC_X6_written F hK hP i_12 dX4_goRead_49 ?_
        refine lv_lstore (lv' := [(7, .long (gL u_3 3 (r_2).toNatClampNeg)), (5, .long r_4), (4, .int r_2), (0, .ref (ad 2)), (1, .int a1), (2, .int a2), (3, .int a3)]) hx hb dX4_goRead_50 hl (by decide) rfl (fun ls hl => ?_)
        refine lv_lload hx hb dX4_goRead_52 (lv_at hl 0 rfl) ?_
        refine lv_lconst (v := 0) hx hb dX4_goRead_54 (by decide) ?_
        refine W.lcmp hx hb dX4_goRead_55 ?_
        refine lv_if_ne (tgt := 72) hx hb dX4_goRead_56 (by decide) (fun c_11 => ?_) (fun c_11 => ?_)
        · have hw := hw.1 c_11
          refine lv_aload_n hx hb dX4_goRead_72 rfl (lv_at hl 3 rfl) ?_
          refine lv_iload_n hx hb dX4_goRead_73 rfl (lv_at hl 5 rfl) ?_
          refine lv_iconst (v := 0) hx hb dX4_goRead_74 (by decide) ?_
          refine lv_iload_n hx hb dX4_goRead_75 rfl (lv_at hl 6 rfl) ?_
          refine lv_lload hx hb dX4_goRead_76 (lv_at hl 0 rfl) ?_
          refine cvV (As := [.int a2, .int 0, .int a3, .long (gL u_3 3 (r_2).toNatClampNeg)]) (rest := []) F hK hP hS (c_X4_give l D ad cI cJ hap H.size _ _ _ _ _ _ hw) (cwV 4 hts gU_X4_192 rfl rfl rfl (by decide +kernel) ⟨Nat.le_of_ble_eq_true rfl, Nat.le_of_ble_eq_true rfl⟩) (va_recv hK hP (ci := 3) (q0 := 2) rfl rfl) rfl hl.1 rfl (Nat.le_of_ble_eq_true rfl) dX4_goRead_78 ⟨Nat.zero_le _, Nat.zero_le _⟩ (fun u_7 H locs hw hP hS => ?_)
          exact rtV F hr hlocks hK hw hP hS dX4_goRead_81
        · have hw := hw.2 c_11
          refine lv_aload_n hx hb dX4_goRead_59 rfl (lv_at hl 3 rfl) ?_
          refine gC_X4_store F hK hP (hts _ mw_142) dX4_goRead_60 ?_
          refine lv_iload hx hb dX4_goRead_63 (lv_at hl 2 rfl) ?_
          refine lv_iload_n hx hb dX4_goRead_65 rfl (lv_at hl 4 rfl) ?_
          refine cvV (As := [.int r_2, .int a1]) (rest := []) F hK hP hS (c_X6_addReader l D ad cI cJ hap H.size _ _ _ _ hw) (cwV 2 hts gU_X4_280 rfl rfl rfl (by decide +kernel) ⟨Nat.le_of_ble_eq_true rfl, Nat.le_of_ble_eq_true rfl⟩) (va_recv hK hP (ci := 5) (q0 := 3) rfl rfl) rfl hl.1 rfl (Nat.le_of_ble_eq_true rfl) dX4_goRead_66 ⟨Nat.zero_le _, Nat.zero_le _⟩ (fun u_9 H locs hw hP hS => ?_)
          refine lv_goto (tgt := 81) hx hb dX4_goRead_69 (by decide) ?_
          exact rtV F hr hlocks hK hw hP hS dX4_goRead_81
      · have hw := hw.2 c_15
        refine lv_aload_n hx hb dX4_goRead_30 rfl (lv_at hl 2 rfl) ?_
        refine lv_iload_n hx hb dX4_goRead_31 rfl (lv_at hl 4 rfl) ?_
        refine lv_iconst (v := 0) hx hb dX4_goRead_32 (by decide) ?_
        refine lv_iload_n hx hb dX4_goRead_33 rfl (lv_at hl 5 rfl) ?_
        refine lv_lload hx hb dX4_goRead_34 (lv_at hl 0 rfl) ?_
        refine cvV (As := [.int a2, .int 0, .int a3, .long r_4]) (rest := []) F hK hP hS (c_X4_give l D ad cI cJ hap H.size _ _ _ _ _ _ hw) (cwV 4 hts gU_X4_192 rfl rfl rfl (by decide +kernel) ⟨Nat.le_of_ble_eq_true rfl, Nat.le_of_ble_eq_true rfl⟩) (va_recv hK hP (ci := 3) (q0 := 2) rfl rfl) rfl hl.1 rfl (Nat.le_of_ble_eq_true rfl) dX4_goRead_36 ⟨Nat.zero_le _, Nat.zero_le _⟩ (fun u_13 H locs hw hP hS => ?_)
        exact rtV F hr hlocks hK hw hP hS dX4_goRead_39
  exact key s.heap [] hP hS

abbrev rm_X6_takeReader : Room := { frames := 0, cells := 0, slots := 0, locals := 0 }
set_option maxHeartbeats 4000000 in
set_option maxRecDepth 100000 in
theorem c_X6_takeReader (l : Launch) (D : va_G) (ad : Nat → Nat) (cI cJ : ClassId) (hap : apart ad 42) (sz : Nat) (σ : St) (a1 : Int32) (K : Int32 → St → Prop) (hw : w_X6_takeReader σ a1 K) : Met l yX6_takeReader wU_X6_takeReader rm_X6_takeReader (va_Pc [.ref (ad 3), .int a1] (fun U => U.heap.size = sz ∧ inW D (wdC ad cI cJ) [(cI, .int), (cJ, .long)] σ U)) (va_Qi K (inW D (wdC ad cI cJ) [(cI, .int), (cJ, .long)]) (AW ad 42 sz)) 0 0 (AW ad 42 sz) := by
  refine Met.ofW (cc := cX6_takeReader) (maxL := 3) (ret := (some .int)) (by decide) rfl ?_
  intro p e s m args below meth c s₁ B hml hv
  obtain ⟨rfl, hsz, ⟨hP, hK⟩⟩ := hv
  have F : CallFix p m c cX6_takeReader 3 s ([.ref (ad 3), .int a1] : List Value).toArray lw_U RX6 := ⟨B.exec, B.bytes, hml, findClass_of_methodNamed B.named, fun w h => atoms_spec (ws := wU_X6_takeReader) B.pre w (List.mem_cons_of_mem _ h)⟩
  have hx := F.1
  have hb := F.2.1
  have hown := F.2.2.2.1
  have hts := F.2.2.2.2
  have hr := B.returns
  have hlocks := B.notSynchronized
  subst hsz
  have hDs : ∀ σ, va_D (AW ad 42 s.heap.size) ((wdC ad cI cJ) σ) := fun σ => wdC_D hap σ
  have hS : va_S (AW ad 42 s.heap.size) s.heap s.heap [] := va_S.rf
  have hl := lv_entry ([.ref (ad 3), .int a1]) (n := 3) (Nat.le_of_ble_eq_true rfl)
  rw [lg_entry_eq]
  generalize (lg_sl ([.ref (ad 3), .int a1]) ++ List.replicate (3 - (lg_sl ([.ref (ad 3), .int a1])).length) Slot.unset).toArray = ls at hl ⊢
  have hl : lv_has ls 3 [(0, .ref (ad 3)), (1, .int a1)] := hl
  have key : ∀ (H : Heap) (locs : List Loc), va_P D vwCl ((wdC ad cI cJ) σ) H → va_S (AW ad 42 s.heap.size) s.heap H locs → W p l e (headSpec wU_X6_takeReader rm_X6_takeReader).room s m ([.ref (ad 3), .int a1] : List Value).toArray below meth c H locs 0 0 (MQ below (va_Qi K (inW D (wdC ad cI cJ) [(cI, .int), (cJ, .long)]) (AW ad 42 s.heap.size)) ([.ref (ad 3), .int a1] : List Value).toArray s 0 0 (AW ad 42 s.heap.size)) (F0 m 0 ls []) := by
    intro H locs hP hS
    unfold w_X6_takeReader at hw
    refine lv_aload_n hx hb dX6_takeReader_0 rfl (lv_at hl 0 rfl) ?_
    refine gC_X6_firstReader F hK hP (hts _ mw_219) dX6_takeReader_1 ?_
    refine lv_iload_n hx hb dX6_takeReader_4 rfl (lv_at hl 1 rfl) ?_
    obtain ⟨i_4, hw⟩ := hw
    refine lC_X6_firstReader F hK hP i_4 dX6_takeReader_5 ?_
    refine lv_istore_n (lv' := [(2, .int (gA σ 16 (a1).toNatClampNeg)), (0, .ref (ad 3)), (1, .int a1)]) hx hb dX6_takeReader_6 rfl hl (by decide) rfl (fun ls hl => ?_)
    refine lv_iload_n hx hb dX6_takeReader_7 rfl (lv_at hl 0 rfl) ?_
    refine lv_iconst (v := (-1)) hx hb dX6_takeReader_8 (by decide) ?_
    refine lv_icmp_ne (tgt := 14) hx hb dX6_takeReader_9 (by decide) (fun c_3 => ?_) (fun c_3 => ?_)
    · have hw := hw.1 c_3
      refine lv_aload_n hx hb dX6_takeReader_14 rfl (lv_at hl 1 rfl) ?_
      refine gC_X6_firstReader F hK hP (hts _ mw_219) dX6_takeReader_15 ?_
      refine lv_iload_n hx hb dX6_takeReader_18 rfl (lv_at hl 2 rfl) ?_
      refine lv_aload_n hx hb dX6_takeReader_19 rfl (lv_at hl 1 rfl) ?_
      refine gC_X6_nextReader F hK hP (hts _ mw_246) dX6_takeReader_20 ?_
      refine lv_iload_n hx hb dX6_takeReader_23 rfl (lv_at hl 0 rfl) ?_
      obtain ⟨i_2, hw⟩ := hw
      refine lC_X6_nextReader F hK hP i_2 dX6_takeReader_24 ?_
      obtain ⟨i_1, hw⟩ := hw
      refine sC_X6_firstReader F hK hP hDs hS i_1 dX6_takeReader_25 (fun H locs hP hS => ?_)
      refine lv_aload_n hx hb dX6_takeReader_26 rfl (lv_at hl 1 rfl) ?_
      refine lv_dup hx hb dX6_takeReader_27 rfl ?_
      refine gC_X6_waiting F hK hP (hts _ mw_76) dX6_takeReader_28 ?_
      refine jvi (y := (gS σ 11)) (by simp only [gS_sS, gS_sA, gS_sL, gS_fA, gS_fL, gA_sS, gA_sA, gA_sL, gA_fA, gA_fL, gL_sS, gL_sA, gL_sL, gL_fA, gL_fL, reduceIte, Nat.reduceEqDiff]) ?_
      refine lv_iconst (v := 1) hx hb dX6_takeReader_31 (by decide) ?_
      refine lv_isub hx hb dX6_takeReader_32 ?_
      refine pC_X6_waiting F hK hP hDs hS (hts _ mw_76) dX6_takeReader_33 (fun H locs hP hS => ?_)
      refine lv_iload_n hx hb dX6_takeReader_36 rfl (lv_at hl 0 rfl) ?_
      exact rtI F hr hlocks hK hw hP hS dX6_takeReader_37
    · have hw := hw.2 c_3
      refine lv_iconst (v := (-1)) hx hb dX6_takeReader_12 (by decide) ?_
      exact rtI F hr hlocks hK hw hP hS dX6_takeReader_13
  exact key s.heap [] hP hS

abbrev rm_X4_goWrite : Room := { frames := 3, cells := 0, slots := 0, locals := 79 }
set_option maxHeartbeats 4000000 in
set_option maxRecDepth 100000 in
theorem c_X4_goWrite (l : Launch) (D : va_G) (ad : Nat → Nat) (cI cJ : ClassId) (hap : apart ad 42) (sz : Nat) (σ : St) (a1 : Int32) (a2 : Int32) (a3 : Int32) (K : St → Prop) (hw : w_X4_goWrite σ a1 a2 a3 K) : Met l yX4_goWrite wU_X4_goWrite rm_X4_goWrite (va_Pc [.ref (ad 2), .int a1, .int a2, .int a3] (fun U => U.heap.size = sz ∧ inW D (wdC ad cI cJ) [(cI, .int), (cJ, .long)] σ U)) (va_Qv K (inW D (wdC ad cI cJ) [(cI, .int), (cJ, .long)]) (AW ad 42 sz)) 0 0 (AW ad 42 sz) := by
  refine Met.ofW (cc := cX4_goWrite) (maxL := 11) (ret := none) (by decide) rfl ?_
  intro p e s m args below meth c s₁ B hml hv
  obtain ⟨rfl, hsz, ⟨hP, hK⟩⟩ := hv
  have F : CallFix p m c cX4_goWrite 11 s ([.ref (ad 2), .int a1, .int a2, .int a3] : List Value).toArray lw_U RX4 := ⟨B.exec, B.bytes, hml, findClass_of_methodNamed B.named, fun w h => atoms_spec (ws := wU_X4_goWrite) B.pre w (List.mem_cons_of_mem _ h)⟩
  have hx := F.1
  have hb := F.2.1
  have hown := F.2.2.2.1
  have hts := F.2.2.2.2
  have hr := B.returns
  have hlocks := B.notSynchronized
  subst hsz
  have hDs : ∀ σ, va_D (AW ad 42 s.heap.size) ((wdC ad cI cJ) σ) := fun σ => wdC_D hap σ
  have hS : va_S (AW ad 42 s.heap.size) s.heap s.heap [] := va_S.rf
  have lab_98 : ∀ (n : Nat), ∀ (σ : St) (x2 : Int32) (x3 : Int32) (x4 : Int32) (x7 : Int64) (x9 : Int32) (x10 : Int32) (H : Heap) (locs : List Loc) (ls : Array Slot), w_X4_goWrite_98 K n σ x2 x3 x4 x7 x9 x10 → va_P D vwCl ((wdC ad cI cJ) σ) H → va_S (AW ad 42 s.heap.size) s.heap H locs → lv_has ls 11 [(0, .ref (ad 2)), (2, .int x2), (3, .int x3), (4, .int x4), (7, .long x7), (9, .int x9), (10, .int x10)] → W p l e (headSpec wU_X4_goWrite rm_X4_goWrite).room s m ([.ref (ad 2), .int a1, .int a2, .int a3] : List Value).toArray below meth c H locs 0 0 (MQ below (va_Qv K (inW D (wdC ad cI cJ) [(cI, .int), (cJ, .long)]) (AW ad 42 s.heap.size)) ([.ref (ad 2), .int a1, .int a2, .int a3] : List Value).toArray s 0 0 (AW ad 42 s.heap.size)) (F0 m 98 ls []) := by
    intro n
    induction n with
    | zero =>
      intro σ x2 x3 x4 x7 x9 x10 H locs ls hw
      exact hw.elim
    | succ n hL98 =>
      intro σ x2 x3 x4 x7 x9 x10 H locs ls hw hP hS hl
      have hw : b_X4_goWrite_98 (w_X4_goWrite_98 K n) K σ x2 x3 x4 x7 x9 x10 := hw
      unfold b_X4_goWrite_98 at hw
      generalize w_X4_goWrite_98 K n = L98 at hw hL98
      refine lv_iload hx hb dX4_goWrite_98 (lv_at hl 6 rfl) ?_
      refine lv_sipush (v := 3000) hx hb dX4_goWrite_100 (by decide) ?_
      refine lv_icmp_ge (tgt := 168) hx hb dX4_goWrite_103 (by decide) (fun c_13 => ?_) (fun c_13 => ?_)
      · have hw := hw.1 c_13
        refine lv_aload_n hx hb dX4_goWrite_168 rfl (lv_at hl 0 rfl) ?_
        refine lv_iload_n hx hb dX4_goWrite_169 rfl (lv_at hl 1 rfl) ?_
        refine lv_iconst (v := 0) hx hb dX4_goWrite_170 (by decide) ?_
        refine lv_iload_n hx hb dX4_goWrite_171 rfl (lv_at hl 2 rfl) ?_
        refine lv_lload hx hb dX4_goWrite_172 (lv_at hl 4 rfl) ?_
        refine cvV (As := [.int x2, .int 0, .int x3, .long x7]) (rest := []) F hK hP hS (c_X4_give l D ad cI cJ hap H.size _ _ _ _ _ _ hw) (cwV 4 hts gU_X4_192 rfl rfl rfl (by decide +kernel) ⟨Nat.le_of_ble_eq_true rfl, Nat.le_of_ble_eq_true rfl⟩) (va_recv hK hP (ci := 3) (q0 := 2) rfl rfl) rfl hl.1 rfl (Nat.le_of_ble_eq_true rfl) dX4_goWrite_174 ⟨Nat.zero_le _, Nat.zero_le _⟩ (fun u_1 H locs hw hP hS => ?_)
        exact rtV F hr hlocks hK hw hP hS dX4_goWrite_177
      · have hw := hw.2 c_13
        refine lv_iload hx hb dX4_goWrite_106 (lv_at hl 5 rfl) ?_
        refine lv_iconst (v := (-1)) hx hb dX4_goWrite_108 (by decide) ?_
        refine lv_icmp_eq (tgt := 168) hx hb dX4_goWrite_109 (by decide) (fun c_12 => ?_) (fun c_12 => ?_)
        · have hw := hw.1 c_12
          refine lv_aload_n hx hb dX4_goWrite_168 rfl (lv_at hl 0 rfl) ?_
          refine lv_iload_n hx hb dX4_goWrite_169 rfl (lv_at hl 1 rfl) ?_
          refine lv_iconst (v := 0) hx hb dX4_goWrite_170 (by decide) ?_
          refine lv_iload_n hx hb dX4_goWrite_171 rfl (lv_at hl 2 rfl) ?_
          refine lv_lload hx hb dX4_goWrite_172 (lv_at hl 4 rfl) ?_
          refine cvV (As := [.int x2, .int 0, .int x3, .long x7]) (rest := []) F hK hP hS (c_X4_give l D ad cI cJ hap H.size _ _ _ _ _ _ hw) (cwV 4 hts gU_X4_192 rfl rfl rfl (by decide +kernel) ⟨Nat.le_of_ble_eq_true rfl, Nat.le_of_ble_eq_true rfl⟩) (va_recv hK hP (ci := 3) (q0 := 2) rfl rfl) rfl hl.1 rfl (Nat.le_of_ble_eq_true rfl) dX4_goWrite_174 ⟨Nat.zero_le _, Nat.zero_le _⟩ (fun u_3 H locs hw hP hS => ?_)
          exact rtV F hr hlocks hK hw hP hS dX4_goWrite_177
        · have hw := hw.2 c_12
          refine lv_aload_n hx hb dX4_goWrite_112 rfl (lv_at hl 0 rfl) ?_
          refine lv_aload_n hx hb dX4_goWrite_113 rfl (lv_at hl 0 rfl) ?_
          refine gC_X4_floor F hK hP (hts _ mw_86) dX4_goWrite_114 ?_
          refine gC_X1_actOf F hK hP (hts _ mw_260) dX4_goWrite_117 ?_
          refine lv_iload hx hb dX4_goWrite_120 (lv_at hl 5 rfl) ?_
          obtain ⟨i_11, hw⟩ := hw
          refine lC_X1_actOf F hK hP i_11 dX4_goWrite_122 ?_
          refine lv_iconst (v := 0) hx hb dX4_goWrite_123 (by decide) ?_
          refine lv_aload_n hx hb dX4_goWrite_124 rfl (lv_at hl 0 rfl) ?_
          refine gC_X4_floor F hK hP (hts _ mw_86) dX4_goWrite_125 ?_
          refine gC_X1_colourOf F hK hP (hts _ mw_261) dX4_goWrite_128 ?_
          refine lv_iload hx hb dX4_goWrite_131 (lv_at hl 5 rfl) ?_
          obtain ⟨i_10, hw⟩ := hw
          refine lC_X1_colourOf F hK hP i_10 dX4_goWrite_133 ?_
          refine lv_lload hx hb dX4_goWrite_134 (lv_at hl 4 rfl) ?_
          refine cvV (As := [.int (gA σ 24 (x9).toNatClampNeg), .int 0, .int (gA σ 25 (x9).toNatClampNeg), .long x7]) (rest := []) F hK hP hS (c_X4_give l D ad cI cJ hap H.size _ _ _ _ _ _ hw) (cwV 4 hts gU_X4_192 rfl rfl rfl (by decide +kernel) ⟨Nat.le_of_ble_eq_true rfl, Nat.le_of_ble_eq_true rfl⟩) (va_recv hK hP (ci := 3) (q0 := 2) rfl rfl) rfl hl.1 rfl (Nat.le_of_ble_eq_true rfl) dX4_goWrite_136 ⟨Nat.zero_le _, Nat.zero_le _⟩ (fun u_5 H locs hw hP hS => ?_)
          refine lv_aload_n hx hb dX4_goWrite_139 rfl (lv_at hl 0 rfl) ?_
          refine gC_X4_how F hK hP (hts _ mw_83) dX4_goWrite_140 ?_
          refine lv_iconst (v := (-1)) hx hb dX4_goWrite_143 (by decide) ?_
          refine lv_icmp_ne (tgt := 159) hx hb dX4_goWrite_144 (by decide) (fun c_9 => ?_) (fun c_9 => ?_)
          · have hw := hw.1 c_9
            refine lv_iconst (v := (-1)) hx hb dX4_goWrite_159 (by decide) ?_
            refine lv_istore (lv' := [(9, .int (-1)), (0, .ref (ad 2)), (2, .int x2), (3, .int x3), (4, .int x4), (7, .long x7), (10, .int x10)]) hx hb dX4_goWrite_160 hl (by decide) rfl (fun ls hl => ?_)
            refine lv_iinc (v := (x10 + 1)) (lv' := [(10, .int (x10 + 1)), (9, .int (-1)), (0, .ref (ad 2)), (2, .int x2), (3, .int x3), (4, .int x4), (7, .long x7)]) hx hb dX4_goWrite_162 hl (k := 6) rfl rfl (by decide) rfl (fun ls hl => ?_)
            refine lv_goto (tgt := 98) hx hb dX4_goWrite_165 (by decide) ?_
            exact hL98 _ _ _ _ _ _ _ _ _ _ hw hP hS (lv_sub hl [2, 3, 4, 5, 6, 1, 0] rfl)
          · have hw := hw.2 c_9
            refine lv_aload_n hx hb dX4_goWrite_147 rfl (lv_at hl 0 rfl) ?_
            refine gC_X4_store F hK hP (hts _ mw_142) dX4_goWrite_148 ?_
            refine lv_iload hx hb dX4_goWrite_151 (lv_at hl 3 rfl) ?_
            refine cvI (As := [.int x4]) (rest := []) F hK hP hS (c_X6_takeReader l D ad cI cJ hap H.size _ _ _ hw) (cwV 1 hts gU_X4_287 rfl rfl rfl (by decide +kernel) ⟨Nat.le_of_ble_eq_true rfl, Nat.le_of_ble_eq_true rfl⟩) (va_recv hK hP (ci := 5) (q0 := 3) rfl rfl) rfl hl.1 rfl (Nat.le_of_ble_eq_true rfl) dX4_goWrite_153 ⟨Nat.zero_le _, Nat.zero_le _⟩ (fun r_8 u_7 H locs hw hP hS => ?_)
            refine lv_goto (tgt := 160) hx hb dX4_goWrite_156 (by decide) ?_
            refine lv_istore (lv' := [(9, .int r_8), (0, .ref (ad 2)), (2, .int x2), (3, .int x3), (4, .int x4), (7, .long x7), (10, .int x10)]) hx hb dX4_goWrite_160 hl (by decide) rfl (fun ls hl => ?_)
            refine lv_iinc (v := (x10 + 1)) (lv' := [(10, .int (x10 + 1)), (9, .int r_8), (0, .ref (ad 2)), (2, .int x2), (3, .int x3), (4, .int x4), (7, .long x7)]) hx hb dX4_goWrite_162 hl (k := 6) rfl rfl (by decide) rfl (fun ls hl => ?_)
            refine lv_goto (tgt := 98) hx hb dX4_goWrite_165 (by decide) ?_
            exact hL98 _ _ _ _ _ _ _ _ _ _ hw hP hS (lv_sub hl [2, 3, 4, 5, 6, 1, 0] rfl)
  have hl := lv_entry ([.ref (ad 2), .int a1, .int a2, .int a3]) (n := 11) (Nat.le_of_ble_eq_true rfl)
  rw [lg_entry_eq]
  generalize (lg_sl ([.ref (ad 2), .int a1, .int a2, .int a3]) ++ List.replicate (11 - (lg_sl ([.ref (ad 2), .int a1, .int a2, .int a3])).length) Slot.unset).toArray = ls at hl ⊢
  have hl : lv_has ls 11 [(0, .ref (ad 2)), (1, .int a1), (2, .int a2), (3, .int a3)] := hl
  have key : ∀ (H : Heap) (locs : List Loc), va_P D vwCl ((wdC ad cI cJ) σ) H → va_S (AW ad 42 s.heap.size) s.heap H locs → W p l e (headSpec wU_X4_goWrite rm_X4_goWrite).room s m ([.ref (ad 2), .int a1, .int a2, .int a3] : List Value).toArray below meth c H locs 0 0 (MQ below (va_Qv K (inW D (wdC ad cI cJ) [(cI, .int), (cJ, .long)]) (AW ad 42 s.heap.size)) ([.ref (ad 2), .int a1, .int a2, .int a3] : List Value).toArray s 0 0 (AW ad 42 s.heap.size)) (F0 m 0 ls []) := by
    intro H locs hP hS
    unfold w_X4_goWrite at hw
    refine lv_aload_n hx hb dX4_goWrite_0 rfl (lv_at hl 0 rfl) ?_
    refine lv_iload_n hx hb dX4_goWrite_1 rfl (lv_at hl 1 rfl) ?_
    refine cvI (As := [.int a1]) (rest := []) F hK hP hS (c_X4_placeAsked l D ad cI cJ hap H.size _ _ _ hw) (cwV 1 hts gU_X4_270 rfl rfl rfl (by decide +kernel) ⟨Nat.le_of_ble_eq_true rfl, Nat.le_of_ble_eq_true rfl⟩) (va_recv hK hP (ci := 3) (q0 := 2) rfl rfl) rfl hl.1 rfl (Nat.le_of_ble_eq_true rfl) dX4_goWrite_2 ⟨Nat.zero_le _, Nat.zero_le _⟩ (fun r_15 u_14 H locs hw hP hS => ?_)
    refine lv_istore (lv' := [(4, .int r_15), (0, .ref (ad 2)), (1, .int a1), (2, .int a2), (3, .int a3)]) hx hb dX4_goWrite_5 hl (by decide) rfl (fun ls hl => ?_)
    refine lv_aload_n hx hb dX4_goWrite_7 rfl (lv_at hl 1 rfl) ?_
    refine lv_iload_n hx hb dX4_goWrite_8 rfl (lv_at hl 2 rfl) ?_
    refine lv_iload_n hx hb dX4_goWrite_9 rfl (lv_at hl 3 rfl) ?_
    refine lv_iload hx hb dX4_goWrite_10 (lv_at hl 0 rfl) ?_
    refine cvL (As := [.int a1, .int a2, .int r_15]) (rest := []) F hK hP hS (c_X4_refuseCell l D ad cI cJ hap H.size _ _ _ _ _ hw) (cwV 3 hts gU_X4_273 rfl rfl rfl (by decide +kernel) ⟨Nat.le_of_ble_eq_true rfl, Nat.le_of_ble_eq_true rfl⟩) (va_recv hK hP (ci := 3) (q0 := 2) rfl rfl) rfl hl.1 rfl (Nat.le_of_ble_eq_true rfl) dX4_goWrite_12 ⟨Nat.zero_le _, Nat.zero_le _⟩ (fun r_17 u_16 H locs hw hP hS => ?_)
    refine lv_lstore (lv' := [(5, .long r_17), (4, .int r_15), (0, .ref (ad 2)), (1, .int a1), (2, .int a2), (3, .int a3)]) hx hb dX4_goWrite_15 hl (by decide) rfl (fun ls hl => ?_)
    refine lv_lload hx hb dX4_goWrite_17 (lv_at hl 0 rfl) ?_
    refine lv_lconst (v := 0) hx hb dX4_goWrite_19 (by decide) ?_
    refine W.lcmp hx hb dX4_goWrite_20 ?_
    refine lv_if_ne (tgt := 30) hx hb dX4_goWrite_21 (by decide) (fun c_33 => ?_) (fun c_33 => ?_)
    · have hw := hw.1 c_33
      refine lv_aload_n hx hb dX4_goWrite_30 rfl (lv_at hl 2 rfl) ?_
      refine lv_iload_n hx hb dX4_goWrite_31 rfl (lv_at hl 4 rfl) ?_
      refine lv_iconst (v := 0) hx hb dX4_goWrite_32 (by decide) ?_
      refine lv_iload_n hx hb dX4_goWrite_33 rfl (lv_at hl 5 rfl) ?_
      refine lv_lload hx hb dX4_goWrite_34 (lv_at hl 0 rfl) ?_
      refine cvV (As := [.int a2, .int 0, .int a3, .long r_17]) (rest := []) F hK hP hS (c_X4_give l D ad cI cJ hap H.size _ _ _ _ _ _ hw) (cwV 4 hts gU_X4_192 rfl rfl rfl (by decide +kernel) ⟨Nat.le_of_ble_eq_true rfl, Nat.le_of_ble_eq_true rfl⟩) (va_recv hK hP (ci := 3) (q0 := 2) rfl rfl) rfl hl.1 rfl (Nat.le_of_ble_eq_true rfl) dX4_goWrite_36 ⟨Nat.zero_le _, Nat.zero_le _⟩ (fun u_18 H locs hw hP hS => ?_)
      exact rtV F hr hlocks hK hw hP hS dX4_goWrite_39
    · have hw := hw.2 c_33
      refine lv_iload hx hb dX4_goWrite_24 (lv_at hl 1 rfl) ?_
      refine lv_iconst (v := (-1)) hx hb dX4_goWrite_26 (by decide) ?_
      refine lv_icmp_ne (tgt := 40) hx hb dX4_goWrite_27 (by decide) (fun c_32 => ?_) (fun c_32 => ?_)
      · have hw := hw.1 c_32
        refine lv_aload_n hx hb dX4_goWrite_40 rfl (lv_at hl 2 rfl) ?_
        refine gC_X4_store F hK hP (hts _ mw_142) dX4_goWrite_41 ?_
        refine gC_X6_written F hK hP (hts _ mw_255) dX4_goWrite_44 ?_
        refine lv_iload hx hb dX4_goWrite_47 (lv_at hl 1 rfl) ?_
        obtain ⟨i_29, hw⟩ := hw
        refine lC_X6_written F hK hP i_29 dX4_goWrite_49 ?_
        refine lv_lconst (v := 0) hx hb dX4_goWrite_50 (by decide) ?_
        refine W.lcmp hx hb dX4_goWrite_51 ?_
        refine lv_if_eq (tgt := 61) hx hb dX4_goWrite_52 (by decide) (fun c_28 => ?_) (fun c_28 => ?_)
        · have hw := hw.1 c_28
          refine lv_aload_n hx hb dX4_goWrite_61 rfl (lv_at hl 2 rfl) ?_
          refine gC_X4_floor F hK hP (hts _ mw_86) dX4_goWrite_62 ?_
          refine lv_iload_n hx hb dX4_goWrite_65 rfl (lv_at hl 3 rfl) ?_
          refine lv_iconst (v := 2) hx hb dX4_goWrite_66 (by decide) ?_
          refine cvL (As := [.int a1, .int 2]) (rest := []) F hK hP hS (c_X1_cameTo l D ad cI cJ hap H.size _ _ _ _ hw) (cwV 2 hts gU_X4_175 rfl rfl rfl (by decide +kernel) ⟨Nat.le_of_ble_eq_true rfl, Nat.le_of_ble_eq_true rfl⟩) (va_recv hK hP (ci := 1) (q0 := 5) rfl rfl) rfl hl.1 rfl (Nat.le_of_ble_eq_true rfl) dX4_goWrite_67 ⟨Nat.zero_le _, Nat.zero_le _⟩ (fun r_21 u_20 H locs hw hP hS => ?_)
          refine lv_lstore (lv' := [(7, .long r_21), (5, .long r_17), (4, .int r_15), (0, .ref (ad 2)), (1, .int a1), (2, .int a2), (3, .int a3)]) hx hb dX4_goWrite_70 hl (by decide) rfl (fun ls hl => ?_)
          refine lv_aload_n hx hb dX4_goWrite_72 rfl (lv_at hl 3 rfl) ?_
          refine gC_X4_store F hK hP (hts _ mw_142) dX4_goWrite_73 ?_
          refine gC_X6_written F hK hP (hts _ mw_255) dX4_goWrite_76 ?_
          refine lv_iload hx hb dX4_goWrite_79 (lv_at hl 2 rfl) ?_
          refine lv_lload hx hb dX4_goWrite_81 (lv_at hl 0 rfl) ?_
          obtain ⟨i_25, hw⟩ := hw
          refine sC_X6_written F hK hP hDs hS i_25 dX4_goWrite_83 (fun H locs hP hS => ?_)
          refine lv_aload_n hx hb dX4_goWrite_84 rfl (lv_at hl 3 rfl) ?_
          refine gC_X4_store F hK hP (hts _ mw_142) dX4_goWrite_85 ?_
          refine lv_iload hx hb dX4_goWrite_88 (lv_at hl 2 rfl) ?_
          refine cvI (As := [.int r_15]) (rest := []) F hK hP hS (c_X6_takeReader l D ad cI cJ hap H.size _ _ _ hw) (cwV 1 hts gU_X4_287 rfl rfl rfl (by decide +kernel) ⟨Nat.le_of_ble_eq_true rfl, Nat.le_of_ble_eq_true rfl⟩) (va_recv hK hP (ci := 5) (q0 := 3) rfl rfl) rfl hl.1 rfl (Nat.le_of_ble_eq_true rfl) dX4_goWrite_90 ⟨Nat.zero_le _, Nat.zero_le _⟩ (fun r_23 u_22 H locs hw hP hS => ?_)
          refine lv_istore (lv' := [(9, .int r_23), (7, .long r_21), (5, .long r_17), (4, .int r_15), (0, .ref (ad 2)), (1, .int a1), (2, .int a2), (3, .int a3)]) hx hb dX4_goWrite_93 hl (by decide) rfl (fun ls hl => ?_)
          refine lv_iconst (v := 0) hx hb dX4_goWrite_95 (by decide) ?_
          refine lv_istore (lv' := [(10, .int 0), (9, .int r_23), (7, .long r_21), (5, .long r_17), (4, .int r_15), (0, .ref (ad 2)), (1, .int a1), (2, .int a2), (3, .int a3)]) hx hb dX4_goWrite_96 hl (by decide) rfl (fun ls hl => ?_)
          obtain ⟨n_24, hw⟩ := hw
          exact lab_98 n_24 _ _ _ _ _ _ _ _ _ _ hw hP hS (lv_sub hl [5, 7, 8, 4, 2, 1, 0] rfl)
        · have hw := hw.2 c_28
          refine lv_aload_n hx hb dX4_goWrite_55 rfl (lv_at hl 2 rfl) ?_
          refine lv_iload_n hx hb dX4_goWrite_56 rfl (lv_at hl 4 rfl) ?_
          refine cvV (As := [.int a2]) (rest := []) F hK hP hS (c_X4_clashAt l D ad cI cJ hap H.size _ _ _ hw) (cwV 1 hts gU_X4_284 rfl rfl rfl (by decide +kernel) ⟨Nat.le_of_ble_eq_true rfl, Nat.le_of_ble_eq_true rfl⟩) (va_recv hK hP (ci := 3) (q0 := 2) rfl rfl) rfl hl.1 rfl (Nat.le_of_ble_eq_true rfl) dX4_goWrite_57 ⟨Nat.zero_le _, Nat.zero_le _⟩ (fun u_26 H locs hw hP hS => ?_)
          exact rtV F hr hlocks hK hw hP hS dX4_goWrite_60
      · have hw := hw.2 c_32
        refine lv_aload_n hx hb dX4_goWrite_30 rfl (lv_at hl 2 rfl) ?_
        refine lv_iload_n hx hb dX4_goWrite_31 rfl (lv_at hl 4 rfl) ?_
        refine lv_iconst (v := 0) hx hb dX4_goWrite_32 (by decide) ?_
        refine lv_iload_n hx hb dX4_goWrite_33 rfl (lv_at hl 5 rfl) ?_
        refine lv_lload hx hb dX4_goWrite_34 (lv_at hl 0 rfl) ?_
        refine cvV (As := [.int a2, .int 0, .int a3, .long r_17]) (rest := []) F hK hP hS (c_X4_give l D ad cI cJ hap H.size _ _ _ _ _ _ hw) (cwV 4 hts gU_X4_192 rfl rfl rfl (by decide +kernel) ⟨Nat.le_of_ble_eq_true rfl, Nat.le_of_ble_eq_true rfl⟩) (va_recv hK hP (ci := 3) (q0 := 2) rfl rfl) rfl hl.1 rfl (Nat.le_of_ble_eq_true rfl) dX4_goWrite_36 ⟨Nat.zero_le _, Nat.zero_le _⟩ (fun u_30 H locs hw hP hS => ?_)
        exact rtV F hr hlocks hK hw hP hS dX4_goWrite_39
  exact key s.heap [] hP hS

abbrev rm_X4_goEnd : Room := { frames := 1, cells := 0, slots := 0, locals := 21 }
set_option maxHeartbeats 4000000 in
set_option maxRecDepth 100000 in
theorem c_X4_goEnd (l : Launch) (D : va_G) (ad : Nat → Nat) (cI cJ : ClassId) (hap : apart ad 42) (sz : Nat) (σ : St) (a1 : Int32) (a2 : Int32) (a3 : Int64) (K : St → Prop) (hw : w_X4_goEnd σ a1 a2 a3 K) : Met l yX4_goEnd wU_X4_goEnd rm_X4_goEnd (va_Pc [.ref (ad 2), .int a1, .int a2, .long a3] (fun U => U.heap.size = sz ∧ inW D (wdC ad cI cJ) [(cI, .int), (cJ, .long)] σ U)) (va_Qv K (inW D (wdC ad cI cJ) [(cI, .int), (cJ, .long)]) (AW ad 42 sz)) 0 0 (AW ad 42 sz) := by
  refine Met.ofW (cc := cX4_goEnd) (maxL := 6) (ret := none) (by decide) rfl ?_
  intro p e s m args below meth c s₁ B hml hv
  obtain ⟨rfl, hsz, ⟨hP, hK⟩⟩ := hv
  have F : CallFix p m c cX4_goEnd 6 s ([.ref (ad 2), .int a1, .int a2, .long a3] : List Value).toArray lw_U RX4 := ⟨B.exec, B.bytes, hml, findClass_of_methodNamed B.named, fun w h => atoms_spec (ws := wU_X4_goEnd) B.pre w (List.mem_cons_of_mem _ h)⟩
  have hx := F.1
  have hb := F.2.1
  have hown := F.2.2.2.1
  have hts := F.2.2.2.2
  have hr := B.returns
  have hlocks := B.notSynchronized
  subst hsz
  have hDs : ∀ σ, va_D (AW ad 42 s.heap.size) ((wdC ad cI cJ) σ) := fun σ => wdC_D hap σ
  have hS : va_S (AW ad 42 s.heap.size) s.heap s.heap [] := va_S.rf
  have hl := lv_entry ([.ref (ad 2), .int a1, .int a2, .long a3]) (n := 6) (Nat.le_of_ble_eq_true rfl)
  rw [lg_entry_eq]
  generalize (lg_sl ([.ref (ad 2), .int a1, .int a2, .long a3]) ++ List.replicate (6 - (lg_sl ([.ref (ad 2), .int a1, .int a2, .long a3])).length) Slot.unset).toArray = ls at hl ⊢
  have hl : lv_has ls 6 [(0, .ref (ad 2)), (1, .int a1), (2, .int a2), (3, .long a3)] := hl
  have key : ∀ (H : Heap) (locs : List Loc), va_P D vwCl ((wdC ad cI cJ) σ) H → va_S (AW ad 42 s.heap.size) s.heap H locs → W p l e (headSpec wU_X4_goEnd rm_X4_goEnd).room s m ([.ref (ad 2), .int a1, .int a2, .long a3] : List Value).toArray below meth c H locs 0 0 (MQ below (va_Qv K (inW D (wdC ad cI cJ) [(cI, .int), (cJ, .long)]) (AW ad 42 s.heap.size)) ([.ref (ad 2), .int a1, .int a2, .long a3] : List Value).toArray s 0 0 (AW ad 42 s.heap.size)) (F0 m 0 ls []) := by
    intro H locs hP hS
    unfold w_X4_goEnd at hw
    refine lv_aload_n hx hb dX4_goEnd_0 rfl (lv_at hl 0 rfl) ?_
    refine gC_X4_graph F hK hP (hts _ mw_92) dX4_goEnd_1 ?_
    refine gC_X2_number F hK hP (hts _ mw_183) dX4_goEnd_4 ?_
    refine lv_iload_n hx hb dX4_goEnd_7 rfl (lv_at hl 1 rfl) ?_
    obtain ⟨i_7, hw⟩ := hw
    refine lC_X2_number F hK hP i_7 dX4_goEnd_8 ?_
    refine lv_istore (lv' := [(5, .int (gA σ 1 (a1).toNatClampNeg)), (0, .ref (ad 2)), (1, .int a1), (2, .int a2), (3, .long a3)]) hx hb dX4_goEnd_9 hl (by decide) rfl (fun ls hl => ?_)
    refine lv_iload_n hx hb dX4_goEnd_11 rfl (lv_at hl 3 rfl) ?_
    refine lv_if_eq (tgt := 28) hx hb dX4_goEnd_12 (by decide) (fun c_6 => ?_) (fun c_6 => ?_)
    · have hw := hw.1 c_6
      refine lv_aload_n hx hb dX4_goEnd_28 rfl (lv_at hl 1 rfl) ?_
      refine gC_X4_ends F hK hP (hts _ mw_149) dX4_goEnd_29 ?_
      refine lv_iload hx hb dX4_goEnd_32 (lv_at hl 0 rfl) ?_
      obtain ⟨i_5, hw⟩ := hw
      refine lC_X4_ends F hK hP i_5 dX4_goEnd_34 ?_
      refine lv_lconst (v := 0) hx hb dX4_goEnd_35 (by decide) ?_
      refine W.lcmp hx hb dX4_goEnd_36 ?_
      refine lv_if_eq (tgt := 48) hx hb dX4_goEnd_37 (by decide) (fun c_4 => ?_) (fun c_4 => ?_)
      · have hw := hw.1 c_4
        refine lv_aload_n hx hb dX4_goEnd_48 rfl (lv_at hl 1 rfl) ?_
        refine gC_X4_ends F hK hP (hts _ mw_149) dX4_goEnd_49 ?_
        refine lv_iload hx hb dX4_goEnd_52 (lv_at hl 0 rfl) ?_
        refine lv_lload_n hx hb dX4_goEnd_54 rfl (lv_at hl 4 rfl) ?_
        obtain ⟨i_1, hw⟩ := hw
        refine sC_X4_ends F hK hP hDs hS i_1 dX4_goEnd_55 (fun H locs hP hS => ?_)
        exact rtV F hr hlocks hK hw hP hS dX4_goEnd_56
      · have hw := hw.2 c_4
        refine lv_aload_n hx hb dX4_goEnd_40 rfl (lv_at hl 1 rfl) ?_
        refine lv_iload_n hx hb dX4_goEnd_41 rfl (lv_at hl 2 rfl) ?_
        refine cvV (As := [.int a1]) (rest := []) F hK hP hS (c_X4_clashAt l D ad cI cJ hap H.size _ _ _ hw) (cwV 1 hts gU_X4_284 rfl rfl rfl (by decide +kernel) ⟨Nat.le_of_ble_eq_true rfl, Nat.le_of_ble_eq_true rfl⟩) (va_recv hK hP (ci := 3) (q0 := 2) rfl rfl) rfl hl.1 rfl (Nat.le_of_ble_eq_true rfl) dX4_goEnd_42 ⟨Nat.zero_le _, Nat.zero_le _⟩ (fun u_2 H locs hw hP hS => ?_)
        refine lv_goto (tgt := 56) hx hb dX4_goEnd_45 (by decide) ?_
        exact rtV F hr hlocks hK hw hP hS dX4_goEnd_56
    · have hw := hw.2 c_6
      refine lv_aload_n hx hb dX4_goEnd_15 rfl (lv_at hl 1 rfl) ?_
      refine lv_dup hx hb dX4_goEnd_16 rfl ?_
      refine gC_X4_strays F hK hP (hts _ mw_154) dX4_goEnd_17 ?_
      refine lv_iconst (v := 1) hx hb dX4_goEnd_20 (by decide) ?_
      refine lv_iadd hx hb dX4_goEnd_21 ?_
      refine pC_X4_strays F hK hP hDs hS (hts _ mw_154) dX4_goEnd_22 (fun H locs hP hS => ?_)
      refine lv_goto (tgt := 56) hx hb dX4_goEnd_25 (by decide) ?_
      exact rtV F hr hlocks hK hw hP hS dX4_goEnd_56
  exact key s.heap [] hP hS

abbrev rm_X8_ofTruth : Room := { frames := 1, cells := 0, slots := 0, locals := 20 }
set_option maxHeartbeats 4000000 in
set_option maxRecDepth 100000 in
theorem c_X8_ofTruth (l : Launch) (D : va_G) (ad : Nat → Nat) (cI cJ : ClassId) (hap : apart ad 42) (sz : Nat) (σ : St) (a1 : Int32) (K : Int64 → St → Prop) (hw : w_X8_ofTruth σ a1 K) : Met l yX8_ofTruth wU_X8_ofTruth rm_X8_ofTruth (va_Pc [.int a1] (fun U => U.heap.size = sz ∧ inW D (wdC ad cI cJ) [(cI, .int), (cJ, .long)] σ U)) (va_Ql K (inW D (wdC ad cI cJ) [(cI, .int), (cJ, .long)]) (AW ad 42 sz)) 0 0 (AW ad 42 sz) := by
  refine Met.ofW (cc := cX8_ofTruth) (maxL := 1) (ret := (some .long)) (by decide) rfl ?_
  intro p e s m args below meth c s₁ B hml hv
  obtain ⟨rfl, hsz, ⟨hP, hK⟩⟩ := hv
  have F : CallFix p m c cX8_ofTruth 1 s ([.int a1] : List Value).toArray lw_U RX8 := ⟨B.exec, B.bytes, hml, findClass_of_methodNamed B.named, fun w h => atoms_spec (ws := wU_X8_ofTruth) B.pre w (List.mem_cons_of_mem _ h)⟩
  have hx := F.1
  have hb := F.2.1
  have hown := F.2.2.2.1
  have hts := F.2.2.2.2
  have hr := B.returns
  have hlocks := B.notSynchronized
  subst hsz
  have hDs : ∀ σ, va_D (AW ad 42 s.heap.size) ((wdC ad cI cJ) σ) := fun σ => wdC_D hap σ
  have hS : va_S (AW ad 42 s.heap.size) s.heap s.heap [] := va_S.rf
  have hl := lv_entry ([.int a1]) (n := 1) (Nat.le_of_ble_eq_true rfl)
  rw [lg_entry_eq]
  generalize (lg_sl ([.int a1]) ++ List.replicate (1 - (lg_sl ([.int a1])).length) Slot.unset).toArray = ls at hl ⊢
  have hl : lv_has ls 1 [(0, .int a1)] := hl
  have key : ∀ (H : Heap) (locs : List Loc), va_P D vwCl ((wdC ad cI cJ) σ) H → va_S (AW ad 42 s.heap.size) s.heap H locs → W p l e (headSpec wU_X8_ofTruth rm_X8_ofTruth).room s m ([.int a1] : List Value).toArray below meth c H locs 0 0 (MQ below (va_Ql K (inW D (wdC ad cI cJ) [(cI, .int), (cJ, .long)]) (AW ad 42 s.heap.size)) ([.int a1] : List Value).toArray s 0 0 (AW ad 42 s.heap.size)) (F0 m 0 ls []) := by
    intro H locs hP hS
    unfold w_X8_ofTruth at hw
    refine lv_iload_n hx hb dX8_ofTruth_0 rfl (lv_at hl 0 rfl) ?_
    refine lv_if_eq (tgt := 8) hx hb dX8_ofTruth_1 (by decide) (fun c_5 => ?_) (fun c_5 => ?_)
    · have hw := hw.1 c_5
      refine lv_iconst (v := 0) hx hb dX8_ofTruth_8 (by decide) ?_
      refine csL (As := [.int 0]) (rest := []) F hK hP hS (c_X8_ofNumber l D ad cI cJ hap H.size _ _ _ hw) (va_cwS 1 hts gU_X8_13 rfl rfl rfl (by decide +kernel) ⟨Nat.le_of_ble_eq_true rfl, Nat.le_of_ble_eq_true rfl⟩) rfl hl.1 rfl (Nat.le_of_ble_eq_true rfl) dX8_ofTruth_9 ⟨Nat.zero_le _, Nat.zero_le _⟩ (fun r_2 u_1 H locs hw hP hS => ?_)
      exact rtL F hr hlocks hK hw hP hS dX8_ofTruth_12
    · have hw := hw.2 c_5
      refine lv_iconst (v := 1) hx hb dX8_ofTruth_4 (by decide) ?_
      refine lv_goto (tgt := 9) hx hb dX8_ofTruth_5 (by decide) ?_
      refine csL (As := [.int 1]) (rest := []) F hK hP hS (c_X8_ofNumber l D ad cI cJ hap H.size _ _ _ hw) (va_cwS 1 hts gU_X8_13 rfl rfl rfl (by decide +kernel) ⟨Nat.le_of_ble_eq_true rfl, Nat.le_of_ble_eq_true rfl⟩) rfl hl.1 rfl (Nat.le_of_ble_eq_true rfl) dX8_ofTruth_9 ⟨Nat.zero_le _, Nat.zero_le _⟩ (fun r_4 u_3 H locs hw hP hS => ?_)
      exact rtL F hr hlocks hK hw hP hS dX8_ofTruth_12
  exact key s.heap [] hP hS

abbrev rm_X7_not : Room := { frames := 2, cells := 0, slots := 0, locals := 45 }
set_option maxHeartbeats 4000000 in
set_option maxRecDepth 100000 in
theorem c_X7_not (l : Launch) (D : va_G) (ad : Nat → Nat) (cI cJ : ClassId) (hap : apart ad 42) (sz : Nat) (σ : St) (a1 : Int32) (a2 : Int64) (K : Int64 → St → Prop) (hw : w_X7_not σ a1 a2 K) : Met l yX7_not wU_X7_not rm_X7_not (va_Pc [.int a1, .long a2] (fun U => U.heap.size = sz ∧ inW D (wdC ad cI cJ) [(cI, .int), (cJ, .long)] σ U)) (va_Ql K (inW D (wdC ad cI cJ) [(cI, .int), (cJ, .long)]) (AW ad 42 sz)) 0 0 (AW ad 42 sz) := by
  refine Met.ofW (cc := cX7_not) (maxL := 5) (ret := (some .long)) (by decide) rfl ?_
  intro p e s m args below meth c s₁ B hml hv
  obtain ⟨rfl, hsz, ⟨hP, hK⟩⟩ := hv
  have F : CallFix p m c cX7_not 5 s ([.int a1, .long a2] : List Value).toArray lw_U RX7 := ⟨B.exec, B.bytes, hml, findClass_of_methodNamed B.named, fun w h => atoms_spec (ws := wU_X7_not) B.pre w (List.mem_cons_of_mem _ h)⟩
  have hx := F.1
  have hb := F.2.1
  have hown := F.2.2.2.1
  have hts := F.2.2.2.2
  have hr := B.returns
  have hlocks := B.notSynchronized
  subst hsz
  have hDs : ∀ σ, va_D (AW ad 42 s.heap.size) ((wdC ad cI cJ) σ) := fun σ => wdC_D hap σ
  have hS : va_S (AW ad 42 s.heap.size) s.heap s.heap [] := va_S.rf
  have hl := lv_entry ([.int a1, .long a2]) (n := 5) (Nat.le_of_ble_eq_true rfl)
  rw [lg_entry_eq]
  generalize (lg_sl ([.int a1, .long a2]) ++ List.replicate (5 - (lg_sl ([.int a1, .long a2])).length) Slot.unset).toArray = ls at hl ⊢
  have hl : lv_has ls 5 [(0, .int a1), (1, .long a2)] := hl
  have key : ∀ (H : Heap) (locs : List Loc), va_P D vwCl ((wdC ad cI cJ) σ) H → va_S (AW ad 42 s.heap.size) s.heap H locs → W p l e (headSpec wU_X7_not rm_X7_not).room s m ([.int a1, .long a2] : List Value).toArray below meth c H locs 0 0 (MQ below (va_Ql K (inW D (wdC ad cI cJ) [(cI, .int), (cJ, .long)]) (AW ad 42 s.heap.size)) ([.int a1, .long a2] : List Value).toArray s 0 0 (AW ad 42 s.heap.size)) (F0 m 0 ls []) := by
    intro H locs hP hS
    unfold w_X7_not at hw
    refine lv_iload_n hx hb dX7_not_0 rfl (lv_at hl 0 rfl) ?_
    refine lv_lload_n hx hb dX7_not_1 rfl (lv_at hl 1 rfl) ?_
    refine lv_iconst (v := 1) hx hb dX7_not_2 (by decide) ?_
    refine csL (As := [.int a1, .long a2, .int 1]) (rest := []) F hK hP hS (c_X8_refuse l D ad cI cJ hap H.size _ _ _ _ _ hw) (va_cwS 3 hts gU_X7_34 rfl rfl rfl (by decide +kernel) ⟨Nat.le_of_ble_eq_true rfl, Nat.le_of_ble_eq_true rfl⟩) rfl hl.1 rfl (Nat.le_of_ble_eq_true rfl) dX7_not_3 ⟨Nat.zero_le _, Nat.zero_le _⟩ (fun r_2 u_1 H locs hw hP hS => ?_)
    refine lv_lstore_n (lv' := [(3, .long r_2), (0, .int a1), (1, .long a2)]) hx hb dX7_not_6 rfl hl (by decide) rfl (fun ls hl => ?_)
    refine lv_lload_n hx hb dX7_not_7 rfl (lv_at hl 0 rfl) ?_
    refine lv_lconst (v := 0) hx hb dX7_not_8 (by decide) ?_
    refine W.lcmp hx hb dX7_not_9 ?_
    refine lv_if_eq (tgt := 17) hx hb dX7_not_10 (by decide) (fun c_10 => ?_) (fun c_10 => ?_)
    · have hw := hw.1 c_10
      refine lv_lload_n hx hb dX7_not_17 rfl (lv_at hl 2 rfl) ?_
      refine csI (As := [.long a2]) (rest := []) F hK hP hS (c_X8_contentOf l D ad cI cJ hap H.size _ _ _ hw) (va_cwS 1 hts gU_X7_19 rfl rfl rfl (by decide +kernel) ⟨Nat.le_of_ble_eq_true rfl, Nat.le_of_ble_eq_true rfl⟩) rfl hl.1 rfl (Nat.le_of_ble_eq_true rfl) dX7_not_18 ⟨Nat.zero_le _, Nat.zero_le _⟩ (fun r_4 u_3 H locs hw hP hS => ?_)
      refine lv_if_ne (tgt := 28) hx hb dX7_not_21 (by decide) (fun c_9 => ?_) (fun c_9 => ?_)
      · have hw := hw.1 c_9
        refine lv_iconst (v := 0) hx hb dX7_not_28 (by decide) ?_
        refine csL (As := [.int 0]) (rest := []) F hK hP hS (c_X8_ofTruth l D ad cI cJ hap H.size _ _ _ hw) (va_cwS 1 hts gU_X7_30 rfl rfl rfl (by decide +kernel) ⟨Nat.le_of_ble_eq_true rfl, Nat.le_of_ble_eq_true rfl⟩) rfl hl.1 rfl (Nat.le_of_ble_eq_true rfl) dX7_not_29 ⟨Nat.zero_le _, Nat.zero_le _⟩ (fun r_6 u_5 H locs hw hP hS => ?_)
        exact rtL F hr hlocks hK hw hP hS dX7_not_32
      · have hw := hw.2 c_9
        refine lv_iconst (v := 1) hx hb dX7_not_24 (by decide) ?_
        refine lv_goto (tgt := 29) hx hb dX7_not_25 (by decide) ?_
        refine csL (As := [.int 1]) (rest := []) F hK hP hS (c_X8_ofTruth l D ad cI cJ hap H.size _ _ _ hw) (va_cwS 1 hts gU_X7_30 rfl rfl rfl (by decide +kernel) ⟨Nat.le_of_ble_eq_true rfl, Nat.le_of_ble_eq_true rfl⟩) rfl hl.1 rfl (Nat.le_of_ble_eq_true rfl) dX7_not_29 ⟨Nat.zero_le _, Nat.zero_le _⟩ (fun r_8 u_7 H locs hw hP hS => ?_)
        exact rtL F hr hlocks hK hw hP hS dX7_not_32
    · have hw := hw.2 c_10
      refine lv_lload_n hx hb dX7_not_13 rfl (lv_at hl 0 rfl) ?_
      refine lv_goto (tgt := 32) hx hb dX7_not_14 (by decide) ?_
      exact rtL F hr hlocks hK hw hP hS dX7_not_32
  exact key s.heap [] hP hS
