abbrev rm_X10_cells : Room := { frames := 5, cells := 0, slots := 0, locals := 122 }
set_option maxHeartbeats 4000000 in
set_option maxRecDepth 100000 in
theorem c_X10_cells (l : Launch) (D : va_G) (ad : Nat → Nat) (cI : ClassId) (hap : apart ad 40) (sz : Nat) (σ : St) (a1 : Int32) (a2 : Int32) (K : Int32 → St → Prop) (hw : w_X10_cells σ a1 a2 K) : Met l yX10_cells wU_X10_cells rm_X10_cells (va_Pc [.ref (ad 0), .int a1, .int a2] (fun U => U.heap.size = sz ∧ inW D (wdM ad cI) [(cI, .int)] σ U)) (va_Qi (fun r u => zb r ∧ K r u) (inW D (wdM ad cI) [(cI, .int)]) (AW ad 40 sz)) 0 0 (AW ad 40 sz) := by
  refine Met.ofW (cc := cX10_cells) (maxL := 10) (ret := (some .boolean)) (by decide) rfl ?_
  intro p e s m args below meth c s₁ B hml hv
  obtain ⟨rfl, hsz, ⟨hP, hK⟩⟩ := hv
  have F : CallFix p m c cX10_cells 10 s ([.ref (ad 0), .int a1, .int a2] : List Value).toArray lw_U RX10 := ⟨B.exec, B.bytes, hml, findClass_of_methodNamed B.named, fun w h => atoms_spec (ws := wU_X10_cells) B.pre w (List.mem_cons_of_mem _ h)⟩
  have hx := F.1
  have hb := F.2.1
  have hown := F.2.2.2.1
  have hts := F.2.2.2.2
  have hr := B.returns
  have hlocks := B.notSynchronized
  subst hsz
  have hDs : ∀ σ, va_D (AW ad 40 s.heap.size) ((wdM ad cI) σ) := fun σ => wdM_D hap σ
  have hS : va_S (AW ad 40 s.heap.size) s.heap s.heap [] := va_S.rf
  have lab_266 : ∀ (n : Nat), ∀ (σ : St) (x3 : Int32) (x4 : Int32) (x7 : Int32) (x8 : Int32) (H : Heap) (locs : List Loc) (ls : Array Slot), w_X10_cells_266 K n σ x3 x4 x7 x8 → va_P D vwCl ((wdM ad cI) σ) H → va_S (AW ad 40 s.heap.size) s.heap H locs → lv_has ls 10 [(0, .ref (ad 0)), (3, .int x3), (4, .int x4), (7, .int x7), (8, .int x8)] → W p l e (headSpec wU_X10_cells rm_X10_cells).room s m ([.ref (ad 0), .int a1, .int a2] : List Value).toArray below meth c H locs 0 0 (MQ below (va_Qi (fun r u => zb r ∧ K r u) (inW D (wdM ad cI) [(cI, .int)]) (AW ad 40 s.heap.size)) ([.ref (ad 0), .int a1, .int a2] : List Value).toArray s 0 0 (AW ad 40 s.heap.size)) (F0 m 266 ls []) := by
    intro n
    induction n with
    | zero =>
      intro σ x3 x4 x7 x8 H locs ls hw
      exact hw.elim
    | succ n hL266 =>
      intro σ x3 x4 x7 x8 H locs ls hw hP hS hl
      have hw : b_X10_cells_266 (w_X10_cells_266 K n) K σ x3 x4 x7 x8 := hw
      unfold b_X10_cells_266 at hw
      generalize w_X10_cells_266 K n = L266 at hw hL266
      refine lv_iload hx hb dX10_cells_266 (lv_at hl 4 rfl) ?_
      refine lv_aload_n hx hb dX10_cells_268 rfl (lv_at hl 0 rfl) ?_
      refine gM_X10_readers F hK hP (hts _ mw_535) dX10_cells_269 ?_
      refine lv_icmp_ge (tgt := 358) hx hb dX10_cells_272 (by decide) (fun c_18 => ?_) (fun c_18 => ?_)
      · have hw := hw.1 c_18
        refine lv_aload_n hx hb dX10_cells_358 rfl (lv_at hl 0 rfl) ?_
        refine lv_iload_n hx hb dX10_cells_359 rfl (lv_at hl 1 rfl) ?_
        refine lv_iconst (v := 0) hx hb dX10_cells_360 (by decide) ?_
        refine lv_iload hx hb dX10_cells_361 (lv_at hl 2 rfl) ?_
        refine lv_aload_n hx hb dX10_cells_363 rfl (lv_at hl 0 rfl) ?_
        refine gM_X10_cellKind F hK hP (hts _ mw_522) dX10_cells_364 ?_
        refine lv_iload hx hb dX10_cells_367 (lv_at hl 3 rfl) ?_
        obtain ⟨i_5, hw⟩ := hw
        refine lM_X10_cellKind F hK hP i_5 dX10_cells_369 ?_
        refine lv_aload_n hx hb dX10_cells_370 rfl (lv_at hl 0 rfl) ?_
        refine gM_X10_cellValue F hK hP (hts _ mw_536) dX10_cells_371 ?_
        refine lv_iload hx hb dX10_cells_374 (lv_at hl 3 rfl) ?_
        obtain ⟨i_4, hw⟩ := hw
        refine lM_X10_cellValue F hK hP i_4 dX10_cells_376 ?_
        refine lv_aload_n hx hb dX10_cells_377 rfl (lv_at hl 0 rfl) ?_
        refine gM_X10_cellOf F hK hP (hts _ mw_537) dX10_cells_378 ?_
        refine lv_iload hx hb dX10_cells_381 (lv_at hl 3 rfl) ?_
        obtain ⟨i_3, hw⟩ := hw
        refine lM_X10_cellOf F hK hP i_3 dX10_cells_383 ?_
        refine cvI (As := [.int x3, .int 0, .int x4, .int (gA σ 29 (x7).toNatClampNeg), .int (gA σ 30 (x7).toNatClampNeg), .int (gA σ 31 (x7).toNatClampNeg)]) (rest := []) F hK hP hS (c_X10_gives l D ad cI hap H.size _ _ _ _ _ _ _ _ hw) (cwV 6 hts gU_X10_182 rfl rfl rfl (by decide +kernel) ⟨Nat.le_of_ble_eq_true rfl, Nat.le_of_ble_eq_true rfl⟩) (va_recv hK hP (ci := 7) (q0 := 0) rfl rfl) rfl hl.1 rfl (Nat.le_of_ble_eq_true rfl) dX10_cells_384 ⟨Nat.zero_le _, Nat.zero_le _⟩ (fun r_2 u_1 H locs hw hP hS => ?_)
        obtain ⟨zr_2, hw⟩ := hw
        exact rtZ F hr hlocks hK hw zr_2 hP hS dX10_cells_387
      · have hw := hw.2 c_18
        refine lv_aload_n hx hb dX10_cells_275 rfl (lv_at hl 0 rfl) ?_
        refine gM_X10_readCell F hK hP (hts _ mw_538) dX10_cells_276 ?_
        refine lv_iload hx hb dX10_cells_279 (lv_at hl 4 rfl) ?_
        obtain ⟨i_17, hw⟩ := hw
        refine lM_X10_readCell F hK hP i_17 dX10_cells_281 ?_
        refine lv_iload hx hb dX10_cells_282 (lv_at hl 3 rfl) ?_
        refine lv_icmp_eq (tgt := 290) hx hb dX10_cells_284 (by decide) (fun c_16 => ?_) (fun c_16 => ?_)
        · have hw := hw.1 c_16
          refine lv_aload_n hx hb dX10_cells_290 rfl (lv_at hl 0 rfl) ?_
          refine gM_X10_readCell F hK hP (hts _ mw_538) dX10_cells_291 ?_
          refine lv_iload hx hb dX10_cells_294 (lv_at hl 4 rfl) ?_
          refine lv_iconst (v := (-1)) hx hb dX10_cells_296 (by decide) ?_
          obtain ⟨i_15, hw⟩ := hw
          refine sM_X10_readCell F hK hP hDs hS i_15 dX10_cells_297 (fun H locs hP hS => ?_)
          refine lv_aload_n hx hb dX10_cells_298 rfl (lv_at hl 0 rfl) ?_
          refine gM_X10_readPair F hK hP (hts _ mw_539) dX10_cells_299 ?_
          refine lv_iload hx hb dX10_cells_302 (lv_at hl 4 rfl) ?_
          obtain ⟨i_14, hw⟩ := hw
          refine lM_X10_readPair F hK hP i_14 dX10_cells_304 ?_
          refine jvi (y := (gA σ 33 (x8).toNatClampNeg)) (by simp only [gS_sS, gS_sA, gS_sL, gS_fA, gS_fL, gA_sS, gA_sA, gA_sL, gA_fA, gA_fL, gL_sS, gL_sA, gL_sL, gL_fA, gL_fL, reduceIte, Nat.reduceEqDiff]) ?_
          refine lv_istore (lv' := [(9, .int (gA σ 33 (x8).toNatClampNeg)), (0, .ref (ad 0)), (3, .int x3), (4, .int x4), (7, .int x7), (8, .int x8)]) hx hb dX10_cells_305 hl (by decide) rfl (fun ls hl => ?_)
          refine lv_aload_n hx hb dX10_cells_307 rfl (lv_at hl 1 rfl) ?_
          refine lv_aload_n hx hb dX10_cells_308 rfl (lv_at hl 1 rfl) ?_
          refine gM_X10_pAct F hK hP (hts _ mw_472) dX10_cells_309 ?_
          refine lv_iload hx hb dX10_cells_312 (lv_at hl 0 rfl) ?_
          obtain ⟨i_13, hw⟩ := hw
          refine lM_X10_pAct F hK hP i_13 dX10_cells_314 ?_
          refine jvi (y := (gA σ 14 ((gA σ 33 (x8).toNatClampNeg)).toNatClampNeg)) (by simp only [gS_sS, gS_sA, gS_sL, gS_fA, gS_fL, gA_sS, gA_sA, gA_sL, gA_fA, gA_fL, gL_sS, gL_sA, gL_sL, gL_fA, gL_fL, reduceIte, Nat.reduceEqDiff]) ?_
          refine lv_iconst (v := 0) hx hb dX10_cells_315 (by decide) ?_
          refine lv_aload_n hx hb dX10_cells_316 rfl (lv_at hl 1 rfl) ?_
          refine gM_X10_pColour F hK hP (hts _ mw_473) dX10_cells_317 ?_
          refine lv_iload hx hb dX10_cells_320 (lv_at hl 0 rfl) ?_
          obtain ⟨i_12, hw⟩ := hw
          refine lM_X10_pColour F hK hP i_12 dX10_cells_322 ?_
          refine jvi (y := (gA σ 15 ((gA σ 33 (x8).toNatClampNeg)).toNatClampNeg)) (by simp only [gS_sS, gS_sA, gS_sL, gS_fA, gS_fL, gA_sS, gA_sA, gA_sL, gA_fA, gA_fL, gL_sS, gL_sA, gL_sL, gL_fA, gL_fL, reduceIte, Nat.reduceEqDiff]) ?_
          refine lv_aload_n hx hb dX10_cells_323 rfl (lv_at hl 1 rfl) ?_
          refine gM_X10_cellKind F hK hP (hts _ mw_522) dX10_cells_324 ?_
          refine lv_iload hx hb dX10_cells_327 (lv_at hl 4 rfl) ?_
          obtain ⟨i_11, hw⟩ := hw
          refine lM_X10_cellKind F hK hP i_11 dX10_cells_329 ?_
          refine jvi (y := (gA σ 29 (x7).toNatClampNeg)) (by simp only [gS_sS, gS_sA, gS_sL, gS_fA, gS_fL, gA_sS, gA_sA, gA_sL, gA_fA, gA_fL, gL_sS, gL_sA, gL_sL, gL_fA, gL_fL, reduceIte, Nat.reduceEqDiff]) ?_
          refine lv_aload_n hx hb dX10_cells_330 rfl (lv_at hl 1 rfl) ?_
          refine gM_X10_cellValue F hK hP (hts _ mw_536) dX10_cells_331 ?_
          refine lv_iload hx hb dX10_cells_334 (lv_at hl 4 rfl) ?_
          obtain ⟨i_10, hw⟩ := hw
          refine lM_X10_cellValue F hK hP i_10 dX10_cells_336 ?_
          refine jvi (y := (gA σ 30 (x7).toNatClampNeg)) (by simp only [gS_sS, gS_sA, gS_sL, gS_fA, gS_fL, gA_sS, gA_sA, gA_sL, gA_fA, gA_fL, gL_sS, gL_sA, gL_sL, gL_fA, gL_fL, reduceIte, Nat.reduceEqDiff]) ?_
          refine lv_aload_n hx hb dX10_cells_337 rfl (lv_at hl 1 rfl) ?_
          refine gM_X10_cellOf F hK hP (hts _ mw_537) dX10_cells_338 ?_
          refine lv_iload hx hb dX10_cells_341 (lv_at hl 4 rfl) ?_
          obtain ⟨i_9, hw⟩ := hw
          refine lM_X10_cellOf F hK hP i_9 dX10_cells_343 ?_
          refine jvi (y := (gA σ 31 (x7).toNatClampNeg)) (by simp only [gS_sS, gS_sA, gS_sL, gS_fA, gS_fL, gA_sS, gA_sA, gA_sL, gA_fA, gA_fL, gL_sS, gL_sA, gL_sL, gL_fA, gL_fL, reduceIte, Nat.reduceEqDiff]) ?_
          refine cvI (As := [.int (gA σ 14 ((gA σ 33 (x8).toNatClampNeg)).toNatClampNeg), .int 0, .int (gA σ 15 ((gA σ 33 (x8).toNatClampNeg)).toNatClampNeg), .int (gA σ 29 (x7).toNatClampNeg), .int (gA σ 30 (x7).toNatClampNeg), .int (gA σ 31 (x7).toNatClampNeg)]) (rest := []) F hK hP hS (c_X10_gives l D ad cI hap H.size _ _ _ _ _ _ _ _ hw) (cwV 6 hts gU_X10_182 rfl rfl rfl (by decide +kernel) ⟨Nat.le_of_ble_eq_true rfl, Nat.le_of_ble_eq_true rfl⟩) (va_recv hK hP (ci := 7) (q0 := 0) rfl rfl) rfl hl.1 rfl (Nat.le_of_ble_eq_true rfl) dX10_cells_344 ⟨Nat.zero_le _, Nat.zero_le _⟩ (fun r_7 u_6 H locs hw hP hS => ?_)
          obtain ⟨zr_7, hw⟩ := hw
          refine lv_if_ne (tgt := 352) hx hb dX10_cells_347 (by decide) (fun c_8 => ?_) (fun c_8 => ?_)
          · have hw := hw.1 c_8
            refine lv_iinc (v := (x8 + 1)) (lv' := [(8, .int (x8 + 1)), (9, .int (gA σ 33 (x8).toNatClampNeg)), (0, .ref (ad 0)), (3, .int x3), (4, .int x4), (7, .int x7)]) hx hb dX10_cells_352 hl (k := 5) rfl rfl (by decide) rfl (fun ls hl => ?_)
            refine lv_goto (tgt := 266) hx hb dX10_cells_355 (by decide) ?_
            exact hL266 _ _ _ _ _ _ _ _ hw hP hS (lv_sub hl [2, 3, 4, 5, 0] rfl)
          · have hw := hw.2 c_8
            refine lv_iconst (v := 0) hx hb dX10_cells_350 (by decide) ?_
            exact rtZ F hr hlocks hK hw (Or.inl rfl) hP hS dX10_cells_351
        · have hw := hw.2 c_16
          refine lv_goto (tgt := 352) hx hb dX10_cells_287 (by decide) ?_
          refine lv_iinc (v := (x8 + 1)) (lv' := [(8, .int (x8 + 1)), (0, .ref (ad 0)), (3, .int x3), (4, .int x4), (7, .int x7)]) hx hb dX10_cells_352 hl (k := 4) rfl rfl (by decide) rfl (fun ls hl => ?_)
          refine lv_goto (tgt := 266) hx hb dX10_cells_355 (by decide) ?_
          exact hL266 _ _ _ _ _ _ _ _ hw hP hS (lv_sub hl [1, 2, 3, 4, 0] rfl)
  have lab_50 : ∀ (σ : St) (x1 : Int32) (x2 : Int32) (x3 : Int32) (x4 : Int32) (H : Heap) (locs : List Loc) (ls : Array Slot), b_X10_cells_50 K σ x1 x2 x3 x4 → va_P D vwCl ((wdM ad cI) σ) H → va_S (AW ad 40 s.heap.size) s.heap H locs → lv_has ls 10 [(0, .ref (ad 0)), (1, .int x1), (2, .int x2), (3, .int x3), (4, .int x4)] → W p l e (headSpec wU_X10_cells rm_X10_cells).room s m ([.ref (ad 0), .int a1, .int a2] : List Value).toArray below meth c H locs 0 0 (MQ below (va_Qi (fun r u => zb r ∧ K r u) (inW D (wdM ad cI) [(cI, .int)]) (AW ad 40 s.heap.size)) ([.ref (ad 0), .int a1, .int a2] : List Value).toArray s 0 0 (AW ad 40 s.heap.size)) (F0 m 50 ls []) := by
    intro σ x1 x2 x3 x4 H locs ls hw hP hS hl
    unfold b_X10_cells_50 at hw
    refine lv_aload_n hx hb dX10_cells_50 rfl (lv_at hl 0 rfl) ?_
    refine lv_iload_n hx hb dX10_cells_51 rfl (lv_at hl 1 rfl) ?_
    refine lv_iconst (v := 0) hx hb dX10_cells_52 (by decide) ?_
    refine cvI (As := [.int x1, .int 0]) (rest := []) F hK hP hS (c_X10_valueAt l D ad cI hap H.size _ _ _ _ hw) (cwV 2 hts gU_X10_221 rfl rfl rfl (by decide +kernel) ⟨Nat.le_of_ble_eq_true rfl, Nat.le_of_ble_eq_true rfl⟩) (va_recv hK hP (ci := 7) (q0 := 0) rfl rfl) rfl hl.1 rfl (Nat.le_of_ble_eq_true rfl) dX10_cells_53 ⟨Nat.zero_le _, Nat.zero_le _⟩ (fun r_20 u_19 H locs hw hP hS => ?_)
    refine lv_istore (lv' := [(5, .int r_20), (0, .ref (ad 0)), (1, .int x1), (2, .int x2), (3, .int x3), (4, .int x4)]) hx hb dX10_cells_56 hl (by decide) rfl (fun ls hl => ?_)
    refine lv_iload_n hx hb dX10_cells_58 rfl (lv_at hl 3 rfl) ?_
    refine lv_bipush (v := 20) hx hb dX10_cells_59 (by decide) ?_
    refine lv_icmp_ne (tgt := 77) hx hb dX10_cells_61 (by decide) (fun c_56 => ?_) (fun c_56 => ?_)
    · have hw := hw.1 c_56
      refine lv_aload_n hx hb dX10_cells_77 rfl (lv_at hl 1 rfl) ?_
      refine lv_iload_n hx hb dX10_cells_78 rfl (lv_at hl 2 rfl) ?_
      refine lv_iconst (v := 1) hx hb dX10_cells_79 (by decide) ?_
      refine cvI (As := [.int x1, .int 1]) (rest := []) F hK hP hS (c_X10_valueAt l D ad cI hap H.size _ _ _ _ hw) (cwV 2 hts gU_X10_221 rfl rfl rfl (by decide +kernel) ⟨Nat.le_of_ble_eq_true rfl, Nat.le_of_ble_eq_true rfl⟩) (va_recv hK hP (ci := 7) (q0 := 0) rfl rfl) rfl hl.1 rfl (Nat.le_of_ble_eq_true rfl) dX10_cells_80 ⟨Nat.zero_le _, Nat.zero_le _⟩ (fun r_22 u_21 H locs hw hP hS => ?_)
      refine lv_istore (lv' := [(6, .int r_22), (5, .int r_20), (0, .ref (ad 0)), (1, .int x1), (2, .int x2), (3, .int x3), (4, .int x4)]) hx hb dX10_cells_83 hl (by decide) rfl (fun ls hl => ?_)
      refine lv_iload hx hb dX10_cells_85 (lv_at hl 0 rfl) ?_
      refine lv_iconst (v := 0) hx hb dX10_cells_87 (by decide) ?_
      refine lv_aload_n hx hb dX10_cells_88 rfl (lv_at hl 2 rfl) ?_
      refine gM_X10_rSize F hK hP (hts _ mw_524) dX10_cells_89 ?_
      refine lv_iload hx hb dX10_cells_92 (lv_at hl 1 rfl) ?_
      obtain ⟨i_52, hw⟩ := hw
      refine lM_X10_rSize F hK hP i_52 dX10_cells_94 ?_
      refine lv_iconst (v := 1) hx hb dX10_cells_95 (by decide) ?_
      refine lv_isub hx hb dX10_cells_96 ?_
      refine csI (As := [.int r_22, .int 0, .int ((gA u_21 26 (r_20).toNatClampNeg) - 1)]) (rest := []) F hK hP hS (c_X10_in l D ad cI hap H.size _ _ _ _ _ hw) (va_cwS 3 hts gU_X10_131 rfl rfl rfl (by decide +kernel) ⟨Nat.le_of_ble_eq_true rfl, Nat.le_of_ble_eq_true rfl⟩) rfl hl.1 rfl (Nat.le_of_ble_eq_true rfl) dX10_cells_97 ⟨Nat.zero_le _, Nat.zero_le _⟩ (fun r_24 u_23 H locs hw hP hS => ?_)
      obtain ⟨zr_24, hw⟩ := hw
      refine lv_if_ne (tgt := 112) hx hb dX10_cells_100 (by decide) (fun c_51 => ?_) (fun c_51 => ?_)
      · have hw := hw.1 c_51
        refine lv_aload_n hx hb dX10_cells_112 rfl (lv_at hl 2 rfl) ?_
        refine gM_X10_rFrom F hK hP (hts _ mw_523) dX10_cells_113 ?_
        refine lv_iload hx hb dX10_cells_116 (lv_at hl 1 rfl) ?_
        obtain ⟨i_48, hw⟩ := hw
        refine lM_X10_rFrom F hK hP i_48 dX10_cells_118 ?_
        refine lv_iload hx hb dX10_cells_119 (lv_at hl 0 rfl) ?_
        refine lv_iadd hx hb dX10_cells_121 ?_
        refine lv_istore (lv' := [(7, .int ((gA u_23 25 (r_20).toNatClampNeg) + r_22)), (6, .int r_22), (5, .int r_20), (0, .ref (ad 0)), (1, .int x1), (2, .int x2), (3, .int x3), (4, .int x4)]) hx hb dX10_cells_122 hl (by decide) rfl (fun ls hl => ?_)
        refine lv_iload_n hx hb dX10_cells_124 rfl (lv_at hl 5 rfl) ?_
        refine lv_bipush (v := 18) hx hb dX10_cells_125 (by decide) ?_
        refine lv_icmp_ne (tgt := 203) hx hb dX10_cells_127 (by decide) (fun c_47 => ?_) (fun c_47 => ?_)
        · have hw := hw.1 c_47
          refine lv_aload_n hx hb dX10_cells_203 rfl (lv_at hl 3 rfl) ?_
          refine gM_X10_cellKind F hK hP (hts _ mw_522) dX10_cells_204 ?_
          refine lv_iload hx hb dX10_cells_207 (lv_at hl 0 rfl) ?_
          obtain ⟨i_37, hw⟩ := hw
          refine lM_X10_cellKind F hK hP i_37 dX10_cells_209 ?_
          refine lv_if_le (tgt := 220) hx hb dX10_cells_210 (by decide) (fun c_36 => ?_) (fun c_36 => ?_)
          · have hw := hw.1 c_36
            refine lv_aload_n hx hb dX10_cells_220 rfl (lv_at hl 3 rfl) ?_
            refine gM_X10_cellKind F hK hP (hts _ mw_522) dX10_cells_221 ?_
            refine lv_iload hx hb dX10_cells_224 (lv_at hl 0 rfl) ?_
            refine lv_aload_n hx hb dX10_cells_226 rfl (lv_at hl 3 rfl) ?_
            refine lv_iload_n hx hb dX10_cells_227 rfl (lv_at hl 4 rfl) ?_
            refine lv_iconst (v := 2) hx hb dX10_cells_228 (by decide) ?_
            refine cvI (As := [.int x1, .int 2]) (rest := [.int ((gA u_23 25 (r_20).toNatClampNeg) + r_22), .ref (ad 30)]) F hK hP hS (c_X10_kindAt l D ad cI hap H.size _ _ _ _ hw) (cwV 2 hts gU_X10_185 rfl rfl rfl (by decide +kernel) ⟨Nat.le_of_ble_eq_true rfl, Nat.le_of_ble_eq_true rfl⟩) (va_recv hK hP (ci := 7) (q0 := 0) rfl rfl) rfl hl.1 rfl (Nat.le_of_ble_eq_true rfl) dX10_cells_229 ⟨Nat.zero_le _, Nat.zero_le _⟩ (fun r_26 u_25 H locs hw hP hS => ?_)
            obtain ⟨i_33, hw⟩ := hw
            refine sM_X10_cellKind F hK hP hDs hS i_33 dX10_cells_232 (fun H locs hP hS => ?_)
            refine lv_aload_n hx hb dX10_cells_233 rfl (lv_at hl 3 rfl) ?_
            refine gM_X10_cellValue F hK hP (hts _ mw_536) dX10_cells_234 ?_
            refine lv_iload hx hb dX10_cells_237 (lv_at hl 0 rfl) ?_
            refine lv_aload_n hx hb dX10_cells_239 rfl (lv_at hl 3 rfl) ?_
            refine lv_iload_n hx hb dX10_cells_240 rfl (lv_at hl 4 rfl) ?_
            refine lv_iconst (v := 2) hx hb dX10_cells_241 (by decide) ?_
            refine cvI (As := [.int x1, .int 2]) (rest := [.int ((gA u_23 25 (r_20).toNatClampNeg) + r_22), .ref (ad 31)]) F hK hP hS (c_X10_valueAt l D ad cI hap H.size _ _ _ _ hw) (cwV 2 hts gU_X10_221 rfl rfl rfl (by decide +kernel) ⟨Nat.le_of_ble_eq_true rfl, Nat.le_of_ble_eq_true rfl⟩) (va_recv hK hP (ci := 7) (q0 := 0) rfl rfl) rfl hl.1 rfl (Nat.le_of_ble_eq_true rfl) dX10_cells_242 ⟨Nat.zero_le _, Nat.zero_le _⟩ (fun r_28 u_27 H locs hw hP hS => ?_)
            obtain ⟨i_32, hw⟩ := hw
            refine sM_X10_cellValue F hK hP hDs hS i_32 dX10_cells_245 (fun H locs hP hS => ?_)
            refine lv_aload_n hx hb dX10_cells_246 rfl (lv_at hl 3 rfl) ?_
            refine gM_X10_cellOf F hK hP (hts _ mw_537) dX10_cells_247 ?_
            refine lv_iload hx hb dX10_cells_250 (lv_at hl 0 rfl) ?_
            refine lv_aload_n hx hb dX10_cells_252 rfl (lv_at hl 3 rfl) ?_
            refine gM_X10_pOf F hK hP (hts _ mw_484) dX10_cells_253 ?_
            refine lv_iconst (v := 3) hx hb dX10_cells_256 (by decide) ?_
            refine lv_iload_n hx hb dX10_cells_257 rfl (lv_at hl 4 rfl) ?_
            refine lv_imul hx hb dX10_cells_258 ?_
            refine lv_iconst (v := 2) hx hb dX10_cells_259 (by decide) ?_
            refine lv_iadd hx hb dX10_cells_260 ?_
            obtain ⟨i_31, hw⟩ := hw
            refine lM_X10_pOf F hK hP i_31 dX10_cells_261 ?_
            refine jvi (y := (gA u_27 21 (((3 * x1) + 2)).toNatClampNeg)) (by simp only [gS_sS, gS_sA, gS_sL, gS_fA, gS_fL, gA_sS, gA_sA, gA_sL, gA_fA, gA_fL, gL_sS, gL_sA, gL_sL, gL_fA, gL_fL, reduceIte, Nat.reduceEqDiff]) ?_
            obtain ⟨i_30, hw⟩ := hw
            refine sM_X10_cellOf F hK hP hDs hS i_30 dX10_cells_262 (fun H locs hP hS => ?_)
            refine lv_iconst (v := 0) hx hb dX10_cells_263 (by decide) ?_
            refine lv_istore (lv' := [(8, .int 0), (7, .int ((gA u_23 25 (r_20).toNatClampNeg) + r_22)), (6, .int r_22), (5, .int r_20), (0, .ref (ad 0)), (1, .int x1), (2, .int x2), (3, .int x3), (4, .int x4)]) hx hb dX10_cells_264 hl (by decide) rfl (fun ls hl => ?_)
            obtain ⟨n_29, hw⟩ := hw
            exact lab_266 n_29 _ _ _ _ _ _ _ _ hw hP hS (lv_sub hl [4, 7, 8, 1, 0] rfl)
          · have hw := hw.2 c_36
            refine lv_aload_n hx hb dX10_cells_213 rfl (lv_at hl 3 rfl) ?_
            refine lv_iconst (v := 1) hx hb dX10_cells_214 (by decide) ?_
            refine lv_iload_n hx hb dX10_cells_215 rfl (lv_at hl 6 rfl) ?_
            refine cvI (As := [.int 1, .int x3]) (rest := []) F hK hP hS (c_X10_stops l D ad cI hap H.size _ _ _ _ hw) (cwV 2 hts gU_X10_165 rfl rfl rfl (by decide +kernel) ⟨Nat.le_of_ble_eq_true rfl, Nat.le_of_ble_eq_true rfl⟩) (va_recv hK hP (ci := 7) (q0 := 0) rfl rfl) rfl hl.1 rfl (Nat.le_of_ble_eq_true rfl) dX10_cells_216 ⟨Nat.zero_le _, Nat.zero_le _⟩ (fun r_35 u_34 H locs hw hP hS => ?_)
            obtain ⟨zr_35, hw⟩ := hw
            exact rtZ F hr hlocks hK hw zr_35 hP hS dX10_cells_219
        · have hw := hw.2 c_47
          refine lv_aload_n hx hb dX10_cells_130 rfl (lv_at hl 3 rfl) ?_
          refine gM_X10_cellKind F hK hP (hts _ mw_522) dX10_cells_131 ?_
          refine lv_iload hx hb dX10_cells_134 (lv_at hl 0 rfl) ?_
          obtain ⟨i_46, hw⟩ := hw
          refine lM_X10_cellKind F hK hP i_46 dX10_cells_136 ?_
          refine lv_if_le (tgt := 170) hx hb dX10_cells_137 (by decide) (fun c_45 => ?_) (fun c_45 => ?_)
          · have hw := hw.1 c_45
            refine lv_aload_n hx hb dX10_cells_170 rfl (lv_at hl 3 rfl) ?_
            refine gM_X10_readCell F hK hP (hts _ mw_538) dX10_cells_171 ?_
            refine lv_aload_n hx hb dX10_cells_174 rfl (lv_at hl 3 rfl) ?_
            refine gM_X10_readers F hK hP (hts _ mw_535) dX10_cells_175 ?_
            refine lv_iload hx hb dX10_cells_178 (lv_at hl 0 rfl) ?_
            obtain ⟨i_39, hw⟩ := hw
            refine sM_X10_readCell F hK hP hDs hS i_39 dX10_cells_180 (fun H locs hP hS => ?_)
            refine lv_aload_n hx hb dX10_cells_181 rfl (lv_at hl 3 rfl) ?_
            refine gM_X10_readPair F hK hP (hts _ mw_539) dX10_cells_182 ?_
            refine lv_aload_n hx hb dX10_cells_185 rfl (lv_at hl 3 rfl) ?_
            refine gM_X10_readers F hK hP (hts _ mw_535) dX10_cells_186 ?_
            refine jvi (y := (gS u_23 17)) (by simp only [gS_sS, gS_sA, gS_sL, gS_fA, gS_fL, gA_sS, gA_sA, gA_sL, gA_fA, gA_fL, gL_sS, gL_sA, gL_sL, gL_fA, gL_fL, reduceIte, Nat.reduceEqDiff]) ?_
            refine lv_iload_n hx hb dX10_cells_189 rfl (lv_at hl 4 rfl) ?_
            obtain ⟨i_38, hw⟩ := hw
            refine sM_X10_readPair F hK hP hDs hS i_38 dX10_cells_190 (fun H locs hP hS => ?_)
            refine lv_aload_n hx hb dX10_cells_191 rfl (lv_at hl 3 rfl) ?_
            refine lv_dup hx hb dX10_cells_192 rfl ?_
            refine gM_X10_readers F hK hP (hts _ mw_535) dX10_cells_193 ?_
            refine jvi (y := (gS u_23 17)) (by simp only [gS_sS, gS_sA, gS_sL, gS_fA, gS_fL, gA_sS, gA_sA, gA_sL, gA_fA, gA_fL, gL_sS, gL_sA, gL_sL, gL_fA, gL_fL, reduceIte, Nat.reduceEqDiff]) ?_
            refine lv_iconst (v := 1) hx hb dX10_cells_196 (by decide) ?_
            refine lv_iadd hx hb dX10_cells_197 ?_
            refine pM_X10_readers F hK hP hDs hS (hts _ mw_535) dX10_cells_198 (fun H locs hP hS => ?_)
            refine lv_iconst (v := 1) hx hb dX10_cells_201 (by decide) ?_
            exact rtZ F hr hlocks hK hw (Or.inr rfl) hP hS dX10_cells_202
          · have hw := hw.2 c_45
            refine lv_aload_n hx hb dX10_cells_140 rfl (lv_at hl 3 rfl) ?_
            refine lv_iload_n hx hb dX10_cells_141 rfl (lv_at hl 6 rfl) ?_
            refine lv_iconst (v := 0) hx hb dX10_cells_142 (by decide) ?_
            refine lv_iload hx hb dX10_cells_143 (lv_at hl 7 rfl) ?_
            refine lv_aload_n hx hb dX10_cells_145 rfl (lv_at hl 3 rfl) ?_
            refine gM_X10_cellKind F hK hP (hts _ mw_522) dX10_cells_146 ?_
            refine lv_iload hx hb dX10_cells_149 (lv_at hl 0 rfl) ?_
            obtain ⟨i_44, hw⟩ := hw
            refine lM_X10_cellKind F hK hP i_44 dX10_cells_151 ?_
            refine lv_aload_n hx hb dX10_cells_152 rfl (lv_at hl 3 rfl) ?_
            refine gM_X10_cellValue F hK hP (hts _ mw_536) dX10_cells_153 ?_
            refine lv_iload hx hb dX10_cells_156 (lv_at hl 0 rfl) ?_
            obtain ⟨i_43, hw⟩ := hw
            refine lM_X10_cellValue F hK hP i_43 dX10_cells_158 ?_
            refine lv_aload_n hx hb dX10_cells_159 rfl (lv_at hl 3 rfl) ?_
            refine gM_X10_cellOf F hK hP (hts _ mw_537) dX10_cells_160 ?_
            refine lv_iload hx hb dX10_cells_163 (lv_at hl 0 rfl) ?_
            obtain ⟨i_42, hw⟩ := hw
            refine lM_X10_cellOf F hK hP i_42 dX10_cells_165 ?_
            refine cvI (As := [.int x3, .int 0, .int x4, .int (gA u_23 29 (((gA u_23 25 (r_20).toNatClampNeg) + r_22)).toNatClampNeg), .int (gA u_23 30 (((gA u_23 25 (r_20).toNatClampNeg) + r_22)).toNatClampNeg), .int (gA u_23 31 (((gA u_23 25 (r_20).toNatClampNeg) + r_22)).toNatClampNeg)]) (rest := []) F hK hP hS (c_X10_gives l D ad cI hap H.size _ _ _ _ _ _ _ _ hw) (cwV 6 hts gU_X10_182 rfl rfl rfl (by decide +kernel) ⟨Nat.le_of_ble_eq_true rfl, Nat.le_of_ble_eq_true rfl⟩) (va_recv hK hP (ci := 7) (q0 := 0) rfl rfl) rfl hl.1 rfl (Nat.le_of_ble_eq_true rfl) dX10_cells_166 ⟨Nat.zero_le _, Nat.zero_le _⟩ (fun r_41 u_40 H locs hw hP hS => ?_)
            obtain ⟨zr_41, hw⟩ := hw
            exact rtZ F hr hlocks hK hw zr_41 hP hS dX10_cells_169
      · have hw := hw.2 c_51
        refine lv_aload_n hx hb dX10_cells_103 rfl (lv_at hl 2 rfl) ?_
        refine lv_iload_n hx hb dX10_cells_104 rfl (lv_at hl 5 rfl) ?_
        refine lv_iload hx hb dX10_cells_105 (lv_at hl 6 rfl) ?_
        refine lv_iconst (v := 2) hx hb dX10_cells_107 (by decide) ?_
        refine cvI (As := [.int x3, .int x4, .int 2]) (rest := []) F hK hP hS (c_X10_faults l D ad cI hap H.size _ _ _ _ _ hw) (cwV 3 hts gU_X10_228 rfl rfl rfl (by decide +kernel) ⟨Nat.le_of_ble_eq_true rfl, Nat.le_of_ble_eq_true rfl⟩) (va_recv hK hP (ci := 7) (q0 := 0) rfl rfl) rfl hl.1 rfl (Nat.le_of_ble_eq_true rfl) dX10_cells_108 ⟨Nat.zero_le _, Nat.zero_le _⟩ (fun r_50 u_49 H locs hw hP hS => ?_)
        obtain ⟨zr_50, hw⟩ := hw
        exact rtZ F hr hlocks hK hw zr_50 hP hS dX10_cells_111
    · have hw := hw.2 c_56
      refine lv_aload_n hx hb dX10_cells_64 rfl (lv_at hl 1 rfl) ?_
      refine lv_iload_n hx hb dX10_cells_65 rfl (lv_at hl 2 rfl) ?_
      refine lv_aload_n hx hb dX10_cells_66 rfl (lv_at hl 1 rfl) ?_
      refine gM_X10_rSize F hK hP (hts _ mw_524) dX10_cells_67 ?_
      refine lv_iload hx hb dX10_cells_70 (lv_at hl 0 rfl) ?_
      obtain ⟨i_55, hw⟩ := hw
      refine lM_X10_rSize F hK hP i_55 dX10_cells_72 ?_
      refine cvI (As := [.int x1, .int (gA u_19 26 (r_20).toNatClampNeg)]) (rest := []) F hK hP hS (c_X10_number l D ad cI hap H.size _ _ _ _ hw) (cwV 2 hts gU_X10_191 rfl rfl rfl (by decide +kernel) ⟨Nat.le_of_ble_eq_true rfl, Nat.le_of_ble_eq_true rfl⟩) (va_recv hK hP (ci := 7) (q0 := 0) rfl rfl) rfl hl.1 rfl (Nat.le_of_ble_eq_true rfl) dX10_cells_73 ⟨Nat.zero_le _, Nat.zero_le _⟩ (fun r_54 u_53 H locs hw hP hS => ?_)
      obtain ⟨zr_54, hw⟩ := hw
      exact rtZ F hr hlocks hK hw zr_54 hP hS dX10_cells_76
  have hl := lv_entry ([.ref (ad 0), .int a1, .int a2]) (n := 10) (Nat.le_of_ble_eq_true rfl)
  rw [lg_entry_eq]
  generalize (lg_sl ([.ref (ad 0), .int a1, .int a2]) ++ List.replicate (10 - (lg_sl ([.ref (ad 0), .int a1, .int a2])).length) Slot.unset).toArray = ls at hl ⊢
  have hl : lv_has ls 10 [(0, .ref (ad 0)), (1, .int a1), (2, .int a2)] := hl
  have key : ∀ (H : Heap) (locs : List Loc), va_P D vwCl ((wdM ad cI) σ) H → va_S (AW ad 40 s.heap.size) s.heap H locs → W p l e (headSpec wU_X10_cells rm_X10_cells).room s m ([.ref (ad 0), .int a1, .int a2] : List Value).toArray below meth c H locs 0 0 (MQ below (va_Qi (fun r u => zb r ∧ K r u) (inW D (wdM ad cI) [(cI, .int)]) (AW ad 40 s.heap.size)) ([.ref (ad 0), .int a1, .int a2] : List Value).toArray s 0 0 (AW ad 40 s.heap.size)) (F0 m 0 ls []) := by
    intro H locs hP hS
    unfold w_X10_cells at hw
    refine lv_aload_n hx hb dX10_cells_0 rfl (lv_at hl 0 rfl) ?_
    refine gM_X10_pAct F hK hP (hts _ mw_472) dX10_cells_1 ?_
    refine lv_iload_n hx hb dX10_cells_4 rfl (lv_at hl 1 rfl) ?_
    obtain ⟨i_69, hw⟩ := hw
    refine lM_X10_pAct F hK hP i_69 dX10_cells_5 ?_
    refine lv_istore_n (lv' := [(3, .int (gA σ 14 (a1).toNatClampNeg)), (0, .ref (ad 0)), (1, .int a1), (2, .int a2)]) hx hb dX10_cells_6 rfl hl (by decide) rfl (fun ls hl => ?_)
    refine lv_aload_n hx hb dX10_cells_7 rfl (lv_at hl 1 rfl) ?_
    refine gM_X10_pColour F hK hP (hts _ mw_473) dX10_cells_8 ?_
    refine lv_iload_n hx hb dX10_cells_11 rfl (lv_at hl 2 rfl) ?_
    obtain ⟨i_68, hw⟩ := hw
    refine lM_X10_pColour F hK hP i_68 dX10_cells_12 ?_
    refine lv_istore (lv' := [(4, .int (gA σ 15 (a1).toNatClampNeg)), (3, .int (gA σ 14 (a1).toNatClampNeg)), (0, .ref (ad 0)), (1, .int a1), (2, .int a2)]) hx hb dX10_cells_13 hl (by decide) rfl (fun ls hl => ?_)
    refine lv_aload_n hx hb dX10_cells_15 rfl (lv_at hl 2 rfl) ?_
    refine lv_iload_n hx hb dX10_cells_16 rfl (lv_at hl 3 rfl) ?_
    refine lv_iconst (v := 0) hx hb dX10_cells_17 (by decide) ?_
    refine cvI (As := [.int a1, .int 0]) (rest := []) F hK hP hS (c_X10_kindAt l D ad cI hap H.size _ _ _ _ hw) (cwV 2 hts gU_X10_185 rfl rfl rfl (by decide +kernel) ⟨Nat.le_of_ble_eq_true rfl, Nat.le_of_ble_eq_true rfl⟩) (va_recv hK hP (ci := 7) (q0 := 0) rfl rfl) rfl hl.1 rfl (Nat.le_of_ble_eq_true rfl) dX10_cells_18 ⟨Nat.zero_le _, Nat.zero_le _⟩ (fun r_58 u_57 H locs hw hP hS => ?_)
    refine lv_iconst (v := 2) hx hb dX10_cells_21 (by decide) ?_
    refine lv_icmp_ne (tgt := 41) hx hb dX10_cells_22 (by decide) (fun c_67 => ?_) (fun c_67 => ?_)
    · have hw := hw.1 c_67
      refine lv_aload_n hx hb dX10_cells_41 rfl (lv_at hl 2 rfl) ?_
      refine lv_iload_n hx hb dX10_cells_42 rfl (lv_at hl 1 rfl) ?_
      refine lv_iload hx hb dX10_cells_43 (lv_at hl 0 rfl) ?_
      refine lv_iconst (v := 4) hx hb dX10_cells_45 (by decide) ?_
      refine cvI (As := [.int (gA σ 14 (a1).toNatClampNeg), .int (gA σ 15 (a1).toNatClampNeg), .int 4]) (rest := []) F hK hP hS (c_X10_faults l D ad cI hap H.size _ _ _ _ _ hw) (cwV 3 hts gU_X10_228 rfl rfl rfl (by decide +kernel) ⟨Nat.le_of_ble_eq_true rfl, Nat.le_of_ble_eq_true rfl⟩) (va_recv hK hP (ci := 7) (q0 := 0) rfl rfl) rfl hl.1 rfl (Nat.le_of_ble_eq_true rfl) dX10_cells_46 ⟨Nat.zero_le _, Nat.zero_le _⟩ (fun r_60 u_59 H locs hw hP hS => ?_)
      obtain ⟨zr_60, hw⟩ := hw
      exact rtZ F hr hlocks hK hw zr_60 hP hS dX10_cells_49
    · have hw := hw.2 c_67
      refine lv_iload_n hx hb dX10_cells_25 rfl (lv_at hl 4 rfl) ?_
      refine lv_bipush (v := 20) hx hb dX10_cells_26 (by decide) ?_
      refine lv_icmp_eq (tgt := 50) hx hb dX10_cells_28 (by decide) (fun c_66 => ?_) (fun c_66 => ?_)
      · have hw := hw.1 c_66
        exact lab_50 _ _ _ _ _ _ _ _ hw hP hS (lv_sub hl [2, 3, 4, 1, 0] rfl)
      · have hw := hw.2 c_66
        refine lv_aload_n hx hb dX10_cells_31 rfl (lv_at hl 2 rfl) ?_
        refine lv_iload_n hx hb dX10_cells_32 rfl (lv_at hl 3 rfl) ?_
        refine lv_iconst (v := 1) hx hb dX10_cells_33 (by decide) ?_
        refine cvI (As := [.int a1, .int 1]) (rest := []) F hK hP hS (c_X10_kindAt l D ad cI hap H.size _ _ _ _ hw) (cwV 2 hts gU_X10_185 rfl rfl rfl (by decide +kernel) ⟨Nat.le_of_ble_eq_true rfl, Nat.le_of_ble_eq_true rfl⟩) (va_recv hK hP (ci := 7) (q0 := 0) rfl rfl) rfl hl.1 rfl (Nat.le_of_ble_eq_true rfl) dX10_cells_34 ⟨Nat.zero_le _, Nat.zero_le _⟩ (fun r_62 u_61 H locs hw hP hS => ?_)
        refine lv_iconst (v := 1) hx hb dX10_cells_37 (by decide) ?_
        refine lv_icmp_eq (tgt := 50) hx hb dX10_cells_38 (by decide) (fun c_65 => ?_) (fun c_65 => ?_)
        · have hw := hw.1 c_65
          exact lab_50 _ _ _ _ _ _ _ _ hw hP hS (lv_sub hl [2, 3, 4, 1, 0] rfl)
        · have hw := hw.2 c_65
          refine lv_aload_n hx hb dX10_cells_41 rfl (lv_at hl 2 rfl) ?_
          refine lv_iload_n hx hb dX10_cells_42 rfl (lv_at hl 1 rfl) ?_
          refine lv_iload hx hb dX10_cells_43 (lv_at hl 0 rfl) ?_
          refine lv_iconst (v := 4) hx hb dX10_cells_45 (by decide) ?_
          refine cvI (As := [.int (gA σ 14 (a1).toNatClampNeg), .int (gA σ 15 (a1).toNatClampNeg), .int 4]) (rest := []) F hK hP hS (c_X10_faults l D ad cI hap H.size _ _ _ _ _ hw) (cwV 3 hts gU_X10_228 rfl rfl rfl (by decide +kernel) ⟨Nat.le_of_ble_eq_true rfl, Nat.le_of_ble_eq_true rfl⟩) (va_recv hK hP (ci := 7) (q0 := 0) rfl rfl) rfl hl.1 rfl (Nat.le_of_ble_eq_true rfl) dX10_cells_46 ⟨Nat.zero_le _, Nat.zero_le _⟩ (fun r_64 u_63 H locs hw hP hS => ?_)
          obtain ⟨zr_64, hw⟩ := hw
          exact rtZ F hr hlocks hK hw zr_64 hP hS dX10_cells_49
  exact key s.heap [] hP hS

abbrev rm_X10_goesOff : Room := { frames := 7, cells := 0, slots := 0, locals := 172 }
set_option maxHeartbeats 4000000 in
set_option maxRecDepth 100000 in
theorem c_X10_goesOff (l : Launch) (D : va_G) (ad : Nat → Nat) (cI : ClassId) (hap : apart ad 40) (sz : Nat) (σ : St) (a1 : Int32) (K : Int32 → St → Prop) (hw : w_X10_goesOff σ a1 K) : Met l yX10_goesOff wU_X10_goesOff rm_X10_goesOff (va_Pc [.ref (ad 0), .int a1] (fun U => U.heap.size = sz ∧ inW D (wdM ad cI) [(cI, .int)] σ U)) (va_Qi (fun r u => zb r ∧ K r u) (inW D (wdM ad cI) [(cI, .int)]) (AW ad 40 sz)) 0 0 (AW ad 40 sz) := by
  refine Met.ofW (cc := cX10_goesOff) (maxL := 6) (ret := (some .boolean)) (by decide) rfl ?_
  intro p e s m args below meth c s₁ B hml hv
  obtain ⟨rfl, hsz, ⟨hP, hK⟩⟩ := hv
  have F : CallFix p m c cX10_goesOff 6 s ([.ref (ad 0), .int a1] : List Value).toArray lw_U RX10 := ⟨B.exec, B.bytes, hml, findClass_of_methodNamed B.named, fun w h => atoms_spec (ws := wU_X10_goesOff) B.pre w (List.mem_cons_of_mem _ h)⟩
  have hx := F.1
  have hb := F.2.1
  have hown := F.2.2.2.1
  have hts := F.2.2.2.2
  have hr := B.returns
  have hlocks := B.notSynchronized
  subst hsz
  have hDs : ∀ σ, va_D (AW ad 40 s.heap.size) ((wdM ad cI) σ) := fun σ => wdM_D hap σ
  have hS : va_S (AW ad 40 s.heap.size) s.heap s.heap [] := va_S.rf
  have lab_197 : ∀ (σ : St) (x1 : Int32) (x2 : Int32) (x3 : Int32) (x4 : Int32) (t1 : Int32) (t2 : Int32) (H : Heap) (locs : List Loc) (ls : Array Slot), b_X10_goesOff_197 K σ x1 x2 x3 x4 t1 t2 → va_P D vwCl ((wdM ad cI) σ) H → va_S (AW ad 40 s.heap.size) s.heap H locs → lv_has ls 6 [(0, .ref (ad 0)), (1, .int x1), (2, .int x2), (3, .int x3), (4, .int x4)] → W p l e (headSpec wU_X10_goesOff rm_X10_goesOff).room s m ([.ref (ad 0), .int a1] : List Value).toArray below meth c H locs 0 0 (MQ below (va_Qi (fun r u => zb r ∧ K r u) (inW D (wdM ad cI) [(cI, .int)]) (AW ad 40 s.heap.size)) ([.ref (ad 0), .int a1] : List Value).toArray s 0 0 (AW ad 40 s.heap.size)) (F0 m 197 ls [.int t2, .int t1, .ref (ad 0)]) := by
    intro σ x1 x2 x3 x4 t1 t2 H locs ls hw hP hS hl
    unfold b_X10_goesOff_197 at hw
    refine cvI (As := [.int t1, .int t2]) (rest := []) F hK hP hS (c_X10_faultOf l D ad cI hap H.size _ _ _ _ hw) (cwV 2 hts gU_X10_209 rfl rfl rfl (by decide +kernel) ⟨Nat.le_of_ble_eq_true rfl, Nat.le_of_ble_eq_true rfl⟩) (va_recv hK hP (ci := 7) (q0 := 0) rfl rfl) rfl hl.1 rfl (Nat.le_of_ble_eq_true rfl) dX10_goesOff_197 ⟨Nat.zero_le _, Nat.zero_le _⟩ (fun r_2 u_1 H locs hw hP hS => ?_)
    refine lv_istore (lv' := [(5, .int r_2), (0, .ref (ad 0)), (1, .int x1), (2, .int x2), (3, .int x3), (4, .int x4)]) hx hb dX10_goesOff_200 hl (by decide) rfl (fun ls hl => ?_)
    refine lv_iload hx hb dX10_goesOff_202 (lv_at hl 0 rfl) ?_
    refine lv_if_lt (tgt := 238) hx hb dX10_goesOff_204 (by decide) (fun c_15 => ?_) (fun c_15 => ?_)
    · have hw := hw.1 c_15
      refine lv_iload hx hb dX10_goesOff_238 (lv_at hl 5 rfl) ?_
      refine lv_bipush (v := 9) hx hb dX10_goesOff_240 (by decide) ?_
      refine lv_icmp_le (tgt := 252) hx hb dX10_goesOff_242 (by decide) (fun c_10 => ?_) (fun c_10 => ?_)
      · have hw := hw.1 c_10
        refine lv_aload_n hx hb dX10_goesOff_252 rfl (lv_at hl 1 rfl) ?_
        refine lv_iload_n hx hb dX10_goesOff_253 rfl (lv_at hl 2 rfl) ?_
        refine lv_iload hx hb dX10_goesOff_254 (lv_at hl 5 rfl) ?_
        refine cvI (As := [.int x1, .int x4]) (rest := []) F hK hP hS (c_X10_reckons l D ad cI hap H.size _ _ _ _ hw) (cwV 2 hts gU_X10_212 rfl rfl rfl (by decide +kernel) ⟨Nat.le_of_ble_eq_true rfl, Nat.le_of_ble_eq_true rfl⟩) (va_recv hK hP (ci := 7) (q0 := 0) rfl rfl) rfl hl.1 rfl (Nat.le_of_ble_eq_true rfl) dX10_goesOff_256 ⟨Nat.zero_le _, Nat.zero_le _⟩ (fun r_4 u_3 H locs hw hP hS => ?_)
        obtain ⟨zr_4, hw⟩ := hw
        exact rtZ F hr hlocks hK hw zr_4 hP hS dX10_goesOff_259
      · have hw := hw.2 c_10
        refine lv_iload hx hb dX10_goesOff_245 (lv_at hl 5 rfl) ?_
        refine lv_bipush (v := 17) hx hb dX10_goesOff_247 (by decide) ?_
        refine lv_icmp_ne (tgt := 260) hx hb dX10_goesOff_249 (by decide) (fun c_9 => ?_) (fun c_9 => ?_)
        · have hw := hw.1 c_9
          refine lv_aload_n hx hb dX10_goesOff_260 rfl (lv_at hl 1 rfl) ?_
          refine lv_iload_n hx hb dX10_goesOff_261 rfl (lv_at hl 2 rfl) ?_
          refine lv_iload hx hb dX10_goesOff_262 (lv_at hl 5 rfl) ?_
          refine cvI (As := [.int x1, .int x4]) (rest := []) F hK hP hS (c_X10_cells l D ad cI hap H.size _ _ _ _ hw) (cwV 2 hts gU_X10_215 rfl rfl rfl (by decide +kernel) ⟨Nat.le_of_ble_eq_true rfl, Nat.le_of_ble_eq_true rfl⟩) (va_recv hK hP (ci := 7) (q0 := 0) rfl rfl) rfl hl.1 rfl (Nat.le_of_ble_eq_true rfl) dX10_goesOff_264 ⟨Nat.zero_le _, Nat.zero_le _⟩ (fun r_6 u_5 H locs hw hP hS => ?_)
          obtain ⟨zr_6, hw⟩ := hw
          exact rtZ F hr hlocks hK hw zr_6 hP hS dX10_goesOff_267
        · have hw := hw.2 c_9
          refine lv_aload_n hx hb dX10_goesOff_252 rfl (lv_at hl 1 rfl) ?_
          refine lv_iload_n hx hb dX10_goesOff_253 rfl (lv_at hl 2 rfl) ?_
          refine lv_iload hx hb dX10_goesOff_254 (lv_at hl 5 rfl) ?_
          refine cvI (As := [.int x1, .int x4]) (rest := []) F hK hP hS (c_X10_reckons l D ad cI hap H.size _ _ _ _ hw) (cwV 2 hts gU_X10_212 rfl rfl rfl (by decide +kernel) ⟨Nat.le_of_ble_eq_true rfl, Nat.le_of_ble_eq_true rfl⟩) (va_recv hK hP (ci := 7) (q0 := 0) rfl rfl) rfl hl.1 rfl (Nat.le_of_ble_eq_true rfl) dX10_goesOff_256 ⟨Nat.zero_le _, Nat.zero_le _⟩ (fun r_8 u_7 H locs hw hP hS => ?_)
          obtain ⟨zr_8, hw⟩ := hw
          exact rtZ F hr hlocks hK hw zr_8 hP hS dX10_goesOff_259
    · have hw := hw.2 c_15
      refine lv_aload_n hx hb dX10_goesOff_207 rfl (lv_at hl 1 rfl) ?_
      refine lv_iload_n hx hb dX10_goesOff_208 rfl (lv_at hl 3 rfl) ?_
      refine lv_iconst (v := 0) hx hb dX10_goesOff_209 (by decide) ?_
      refine lv_iload_n hx hb dX10_goesOff_210 rfl (lv_at hl 4 rfl) ?_
      refine lv_iconst (v := 3) hx hb dX10_goesOff_211 (by decide) ?_
      refine lv_aload_n hx hb dX10_goesOff_212 rfl (lv_at hl 1 rfl) ?_
      refine gM_X10_pValue F hK hP (hts _ mw_483) dX10_goesOff_213 ?_
      refine lv_iconst (v := 3) hx hb dX10_goesOff_216 (by decide) ?_
      refine lv_iload_n hx hb dX10_goesOff_217 rfl (lv_at hl 2 rfl) ?_
      refine lv_imul hx hb dX10_goesOff_218 ?_
      refine lv_iload hx hb dX10_goesOff_219 (lv_at hl 0 rfl) ?_
      refine lv_iadd hx hb dX10_goesOff_221 ?_
      obtain ⟨i_14, hw⟩ := hw
      refine lM_X10_pValue F hK hP i_14 dX10_goesOff_222 ?_
      refine lv_aload_n hx hb dX10_goesOff_223 rfl (lv_at hl 1 rfl) ?_
      refine gM_X10_pOf F hK hP (hts _ mw_484) dX10_goesOff_224 ?_
      refine lv_iconst (v := 3) hx hb dX10_goesOff_227 (by decide) ?_
      refine lv_iload_n hx hb dX10_goesOff_228 rfl (lv_at hl 2 rfl) ?_
      refine lv_imul hx hb dX10_goesOff_229 ?_
      refine lv_iload hx hb dX10_goesOff_230 (lv_at hl 0 rfl) ?_
      refine lv_iadd hx hb dX10_goesOff_232 ?_
      obtain ⟨i_13, hw⟩ := hw
      refine lM_X10_pOf F hK hP i_13 dX10_goesOff_233 ?_
      refine cvI (As := [.int x2, .int 0, .int x3, .int 3, .int (gA u_1 20 (((3 * x1) + r_2)).toNatClampNeg), .int (gA u_1 21 (((3 * x1) + r_2)).toNatClampNeg)]) (rest := []) F hK hP hS (c_X10_gives l D ad cI hap H.size _ _ _ _ _ _ _ _ hw) (cwV 6 hts gU_X10_182 rfl rfl rfl (by decide +kernel) ⟨Nat.le_of_ble_eq_true rfl, Nat.le_of_ble_eq_true rfl⟩) (va_recv hK hP (ci := 7) (q0 := 0) rfl rfl) rfl hl.1 rfl (Nat.le_of_ble_eq_true rfl) dX10_goesOff_234 ⟨Nat.zero_le _, Nat.zero_le _⟩ (fun r_12 u_11 H locs hw hP hS => ?_)
      obtain ⟨zr_12, hw⟩ := hw
      exact rtZ F hr hlocks hK hw zr_12 hP hS dX10_goesOff_237
  have hl := lv_entry ([.ref (ad 0), .int a1]) (n := 6) (Nat.le_of_ble_eq_true rfl)
  rw [lg_entry_eq]
  generalize (lg_sl ([.ref (ad 0), .int a1]) ++ List.replicate (6 - (lg_sl ([.ref (ad 0), .int a1])).length) Slot.unset).toArray = ls at hl ⊢
  have hl : lv_has ls 6 [(0, .ref (ad 0)), (1, .int a1)] := hl
  have key : ∀ (H : Heap) (locs : List Loc), va_P D vwCl ((wdM ad cI) σ) H → va_S (AW ad 40 s.heap.size) s.heap H locs → W p l e (headSpec wU_X10_goesOff rm_X10_goesOff).room s m ([.ref (ad 0), .int a1] : List Value).toArray below meth c H locs 0 0 (MQ below (va_Qi (fun r u => zb r ∧ K r u) (inW D (wdM ad cI) [(cI, .int)]) (AW ad 40 s.heap.size)) ([.ref (ad 0), .int a1] : List Value).toArray s 0 0 (AW ad 40 s.heap.size)) (F0 m 0 ls []) := by
    intro H locs hP hS
    unfold w_X10_goesOff at hw
    refine lv_aload_n hx hb dX10_goesOff_0 rfl (lv_at hl 0 rfl) ?_
    refine gM_X10_pAct F hK hP (hts _ mw_472) dX10_goesOff_1 ?_
    refine lv_iload_n hx hb dX10_goesOff_4 rfl (lv_at hl 1 rfl) ?_
    obtain ⟨i_60, hw⟩ := hw
    refine lM_X10_pAct F hK hP i_60 dX10_goesOff_5 ?_
    refine lv_istore_n (lv' := [(2, .int (gA σ 14 (a1).toNatClampNeg)), (0, .ref (ad 0)), (1, .int a1)]) hx hb dX10_goesOff_6 rfl hl (by decide) rfl (fun ls hl => ?_)
    refine lv_aload_n hx hb dX10_goesOff_7 rfl (lv_at hl 1 rfl) ?_
    refine gM_X10_pColour F hK hP (hts _ mw_473) dX10_goesOff_8 ?_
    refine lv_iload_n hx hb dX10_goesOff_11 rfl (lv_at hl 2 rfl) ?_
    obtain ⟨i_59, hw⟩ := hw
    refine lM_X10_pColour F hK hP i_59 dX10_goesOff_12 ?_
    refine lv_istore_n (lv' := [(3, .int (gA σ 15 (a1).toNatClampNeg)), (2, .int (gA σ 14 (a1).toNatClampNeg)), (0, .ref (ad 0)), (1, .int a1)]) hx hb dX10_goesOff_13 rfl hl (by decide) rfl (fun ls hl => ?_)
    refine lv_aload_n hx hb dX10_goesOff_14 rfl (lv_at hl 2 rfl) ?_
    refine gM_X10_kind F hK hP (hts _ mw_439) dX10_goesOff_15 ?_
    refine lv_iload_n hx hb dX10_goesOff_18 rfl (lv_at hl 1 rfl) ?_
    obtain ⟨i_58, hw⟩ := hw
    refine lM_X10_kind F hK hP i_58 dX10_goesOff_19 ?_
    refine lv_istore (lv' := [(4, .int (gA σ 0 ((gA σ 14 (a1).toNatClampNeg)).toNatClampNeg)), (3, .int (gA σ 15 (a1).toNatClampNeg)), (2, .int (gA σ 14 (a1).toNatClampNeg)), (0, .ref (ad 0)), (1, .int a1)]) hx hb dX10_goesOff_20 hl (by decide) rfl (fun ls hl => ?_)
    refine lv_iload hx hb dX10_goesOff_22 (lv_at hl 0 rfl) ?_
    by_cases k_16 : (gA σ 0 ((gA σ 14 (a1).toNatClampNeg)).toNatClampNeg) = 0 ∨ (gA σ 0 ((gA σ 14 (a1).toNatClampNeg)).toNatClampNeg) = 15
    · have hw := hw.1 k_16
      have kd : W p l e (headSpec wU_X10_goesOff rm_X10_goesOff).room s m ([.ref (ad 0), .int a1] : List Value).toArray below meth c H locs 0 0 (MQ below (va_Qi (fun r u => zb r ∧ K r u) (inW D (wdM ad cI) [(cI, .int)]) (AW ad 40 s.heap.size)) ([.ref (ad 0), .int a1] : List Value).toArray s 0 0 (AW ad 40 s.heap.size)) (F0 m 128 ls []) := by
        refine lv_aload_n hx hb dX10_goesOff_128 rfl (lv_at hl 3 rfl) ?_
        refine lv_iload_n hx hb dX10_goesOff_129 rfl (lv_at hl 4 rfl) ?_
        refine lv_iconst (v := 0) hx hb dX10_goesOff_130 (by decide) ?_
        refine lv_iload_n hx hb dX10_goesOff_131 rfl (lv_at hl 1 rfl) ?_
        refine cvI (As := [.int a1, .int 0, .int (gA σ 15 (a1).toNatClampNeg)]) (rest := []) F hK hP hS (c_X10_passes l D ad cI hap H.size _ _ _ _ _ hw) (cwV 3 hts gU_X10_188 rfl rfl rfl (by decide +kernel) ⟨Nat.le_of_ble_eq_true rfl, Nat.le_of_ble_eq_true rfl⟩) (va_recv hK hP (ci := 7) (q0 := 0) rfl rfl) rfl hl.1 rfl (Nat.le_of_ble_eq_true rfl) dX10_goesOff_132 ⟨Nat.zero_le _, Nat.zero_le _⟩ (fun r_18 u_17 H locs hw hP hS => ?_)
        obtain ⟨zr_18, hw⟩ := hw
        exact rtZ F hr hlocks hK hw zr_18 hP hS dX10_goesOff_135
      rcases k_16 with k_57 | k_57
      · exact sw_in 0 (tgt := 128) F dX10_goesOff_24 k_57 (by decide) (by decide) rfl (by decide) kd
      · exact sw_in 15 (tgt := 128) F dX10_goesOff_24 k_57 (by decide) (by decide) rfl (by decide) kd
    · have hw := hw.2 k_16
      by_cases k_19 : (gA σ 0 ((gA σ 14 (a1).toNatClampNeg)).toNatClampNeg) = 1
      · have hw := hw.1 k_19
        refine sw_in 1 (tgt := 136) F dX10_goesOff_24 k_19 (by decide) (by decide) rfl (by decide) ?_
        refine lv_aload_n hx hb dX10_goesOff_136 rfl (lv_at hl 3 rfl) ?_
        refine lv_iload_n hx hb dX10_goesOff_137 rfl (lv_at hl 4 rfl) ?_
        refine lv_aload_n hx hb dX10_goesOff_138 rfl (lv_at hl 3 rfl) ?_
        refine gM_X10_own F hK hP (hts _ mw_440) dX10_goesOff_139 ?_
        refine lv_iload_n hx hb dX10_goesOff_142 rfl (lv_at hl 2 rfl) ?_
        obtain ⟨i_22, hw⟩ := hw
        refine lM_X10_own F hK hP i_22 dX10_goesOff_143 ?_
        refine cvI (As := [.int a1, .int (gA σ 1 ((gA σ 14 (a1).toNatClampNeg)).toNatClampNeg)]) (rest := []) F hK hP hS (c_X10_number l D ad cI hap H.size _ _ _ _ hw) (cwV 2 hts gU_X10_191 rfl rfl rfl (by decide +kernel) ⟨Nat.le_of_ble_eq_true rfl, Nat.le_of_ble_eq_true rfl⟩) (va_recv hK hP (ci := 7) (q0 := 0) rfl rfl) rfl hl.1 rfl (Nat.le_of_ble_eq_true rfl) dX10_goesOff_144 ⟨Nat.zero_le _, Nat.zero_le _⟩ (fun r_21 u_20 H locs hw hP hS => ?_)
        obtain ⟨zr_21, hw⟩ := hw
        exact rtZ F hr hlocks hK hw zr_21 hP hS dX10_goesOff_147
      · have hw := hw.2 k_19
        by_cases k_23 : (gA σ 0 ((gA σ 14 (a1).toNatClampNeg)).toNatClampNeg) = 10
        · have hw := hw.1 k_23
          refine sw_in 10 (tgt := 148) F dX10_goesOff_24 k_23 (by decide) (by decide) rfl (by decide) ?_
          refine lv_aload_n hx hb dX10_goesOff_148 rfl (lv_at hl 3 rfl) ?_
          refine lv_iload_n hx hb dX10_goesOff_149 rfl (lv_at hl 4 rfl) ?_
          refine cvI (As := [.int a1]) (rest := []) F hK hP hS (c_X10_switches l D ad cI hap H.size _ _ _ hw) (cwV 1 hts gU_X10_194 rfl rfl rfl (by decide +kernel) ⟨Nat.le_of_ble_eq_true rfl, Nat.le_of_ble_eq_true rfl⟩) (va_recv hK hP (ci := 7) (q0 := 0) rfl rfl) rfl hl.1 rfl (Nat.le_of_ble_eq_true rfl) dX10_goesOff_150 ⟨Nat.zero_le _, Nat.zero_le _⟩ (fun r_25 u_24 H locs hw hP hS => ?_)
          obtain ⟨zr_25, hw⟩ := hw
          exact rtZ F hr hlocks hK hw zr_25 hP hS dX10_goesOff_153
        · have hw := hw.2 k_23
          by_cases k_26 : (gA σ 0 ((gA σ 14 (a1).toNatClampNeg)).toNatClampNeg) = 11 ∨ (gA σ 0 ((gA σ 14 (a1).toNatClampNeg)).toNatClampNeg) = 12 ∨ (gA σ 0 ((gA σ 14 (a1).toNatClampNeg)).toNatClampNeg) = 13
          · have hw := hw.1 k_26
            have kd : W p l e (headSpec wU_X10_goesOff rm_X10_goesOff).room s m ([.ref (ad 0), .int a1] : List Value).toArray below meth c H locs 0 0 (MQ below (va_Qi (fun r u => zb r ∧ K r u) (inW D (wdM ad cI) [(cI, .int)]) (AW ad 40 s.heap.size)) ([.ref (ad 0), .int a1] : List Value).toArray s 0 0 (AW ad 40 s.heap.size)) (F0 m 154 ls []) := by
              refine lv_aload_n hx hb dX10_goesOff_154 rfl (lv_at hl 3 rfl) ?_
              refine lv_iload_n hx hb dX10_goesOff_155 rfl (lv_at hl 4 rfl) ?_
              refine cvI (As := [.int a1]) (rest := []) F hK hP hS (c_X10_loops l D ad cI hap H.size _ _ _ hw) (cwV 1 hts gU_X10_197 rfl rfl rfl (by decide +kernel) ⟨Nat.le_of_ble_eq_true rfl, Nat.le_of_ble_eq_true rfl⟩) (va_recv hK hP (ci := 7) (q0 := 0) rfl rfl) rfl hl.1 rfl (Nat.le_of_ble_eq_true rfl) dX10_goesOff_156 ⟨Nat.zero_le _, Nat.zero_le _⟩ (fun r_28 u_27 H locs hw hP hS => ?_)
              obtain ⟨zr_28, hw⟩ := hw
              exact rtZ F hr hlocks hK hw zr_28 hP hS dX10_goesOff_159
            rcases k_26 with k_54 | k_54 | k_54
            · exact sw_in 11 (tgt := 154) F dX10_goesOff_24 k_54 (by decide) (by decide) rfl (by decide) kd
            · exact sw_in 12 (tgt := 154) F dX10_goesOff_24 k_54 (by decide) (by decide) rfl (by decide) kd
            · exact sw_in 13 (tgt := 154) F dX10_goesOff_24 k_54 (by decide) (by decide) rfl (by decide) kd
          · have hw := hw.2 k_26
            by_cases k_29 : (gA σ 0 ((gA σ 14 (a1).toNatClampNeg)).toNatClampNeg) = 14
            · have hw := hw.1 k_29
              refine sw_in 14 (tgt := 160) F dX10_goesOff_24 k_29 (by decide) (by decide) rfl (by decide) ?_
              refine lv_aload_n hx hb dX10_goesOff_160 rfl (lv_at hl 3 rfl) ?_
              refine lv_iload_n hx hb dX10_goesOff_161 rfl (lv_at hl 4 rfl) ?_
              refine cvI (As := [.int a1]) (rest := []) F hK hP hS (c_X10_calls l D ad cI hap H.size _ _ _ hw) (cwV 1 hts gU_X10_200 rfl rfl rfl (by decide +kernel) ⟨Nat.le_of_ble_eq_true rfl, Nat.le_of_ble_eq_true rfl⟩) (va_recv hK hP (ci := 7) (q0 := 0) rfl rfl) rfl hl.1 rfl (Nat.le_of_ble_eq_true rfl) dX10_goesOff_162 ⟨Nat.zero_le _, Nat.zero_le _⟩ (fun r_31 u_30 H locs hw hP hS => ?_)
              obtain ⟨zr_31, hw⟩ := hw
              exact rtZ F hr hlocks hK hw zr_31 hP hS dX10_goesOff_165
            · have hw := hw.2 k_29
              by_cases k_32 : (gA σ 0 ((gA σ 14 (a1).toNatClampNeg)).toNatClampNeg) = 16
              · have hw := hw.1 k_32
                refine sw_in 16 (tgt := 166) F dX10_goesOff_24 k_32 (by decide) (by decide) rfl (by decide) ?_
                refine lv_aload_n hx hb dX10_goesOff_166 rfl (lv_at hl 3 rfl) ?_
                refine lv_iload_n hx hb dX10_goesOff_167 rfl (lv_at hl 4 rfl) ?_
                refine cvI (As := [.int a1]) (rest := []) F hK hP hS (c_X10_returns l D ad cI hap H.size _ _ _ hw) (cwV 1 hts gU_X10_203 rfl rfl rfl (by decide +kernel) ⟨Nat.le_of_ble_eq_true rfl, Nat.le_of_ble_eq_true rfl⟩) (va_recv hK hP (ci := 7) (q0 := 0) rfl rfl) rfl hl.1 rfl (Nat.le_of_ble_eq_true rfl) dX10_goesOff_168 ⟨Nat.zero_le _, Nat.zero_le _⟩ (fun r_34 u_33 H locs hw hP hS => ?_)
                obtain ⟨zr_34, hw⟩ := hw
                exact rtZ F hr hlocks hK hw zr_34 hP hS dX10_goesOff_171
              · have hw := hw.2 k_32
                by_cases k_35 : (gA σ 0 ((gA σ 14 (a1).toNatClampNeg)).toNatClampNeg) = 21
                · have hw := hw.1 k_35
                  refine sw_in 21 (tgt := 172) F dX10_goesOff_24 k_35 (by decide) (by decide) rfl (by decide) ?_
                  refine lv_aload_n hx hb dX10_goesOff_172 rfl (lv_at hl 3 rfl) ?_
                  refine lv_iload_n hx hb dX10_goesOff_173 rfl (lv_at hl 4 rfl) ?_
                  refine cvI (As := [.int a1]) (rest := []) F hK hP hS (c_X10_ends l D ad cI hap H.size _ _ _ hw) (cwV 1 hts gU_X10_206 rfl rfl rfl (by decide +kernel) ⟨Nat.le_of_ble_eq_true rfl, Nat.le_of_ble_eq_true rfl⟩) (va_recv hK hP (ci := 7) (q0 := 0) rfl rfl) rfl hl.1 rfl (Nat.le_of_ble_eq_true rfl) dX10_goesOff_174 ⟨Nat.zero_le _, Nat.zero_le _⟩ (fun r_37 u_36 H locs hw hP hS => ?_)
                  obtain ⟨zr_37, hw⟩ := hw
                  exact rtZ F hr hlocks hK hw zr_37 hP hS dX10_goesOff_177
                · have hw := hw.2 k_35
                  have z_40 : ¬ (gA σ 0 ((gA σ 14 (a1).toNatClampNeg)).toNatClampNeg).toInt = 0 := lv_neT (fun z => k_16 (Or.inl z)) (k := 0) (by decide)
                  have z_41 : ¬ (gA σ 0 ((gA σ 14 (a1).toNatClampNeg)).toNatClampNeg).toInt = 15 := lv_neT (fun z => k_16 (Or.inr z)) (k := 15) (by decide)
                  have z_42 : ¬ (gA σ 0 ((gA σ 14 (a1).toNatClampNeg)).toNatClampNeg).toInt = 1 := lv_neT (fun z => k_19 z) (k := 1) (by decide)
                  have z_43 : ¬ (gA σ 0 ((gA σ 14 (a1).toNatClampNeg)).toNatClampNeg).toInt = 10 := lv_neT (fun z => k_23 z) (k := 10) (by decide)
                  have z_44 : ¬ (gA σ 0 ((gA σ 14 (a1).toNatClampNeg)).toNatClampNeg).toInt = 11 := lv_neT (fun z => k_26 (Or.inl z)) (k := 11) (by decide)
                  have z_45 : ¬ (gA σ 0 ((gA σ 14 (a1).toNatClampNeg)).toNatClampNeg).toInt = 12 := lv_neT (fun z => k_26 (Or.inr (Or.inl z))) (k := 12) (by decide)
                  have z_46 : ¬ (gA σ 0 ((gA σ 14 (a1).toNatClampNeg)).toNatClampNeg).toInt = 13 := lv_neT (fun z => k_26 (Or.inr (Or.inr z))) (k := 13) (by decide)
                  have z_47 : ¬ (gA σ 0 ((gA σ 14 (a1).toNatClampNeg)).toNatClampNeg).toInt = 14 := lv_neT (fun z => k_29 z) (k := 14) (by decide)
                  have z_48 : ¬ (gA σ 0 ((gA σ 14 (a1).toNatClampNeg)).toNatClampNeg).toInt = 16 := lv_neT (fun z => k_32 z) (k := 16) (by decide)
                  have z_49 : ¬ (gA σ 0 ((gA σ 14 (a1).toNatClampNeg)).toNatClampNeg).toInt = 21 := lv_neT (fun z => k_35 z) (k := 21) (by decide)
                  have kd : W p l e (headSpec wU_X10_goesOff rm_X10_goesOff).room s m ([.ref (ad 0), .int a1] : List Value).toArray below meth c H locs 0 0 (MQ below (va_Qi (fun r u => zb r ∧ K r u) (inW D (wdM ad cI) [(cI, .int)]) (AW ad 40 s.heap.size)) ([.ref (ad 0), .int a1] : List Value).toArray s 0 0 (AW ad 40 s.heap.size)) (F0 m 178 ls []) := by
                    refine lv_aload_n hx hb dX10_goesOff_178 rfl (lv_at hl 3 rfl) ?_
                    refine lv_iload_n hx hb dX10_goesOff_179 rfl (lv_at hl 4 rfl) ?_
                    refine lv_iload hx hb dX10_goesOff_180 (lv_at hl 0 rfl) ?_
                    refine lv_bipush (v := 19) hx hb dX10_goesOff_182 (by decide) ?_
                    refine lv_icmp_ne (tgt := 191) hx hb dX10_goesOff_184 (by decide) (fun c_39 => ?_) (fun c_39 => ?_)
                    · have hw := hw.1 c_39
                      refine lv_aload_n hx hb dX10_goesOff_191 rfl (lv_at hl 3 rfl) ?_
                      refine gM_X10_ports F hK hP (hts _ mw_441) dX10_goesOff_192 ?_
                      refine lv_iload_n hx hb dX10_goesOff_195 rfl (lv_at hl 2 rfl) ?_
                      obtain ⟨i_38, hw⟩ := hw
                      refine lM_X10_ports F hK hP i_38 dX10_goesOff_196 ?_
                      exact lab_197 _ _ _ _ _ _ _ _ _ _ hw hP hS (lv_sub hl [3, 4, 2, 1, 0] rfl)
                    · have hw := hw.2 c_39
                      refine lv_iconst (v := 2) hx hb dX10_goesOff_187 (by decide) ?_
                      refine lv_goto (tgt := 197) hx hb dX10_goesOff_188 (by decide) ?_
                      exact lab_197 _ _ _ _ _ _ _ _ _ _ hw hP hS (lv_sub hl [3, 4, 2, 1, 0] rfl)
                  rcases (show ((gA σ 0 ((gA σ 14 (a1).toNatClampNeg)).toNatClampNeg).toInt < 0 ∨ 21 < (gA σ 0 ((gA σ 14 (a1).toNatClampNeg)).toNatClampNeg).toInt) ∨ ((gA σ 0 ((gA σ 14 (a1).toNatClampNeg)).toNatClampNeg).toInt = 2) ∨ ((gA σ 0 ((gA σ 14 (a1).toNatClampNeg)).toNatClampNeg).toInt = 3) ∨ ((gA σ 0 ((gA σ 14 (a1).toNatClampNeg)).toNatClampNeg).toInt = 4) ∨ ((gA σ 0 ((gA σ 14 (a1).toNatClampNeg)).toNatClampNeg).toInt = 5) ∨ ((gA σ 0 ((gA σ 14 (a1).toNatClampNeg)).toNatClampNeg).toInt = 6) ∨ ((gA σ 0 ((gA σ 14 (a1).toNatClampNeg)).toNatClampNeg).toInt = 7) ∨ ((gA σ 0 ((gA σ 14 (a1).toNatClampNeg)).toNatClampNeg).toInt = 8) ∨ ((gA σ 0 ((gA σ 14 (a1).toNatClampNeg)).toNatClampNeg).toInt = 9) ∨ ((gA σ 0 ((gA σ 14 (a1).toNatClampNeg)).toNatClampNeg).toInt = 17) ∨ ((gA σ 0 ((gA σ 14 (a1).toNatClampNeg)).toNatClampNeg).toInt = 18) ∨ ((gA σ 0 ((gA σ 14 (a1).toNatClampNeg)).toNatClampNeg).toInt = 19) ∨ ((gA σ 0 ((gA σ 14 (a1).toNatClampNeg)).toNatClampNeg).toInt = 20) by omega) with o_50 | o_50 | o_50 | o_50 | o_50 | o_50 | o_50 | o_50 | o_50 | o_50 | o_50 | o_50 | o_50
                  · exact lv_tableOut (tgt := 178) hx hb dX10_goesOff_24 o_50 (by decide) kd
                  · exact sw_in 2 (tgt := 178) F dX10_goesOff_24 (Int32.toInt_inj.mp (by rw [o_50]; decide)) (by decide) (by decide) rfl (by decide) kd
                  · exact sw_in 3 (tgt := 178) F dX10_goesOff_24 (Int32.toInt_inj.mp (by rw [o_50]; decide)) (by decide) (by decide) rfl (by decide) kd
                  · exact sw_in 4 (tgt := 178) F dX10_goesOff_24 (Int32.toInt_inj.mp (by rw [o_50]; decide)) (by decide) (by decide) rfl (by decide) kd
                  · exact sw_in 5 (tgt := 178) F dX10_goesOff_24 (Int32.toInt_inj.mp (by rw [o_50]; decide)) (by decide) (by decide) rfl (by decide) kd
                  · exact sw_in 6 (tgt := 178) F dX10_goesOff_24 (Int32.toInt_inj.mp (by rw [o_50]; decide)) (by decide) (by decide) rfl (by decide) kd
                  · exact sw_in 7 (tgt := 178) F dX10_goesOff_24 (Int32.toInt_inj.mp (by rw [o_50]; decide)) (by decide) (by decide) rfl (by decide) kd
                  · exact sw_in 8 (tgt := 178) F dX10_goesOff_24 (Int32.toInt_inj.mp (by rw [o_50]; decide)) (by decide) (by decide) rfl (by decide) kd
                  · exact sw_in 9 (tgt := 178) F dX10_goesOff_24 (Int32.toInt_inj.mp (by rw [o_50]; decide)) (by decide) (by decide) rfl (by decide) kd
                  · exact sw_in 17 (tgt := 178) F dX10_goesOff_24 (Int32.toInt_inj.mp (by rw [o_50]; decide)) (by decide) (by decide) rfl (by decide) kd
                  · exact sw_in 18 (tgt := 178) F dX10_goesOff_24 (Int32.toInt_inj.mp (by rw [o_50]; decide)) (by decide) (by decide) rfl (by decide) kd
                  · exact sw_in 19 (tgt := 178) F dX10_goesOff_24 (Int32.toInt_inj.mp (by rw [o_50]; decide)) (by decide) (by decide) rfl (by decide) kd
                  · exact sw_in 20 (tgt := 178) F dX10_goesOff_24 (Int32.toInt_inj.mp (by rw [o_50]; decide)) (by decide) (by decide) rfl (by decide) kd
  exact key s.heap [] hP hS

abbrev rm_X10_begins : Room := { frames := 3, cells := 0, slots := 0, locals := 72 }
set_option maxHeartbeats 4000000 in
set_option maxRecDepth 100000 in
theorem c_X10_begins (l : Launch) (D : va_G) (ad : Nat → Nat) (cI : ClassId) (hap : apart ad 40) (sz : Nat) (σ : St) (K : St → Prop) (hw : w_X10_begins σ K) : Met l yX10_begins wU_X10_begins rm_X10_begins (va_Pc [.ref (ad 0)] (fun U => U.heap.size = sz ∧ inW D (wdM ad cI) [(cI, .int)] σ U)) (va_Qv K (inW D (wdM ad cI) [(cI, .int)]) (AW ad 40 sz)) 0 0 (AW ad 40 sz) := by
  refine Met.ofW (cc := cX10_begins) (maxL := 3) (ret := none) (by decide) rfl ?_
  intro p e s m args below meth c s₁ B hml hv
  obtain ⟨rfl, hsz, ⟨hP, hK⟩⟩ := hv
  have F : CallFix p m c cX10_begins 3 s ([.ref (ad 0)] : List Value).toArray lw_U RX10 := ⟨B.exec, B.bytes, hml, findClass_of_methodNamed B.named, fun w h => atoms_spec (ws := wU_X10_begins) B.pre w (List.mem_cons_of_mem _ h)⟩
  have hx := F.1
  have hb := F.2.1
  have hown := F.2.2.2.1
  have hts := F.2.2.2.2
  have hr := B.returns
  have hlocks := B.notSynchronized
  subst hsz
  have hDs : ∀ σ, va_D (AW ad 40 s.heap.size) ((wdM ad cI) σ) := fun σ => wdM_D hap σ
  have hS : va_S (AW ad 40 s.heap.size) s.heap s.heap [] := va_S.rf
  have lab_135 : ∀ (n : Nat), ∀ (σ : St) (x1 : Int32) (x2 : Int32) (H : Heap) (locs : List Loc) (ls : Array Slot), w_X10_begins_135 K n σ x1 x2 → va_P D vwCl ((wdM ad cI) σ) H → va_S (AW ad 40 s.heap.size) s.heap H locs → lv_has ls 3 [(0, .ref (ad 0)), (1, .int x1), (2, .int x2)] → W p l e (headSpec wU_X10_begins rm_X10_begins).room s m ([.ref (ad 0)] : List Value).toArray below meth c H locs 0 0 (MQ below (va_Qv K (inW D (wdM ad cI) [(cI, .int)]) (AW ad 40 s.heap.size)) ([.ref (ad 0)] : List Value).toArray s 0 0 (AW ad 40 s.heap.size)) (F0 m 135 ls []) := by
    intro n
    induction n with
    | zero =>
      intro σ x1 x2 H locs ls hw
      exact hw.elim
    | succ n hL135 =>
      intro σ x1 x2 H locs ls hw hP hS hl
      have hw : b_X10_begins_135 (w_X10_begins_135 K n) K σ x1 x2 := hw
      unfold b_X10_begins_135 at hw
      generalize w_X10_begins_135 K n = L135 at hw hL135
      refine lv_iload_n hx hb dX10_begins_135 rfl (lv_at hl 2 rfl) ?_
      refine lv_aload_n hx hb dX10_begins_136 rfl (lv_at hl 0 rfl) ?_
      refine gM_X10_tokens F hK hP (hts _ mw_454) dX10_begins_137 ?_
      refine lv_icmp_ge (tgt := 182) hx hb dX10_begins_140 (by decide) (fun c_7 => ?_) (fun c_7 => ?_)
      · have hw := hw.1 c_7
        exact rtV F hr hlocks hK hw hP hS dX10_begins_182
      · have hw := hw.2 c_7
        refine lv_aload_n hx hb dX10_begins_143 rfl (lv_at hl 0 rfl) ?_
        refine gM_X10_isStopped F hK hP (hts _ mw_461) dX10_begins_144 ?_
        refine lv_if_ne (tgt := 182) hx hb dX10_begins_147 (by decide) (fun c_6 => ?_) (fun c_6 => ?_)
        · have hw := hw.1 c_6
          exact rtV F hr hlocks hK hw hP hS dX10_begins_182
        · have hw := hw.2 c_6
          refine lv_aload_n hx hb dX10_begins_150 rfl (lv_at hl 0 rfl) ?_
          refine lv_aload_n hx hb dX10_begins_151 rfl (lv_at hl 0 rfl) ?_
          refine gM_X10_tokenAct F hK hP (hts _ mw_455) dX10_begins_152 ?_
          refine lv_iload_n hx hb dX10_begins_155 rfl (lv_at hl 2 rfl) ?_
          obtain ⟨i_5, hw⟩ := hw
          refine lM_X10_tokenAct F hK hP i_5 dX10_begins_156 ?_
          refine lv_aload_n hx hb dX10_begins_157 rfl (lv_at hl 0 rfl) ?_
          refine gM_X10_tokenPort F hK hP (hts _ mw_456) dX10_begins_158 ?_
          refine lv_iload_n hx hb dX10_begins_161 rfl (lv_at hl 2 rfl) ?_
          obtain ⟨i_4, hw⟩ := hw
          refine lM_X10_tokenPort F hK hP i_4 dX10_begins_162 ?_
          refine lv_iload_n hx hb dX10_begins_163 rfl (lv_at hl 1 rfl) ?_
          refine lv_iconst (v := 1) hx hb dX10_begins_164 (by decide) ?_
          refine lv_aload_n hx hb dX10_begins_165 rfl (lv_at hl 0 rfl) ?_
          refine gM_X10_tokenValue F hK hP (hts _ mw_457) dX10_begins_166 ?_
          refine lv_iload_n hx hb dX10_begins_169 rfl (lv_at hl 2 rfl) ?_
          obtain ⟨i_3, hw⟩ := hw
          refine lM_X10_tokenValue F hK hP i_3 dX10_begins_170 ?_
          refine lv_iconst (v := (-1)) hx hb dX10_begins_171 (by decide) ?_
          refine cvI (As := [.int (gA σ 7 (x2).toNatClampNeg), .int (gA σ 8 (x2).toNatClampNeg), .int x1, .int 1, .int (gA σ 9 (x2).toNatClampNeg), .int (-1)]) (rest := []) F hK hP hS (c_X10_comes l D ad cI hap H.size _ _ _ _ _ _ _ _ hw) (cwV 6 hts gU_X10_178 rfl rfl rfl (by decide +kernel) ⟨Nat.le_of_ble_eq_true rfl, Nat.le_of_ble_eq_true rfl⟩) (va_recv hK hP (ci := 7) (q0 := 0) rfl rfl) rfl hl.1 rfl (Nat.le_of_ble_eq_true rfl) dX10_begins_172 ⟨Nat.zero_le _, Nat.zero_le _⟩ (fun r_2 u_1 H locs hw hP hS => ?_)
          obtain ⟨zr_2, hw⟩ := hw
          refine lv_pop hx hb dX10_begins_175 rfl ?_
          refine lv_iinc (v := (x2 + 1)) (lv' := [(2, .int (x2 + 1)), (0, .ref (ad 0)), (1, .int x1)]) hx hb dX10_begins_176 hl (k := 2) rfl rfl (by decide) rfl (fun ls hl => ?_)
          refine lv_goto (tgt := 135) hx hb dX10_begins_179 (by decide) ?_
          exact hL135 _ _ _ _ _ _ hw hP hS (lv_sub hl [1, 2, 0] rfl)
  have lab_105 : ∀ (n : Nat), ∀ (σ : St) (x1 : Int32) (H : Heap) (locs : List Loc) (ls : Array Slot), w_X10_begins_105 K n σ x1 → va_P D vwCl ((wdM ad cI) σ) H → va_S (AW ad 40 s.heap.size) s.heap H locs → lv_has ls 3 [(0, .ref (ad 0)), (1, .int x1)] → W p l e (headSpec wU_X10_begins rm_X10_begins).room s m ([.ref (ad 0)] : List Value).toArray below meth c H locs 0 0 (MQ below (va_Qv K (inW D (wdM ad cI) [(cI, .int)]) (AW ad 40 s.heap.size)) ([.ref (ad 0)] : List Value).toArray s 0 0 (AW ad 40 s.heap.size)) (F0 m 105 ls []) := by
    intro n
    induction n with
    | zero =>
      intro σ x1 H locs ls hw
      exact hw.elim
    | succ n hL105 =>
      intro σ x1 H locs ls hw hP hS hl
      have hw : b_X10_begins_105 (w_X10_begins_105 K n) K σ x1 := hw
      unfold b_X10_begins_105 at hw
      generalize w_X10_begins_105 K n = L105 at hw hL105
      refine lv_iload_n hx hb dX10_begins_105 rfl (lv_at hl 1 rfl) ?_
      refine lv_bipush (v := 10) hx hb dX10_begins_106 (by decide) ?_
      refine lv_icmp_ge (tgt := 124) hx hb dX10_begins_108 (by decide) (fun c_12 => ?_) (fun c_12 => ?_)
      · have hw := hw.1 c_12
        refine lv_aload_n hx hb dX10_begins_124 rfl (lv_at hl 0 rfl) ?_
        refine lv_iconst (v := 0) hx hb dX10_begins_125 (by decide) ?_
        refine lv_iconst (v := 0) hx hb dX10_begins_126 (by decide) ?_
        refine lv_iconst (v := 0) hx hb dX10_begins_127 (by decide) ?_
        refine lv_iconst (v := 0) hx hb dX10_begins_128 (by decide) ?_
        refine cvI (As := [.int 0, .int 0, .int 0, .int 0]) (rest := []) F hK hP hS (c_X10_colour l D ad cI hap H.size _ _ _ _ _ _ hw) (cwV 4 hts gU_X10_224 rfl rfl rfl (by decide +kernel) ⟨Nat.le_of_ble_eq_true rfl, Nat.le_of_ble_eq_true rfl⟩) (va_recv hK hP (ci := 7) (q0 := 0) rfl rfl) rfl hl.1 rfl (Nat.le_of_ble_eq_true rfl) dX10_begins_129 ⟨Nat.zero_le _, Nat.zero_le _⟩ (fun r_9 u_8 H locs hw hP hS => ?_)
        refine lv_istore_n (lv' := [(1, .int r_9), (0, .ref (ad 0))]) hx hb dX10_begins_132 rfl hl (by decide) rfl (fun ls hl => ?_)
        refine lv_iconst (v := 0) hx hb dX10_begins_133 (by decide) ?_
        refine lv_istore_n (lv' := [(2, .int 0), (1, .int r_9), (0, .ref (ad 0))]) hx hb dX10_begins_134 rfl hl (by decide) rfl (fun ls hl => ?_)
        obtain ⟨n_10, hw⟩ := hw
        exact lab_135 n_10 _ _ _ _ _ _ hw hP hS (lv_sub hl [2, 1, 0] rfl)
      · have hw := hw.2 c_12
        refine lv_aload_n hx hb dX10_begins_111 rfl (lv_at hl 0 rfl) ?_
        refine gM_X10_endKind F hK hP (hts _ mw_516) dX10_begins_112 ?_
        refine lv_iload_n hx hb dX10_begins_115 rfl (lv_at hl 1 rfl) ?_
        refine lv_iconst (v := 0) hx hb dX10_begins_116 (by decide) ?_
        obtain ⟨i_11, hw⟩ := hw
        refine sM_X10_endKind F hK hP hDs hS i_11 dX10_begins_117 (fun H locs hP hS => ?_)
        refine lv_iinc (v := (x1 + 1)) (lv' := [(1, .int (x1 + 1)), (0, .ref (ad 0))]) hx hb dX10_begins_118 hl (k := 1) rfl rfl (by decide) rfl (fun ls hl => ?_)
        refine lv_goto (tgt := 105) hx hb dX10_begins_121 (by decide) ?_
        exact hL105 _ _ _ _ _ hw hP hS (lv_sub hl [1, 0] rfl)
  have lab_77 : ∀ (n : Nat), ∀ (σ : St) (x1 : Int32) (H : Heap) (locs : List Loc) (ls : Array Slot), w_X10_begins_77 K n σ x1 → va_P D vwCl ((wdM ad cI) σ) H → va_S (AW ad 40 s.heap.size) s.heap H locs → lv_has ls 3 [(0, .ref (ad 0)), (1, .int x1)] → W p l e (headSpec wU_X10_begins rm_X10_begins).room s m ([.ref (ad 0)] : List Value).toArray below meth c H locs 0 0 (MQ below (va_Qv K (inW D (wdM ad cI) [(cI, .int)]) (AW ad 40 s.heap.size)) ([.ref (ad 0)] : List Value).toArray s 0 0 (AW ad 40 s.heap.size)) (F0 m 77 ls []) := by
    intro n
    induction n with
    | zero =>
      intro σ x1 H locs ls hw
      exact hw.elim
    | succ n hL77 =>
      intro σ x1 H locs ls hw hP hS hl
      have hw : b_X10_begins_77 (w_X10_begins_77 K n) K σ x1 := hw
      unfold b_X10_begins_77 at hw
      generalize w_X10_begins_77 K n = L77 at hw hL77
      refine lv_iload_n hx hb dX10_begins_77 rfl (lv_at hl 1 rfl) ?_
      refine lv_bipush (v := 80) hx hb dX10_begins_78 (by decide) ?_
      refine lv_icmp_ge (tgt := 103) hx hb dX10_begins_80 (by decide) (fun c_16 => ?_) (fun c_16 => ?_)
      · have hw := hw.1 c_16
        refine lv_iconst (v := 0) hx hb dX10_begins_103 (by decide) ?_
        refine lv_istore_n (lv' := [(1, .int 0), (0, .ref (ad 0))]) hx hb dX10_begins_104 rfl hl (by decide) rfl (fun ls hl => ?_)
        obtain ⟨n_13, hw⟩ := hw
        exact lab_105 n_13 _ _ _ _ _ hw hP hS (lv_sub hl [1, 0] rfl)
      · have hw := hw.2 c_16
        refine lv_aload_n hx hb dX10_begins_83 rfl (lv_at hl 0 rfl) ?_
        refine gM_X10_first F hK hP (hts _ mw_477) dX10_begins_84 ?_
        refine lv_iload_n hx hb dX10_begins_87 rfl (lv_at hl 1 rfl) ?_
        refine lv_iconst (v := (-1)) hx hb dX10_begins_88 (by decide) ?_
        obtain ⟨i_15, hw⟩ := hw
        refine sM_X10_first F hK hP hDs hS i_15 dX10_begins_89 (fun H locs hP hS => ?_)
        refine lv_aload_n hx hb dX10_begins_90 rfl (lv_at hl 0 rfl) ?_
        refine gM_X10_fired F hK hP (hts _ mw_572) dX10_begins_91 ?_
        refine lv_iload_n hx hb dX10_begins_94 rfl (lv_at hl 1 rfl) ?_
        refine lv_iconst (v := 0) hx hb dX10_begins_95 (by decide) ?_
        obtain ⟨i_14, hw⟩ := hw
        refine sM_X10_fired F hK hP hDs hS i_14 dX10_begins_96 (fun H locs hP hS => ?_)
        refine lv_iinc (v := (x1 + 1)) (lv' := [(1, .int (x1 + 1)), (0, .ref (ad 0))]) hx hb dX10_begins_97 hl (k := 1) rfl rfl (by decide) rfl (fun ls hl => ?_)
        refine lv_goto (tgt := 77) hx hb dX10_begins_100 (by decide) ?_
        exact hL77 _ _ _ _ _ hw hP hS (lv_sub hl [1, 0] rfl)
  have hl := lv_entry ([.ref (ad 0)]) (n := 3) (Nat.le_of_ble_eq_true rfl)
  rw [lg_entry_eq]
  generalize (lg_sl ([.ref (ad 0)]) ++ List.replicate (3 - (lg_sl ([.ref (ad 0)])).length) Slot.unset).toArray = ls at hl ⊢
  have hl : lv_has ls 3 [(0, .ref (ad 0))] := hl
  have key : ∀ (H : Heap) (locs : List Loc), va_P D vwCl ((wdM ad cI) σ) H → va_S (AW ad 40 s.heap.size) s.heap H locs → W p l e (headSpec wU_X10_begins rm_X10_begins).room s m ([.ref (ad 0)] : List Value).toArray below meth c H locs 0 0 (MQ below (va_Qv K (inW D (wdM ad cI) [(cI, .int)]) (AW ad 40 s.heap.size)) ([.ref (ad 0)] : List Value).toArray s 0 0 (AW ad 40 s.heap.size)) (F0 m 0 ls []) := by
    intro H locs hP hS
    unfold w_X10_begins at hw
    refine lv_aload_n hx hb dX10_begins_0 rfl (lv_at hl 0 rfl) ?_
    refine lv_iconst (v := 1) hx hb dX10_begins_1 (by decide) ?_
    refine pM_X10_isRun F hK hP hDs hS (hts _ mw_458) dX10_begins_2 (Or.inr rfl) (fun H locs hP hS => ?_)
    refine lv_aload_n hx hb dX10_begins_5 rfl (lv_at hl 0 rfl) ?_
    refine lv_iconst (v := 0) hx hb dX10_begins_6 (by decide) ?_
    refine pM_X10_isStopped F hK hP hDs hS (hts _ mw_461) dX10_begins_7 (Or.inl rfl) (fun H locs hP hS => ?_)
    refine lv_aload_n hx hb dX10_begins_10 rfl (lv_at hl 0 rfl) ?_
    refine lv_iconst (v := 0) hx hb dX10_begins_11 (by decide) ?_
    refine pM_X10_how F hK hP hDs hS (hts _ mw_459) dX10_begins_12 (fun H locs hP hS => ?_)
    refine lv_aload_n hx hb dX10_begins_15 rfl (lv_at hl 0 rfl) ?_
    refine lv_iconst (v := 0) hx hb dX10_begins_16 (by decide) ?_
    refine pM_X10_steps F hK hP hDs hS (hts _ mw_573) dX10_begins_17 (fun H locs hP hS => ?_)
    refine lv_aload_n hx hb dX10_begins_20 rfl (lv_at hl 0 rfl) ?_
    refine lv_iconst (v := 0) hx hb dX10_begins_21 (by decide) ?_
    refine pM_X10_ticked F hK hP hDs hS (hts _ mw_574) dX10_begins_22 (fun H locs hP hS => ?_)
    refine lv_aload_n hx hb dX10_begins_25 rfl (lv_at hl 0 rfl) ?_
    refine lv_iconst (v := 0) hx hb dX10_begins_26 (by decide) ?_
    refine pM_X10_most F hK hP hDs hS (hts _ mw_575) dX10_begins_27 (fun H locs hP hS => ?_)
    refine lv_aload_n hx hb dX10_begins_30 rfl (lv_at hl 0 rfl) ?_
    refine lv_iconst (v := 0) hx hb dX10_begins_31 (by decide) ?_
    refine pM_X10_lost F hK hP hDs hS (hts _ mw_507) dX10_begins_32 (fun H locs hP hS => ?_)
    refine lv_aload_n hx hb dX10_begins_35 rfl (lv_at hl 0 rfl) ?_
    refine lv_iconst (v := 0) hx hb dX10_begins_36 (by decide) ?_
    refine pM_X10_strays F hK hP hDs hS (hts _ mw_519) dX10_begins_37 (fun H locs hP hS => ?_)
    refine lv_aload_n hx hb dX10_begins_40 rfl (lv_at hl 0 rfl) ?_
    refine lv_iconst (v := (-1)) hx hb dX10_begins_41 (by decide) ?_
    refine pM_X10_clash F hK hP hDs hS (hts _ mw_460) dX10_begins_42 (fun H locs hP hS => ?_)
    refine lv_aload_n hx hb dX10_begins_45 rfl (lv_at hl 0 rfl) ?_
    refine lv_iconst (v := 0) hx hb dX10_begins_46 (by decide) ?_
    refine pM_X10_colours F hK hP hDs hS (hts _ mw_462) dX10_begins_47 (fun H locs hP hS => ?_)
    refine lv_aload_n hx hb dX10_begins_50 rfl (lv_at hl 0 rfl) ?_
    refine lv_iconst (v := 0) hx hb dX10_begins_51 (by decide) ?_
    refine pM_X10_pairs F hK hP hDs hS (hts _ mw_471) dX10_begins_52 (fun H locs hP hS => ?_)
    refine lv_aload_n hx hb dX10_begins_55 rfl (lv_at hl 0 rfl) ?_
    refine lv_iconst (v := 0) hx hb dX10_begins_56 (by decide) ?_
    refine pM_X10_readyMany F hK hP hDs hS (hts _ mw_486) dX10_begins_57 (fun H locs hP hS => ?_)
    refine lv_aload_n hx hb dX10_begins_60 rfl (lv_at hl 0 rfl) ?_
    refine lv_iconst (v := 0) hx hb dX10_begins_61 (by decide) ?_
    refine pM_X10_rows F hK hP hDs hS (hts _ mw_521) dX10_begins_62 (fun H locs hP hS => ?_)
    refine lv_aload_n hx hb dX10_begins_65 rfl (lv_at hl 0 rfl) ?_
    refine lv_iconst (v := 0) hx hb dX10_begins_66 (by decide) ?_
    refine pM_X10_cells F hK hP hDs hS (hts _ mw_520) dX10_begins_67 (fun H locs hP hS => ?_)
    refine lv_aload_n hx hb dX10_begins_70 rfl (lv_at hl 0 rfl) ?_
    refine lv_iconst (v := 0) hx hb dX10_begins_71 (by decide) ?_
    refine pM_X10_readers F hK hP hDs hS (hts _ mw_535) dX10_begins_72 (fun H locs hP hS => ?_)
    refine lv_iconst (v := 0) hx hb dX10_begins_75 (by decide) ?_
    refine lv_istore_n (lv' := [(1, .int 0), (0, .ref (ad 0))]) hx hb dX10_begins_76 rfl hl (by decide) rfl (fun ls hl => ?_)
    obtain ⟨n_17, hw⟩ := hw
    exact lab_77 n_17 _ _ _ _ _ hw hP hS (lv_sub hl [1, 0] rfl)
  exact key s.heap [] hP hS
