/-! THE CLAIM OUT OF ONE WALK OF THE LAW'S BODY. Your part is whole_start (and what it stands on); all else here is the same for every law, but numbers. -/
def R_law : String := "TokenFloorLaw"
def lw_P (b : Addr) (xs : List Int32) (args : Array Value) (s : State) : Prop := args = #[.ref b] ∧ s.IntsAt b xs ∧ xs.length ≤ 2560 ∧ (Jvm.Cond.and given_1 narrow_1).before args s = true
def lw_Q (_ : Array Value) (s : State) (o : Outcome) (t : State) : Prop := o = .returned (some (.int 1)) ∧ Framed s o t [] 82 101950
def lw_Z (below : List Frame) (a : Array Value) (s : State) : State → Prop := fun t => ∃ o, t.status = .running ∧ Ended t below o ∧ lw_Q a s o t
/-- the law's own end, with 1 on the stack, nothing written that was there before, its room as the claim has it -/
theorem lw_ret {p : Program} {l : Launch} {e : Env} {s : State} {m : MethodId} {below : List Frame} {meth : Method} {c : Code} {b : Nat} (hx : p.tables.exec = Jvm.exec) (hb : c.code = code) (hr : meth.sig.returnType = ret) (hlocks : meth.locks = false) {pc : Nat} {H : Heap} {ls : Array Slot} (hdg : decode code pc = .ok (.ireturn, 1)) : W p l e room_1 s m #[Value.ref b] below meth c H [] 82 101950 (lw_Z below #[Value.ref b] s) (F0 m pc ls [.int 1]) := by
  intro T hT X
  obtain ⟨fs, hret, hrun, hended, hW, hframe⟩ := X.leave (v := some (.int 1)) (hlocks := hlocks) (fun h => by rw [hr] at h; cases h)
  have hmeth' : T.vm.method? m = some meth := X.method'
  refine ⟨T.setFrames fs, ?_, .returned (some (.int 1)), hrun, hended, rfl, ⟨_, rfl⟩, hW, hframe⟩
  jvm_step X.here [X.here.top, hx, hb, hdg, hmeth', hr, ret, narrow_b1]
  (try refine ⟨rfl, ?_⟩); (try refine ⟨rfl, ?_⟩)
  first | (intro acts; rw [hret _ acts rfl rfl rfl]) | rw [hret _ _ rfl rfl rfl]
  exact Steps.refl _
/-- what holds at the law's entry: the machine, the code, the tables' words (any of lw_tbl by 'hts w (by decide +kernel)'), the script of L ints xs at the cell b, what the Statement gives of the start (any of its parts by flat_of_before) -/
def lw_At (p : Program) (s : State) (m : MethodId) (meth : Method) (c : Code) (b L : Nat) (xs : Nat → Int32) : Prop :=
  p.tables.exec = Jvm.exec ∧ c.code = code ∧ meth.sig.returnType = ret ∧ c.maxLocals = 4 ∧ s.vm.findClass R_law = some m.cls ∧ (∀ w ∈ lw_tbl, w.before #[Value.ref b] s = true) ∧ va_X b L xs s s.heap ∧ b < s.heap.size ∧ meth.locks = false ∧ (Jvm.Cond.and given_1 narrow_1).before #[Value.ref b] s = true
theorem wd_at {ad : Nat → Nat} {N : Nat} {ws : va_W} (hm : ws.map (·.1) = (List.range N).map ad) (k : Nat) (q : Nat × va_E) (hk : ws[k]? = some q) : k < N ∧ q.1 = ad k := by
  have hlen : ws.length = N := by have := congrArg List.length hm; simpa using this
  have hkl : k < ws.length := (List.getElem?_eq_some_iff.mp hk).1
  have h1 : (ws.map (·.1))[k]? = some q.1 := by rw [List.getElem?_map, hk]; rfl
  rw [hm, List.getElem?_map, List.getElem?_range (by omega)] at h1
  exact ⟨by omega, (Option.some.inj h1).symm⟩
/-- the cells of the other side stay -/
theorem wd_kept {D : va_G} {ad bd : Nat → Nat} {N M : Nat} {ws : va_W} {H H1 : Heap} (hm : ws.map (·.1) = (List.range M).map bd) (hdis : ∀ i j, i < N → j < M → ad i ≠ bd j) (hP : va_P D vwCl ws H) (hk : ∀ q : Nat, q < H.size → ¬ AW ad N H.size q → H1[q]? = H[q]?) : va_P D vwCl ws H1 := by
  refine hP.kept (fun k q hq => hk q.1 (hP k q hq).lt (fun h => ?_))
  obtain ⟨h1, h2⟩ := wd_at hm k q hq
  rcases h with ⟨i, hi, e⟩ | h
  · exact hdis i k hi h1 (by rw [← e, h2])
  · exact absurd (hP k q hq).lt (Nat.not_lt.mpr h)
section LAWC
variable {p : Program} {l : Launch} {e : Env} {R : Room} {s : State} {m : MethodId} {args : Array Value} {below : List Frame} {meth : Method} {c : Code} {H : Heap} {locs : List Loc} {cells slots : Nat} {Q : State → Prop}
variable {y : MethodName} {bytes cc : ByteArray} {maxL nL n index pc : Nat} {ret : Option FieldType} {ws : List Cond} {rm : Room} {Ts : List Cond} {own C : String} {b : Addr} {As rest st : List Value} {ls : Array Slot}
variable {D : va_G} {w w2 : St → va_W} {tys : List (ClassId × FieldType)} {ad bd : Nat → Nat} {N M : Nat} {σ τ : St} {X : State → Prop}
/-- a call on one side, under an extra premise: the other side's cells stay -/
theorem lwX {K : Int32 → St → Prop} (hXb : ∀ (a : Array Value) (U : State) (g : JFrame) (mk : MethodId), X U → X (U.calling g mk a)) (hXa : ∀ U : State, U.heap = H → s.WarmedH U.vm → X U) (F : CallFix p m c cc nL s args Ts own) (hK : va_K D vwCl tys s) (hP : va_P D vwCl (w σ) H) (hP2 : va_P D vwCl (w2 τ) H) (hm2 : (w2 τ).map (·.1) = (List.range M).map bd) (hdis : ∀ i j, i < N → j < M → ad i ≠ bd j) (hA : ∀ i, i < N → s.heap.size ≤ ad i) (hS : va_S (fun q : Nat => s.heap.size ≤ q) s.heap H locs)
    (hM : Met l y ws rm (va_Pc (.ref b :: As) (fun U => U.heap.size = H.size ∧ inW D w tys σ U ∧ X U)) (va_Qi K (inW D w tys) (AW ad N H.size)) 0 0 (AW ad N H.size)) (cw : CallW R s args own C index y bytes maxL ret ws rm 0 0 n)
    (hrecv : ∃ cell : Cell, H[b]? = some cell ∧ cell.vm.isStatics = false ∧ s.vm.findClass C = some cell.cls) (hn : As.length = n) (hsize : ls.size = nL) (hst : st = As.reverse ++ .ref b :: rest) (hW : (rest.map fun v => v.category).sum ≤ 8) (hdg : decode cc pc = .ok (.invokevirtual index, 3)) (hf : cells ≤ R.cells ∧ slots ≤ R.slots)
    (kk : ∀ (r : Int32) (u : St) (H1 : Heap) (locs1 : List Loc), K r u → va_P D vwCl (w u) H1 → va_P D vwCl (w2 τ) H1 → va_S (fun q : Nat => s.heap.size ≤ q) s.heap H1 locs1 → W p l e R s m args below meth c H1 locs1 cells slots Q (F0 m (pc + 3) ls (.int r :: rest))) : W p l e R s m args below meth c H locs cells slots Q (F0 m pc ls st) := by
  have hA1 : ∀ q, AW ad N H.size q → s.heap.size ≤ q := by
    intro q h
    rcases h with ⟨k, hk, rfl⟩ | h
    · exact hA k hk
    · exact Nat.le_trans hS.1 h
  refine va_calli (va_runV (As := As) (rest := rest) F hM cw ⟨pc_blindX hXb, hrecv, fun U hU hW => ⟨rfl, by rw [hU], ⟨by rw [hU]; exact hP, va_K.moved hW.alike hK⟩, hXa U hU hW⟩⟩ rfl hn hsize hst (lv_room hW) hdg hf) hS (fun q _ h => hA1 q h) hA1 (fun r u t H1 locs1 ht _ hw hB _ hk hS1 => ?_)
  exact kk r u H1 locs1 hw (by rw [← ht]; exact hB.1) (wd_kept hm2 hdis hP2 hk) hS1
theorem lwN {K : Int32 → St → Prop} (F : CallFix p m c cc nL s args Ts own) (hK : va_K D vwCl tys s) (hP : va_P D vwCl (w σ) H) (hP2 : va_P D vwCl (w2 τ) H) (hm2 : (w2 τ).map (·.1) = (List.range M).map bd) (hdis : ∀ i j, i < N → j < M → ad i ≠ bd j) (hA : ∀ i, i < N → s.heap.size ≤ ad i) (hS : va_S (fun q : Nat => s.heap.size ≤ q) s.heap H locs)
    (hM : Met l y ws rm (va_Pc (.ref b :: As) (fun U => U.heap.size = H.size ∧ inW D w tys σ U)) (va_Qi K (inW D w tys) (AW ad N H.size)) 0 0 (AW ad N H.size)) (cw : CallW R s args own C index y bytes maxL ret ws rm 0 0 n)
    (hrecv : ∃ cell : Cell, H[b]? = some cell ∧ cell.vm.isStatics = false ∧ s.vm.findClass C = some cell.cls) (hn : As.length = n) (hsize : ls.size = nL) (hst : st = As.reverse ++ .ref b :: rest) (hW : (rest.map fun v => v.category).sum ≤ 8) (hdg : decode cc pc = .ok (.invokevirtual index, 3)) (hf : cells ≤ R.cells ∧ slots ≤ R.slots)
    (kk : ∀ (r : Int32) (u : St) (H1 : Heap) (locs1 : List Loc), K r u → va_P D vwCl (w u) H1 → va_P D vwCl (w2 τ) H1 → va_S (fun q : Nat => s.heap.size ≤ q) s.heap H1 locs1 → W p l e R s m args below meth c H1 locs1 cells slots Q (F0 m (pc + 3) ls (.int r :: rest))) : W p l e R s m args below meth c H locs cells slots Q (F0 m pc ls st) := by
  have hA1 : ∀ q, AW ad N H.size q → s.heap.size ≤ q := by
    intro q h
    rcases h with ⟨k, hk, rfl⟩ | h
    · exact hA k hk
    · exact Nat.le_trans hS.1 h
  refine va_calli (va_runV (As := As) (rest := rest) F hM cw ⟨pc_blind, hrecv, fun U hU hW => ⟨rfl, by rw [hU], by rw [hU]; exact hP, va_K.moved hW.alike hK⟩⟩ rfl hn hsize hst (lv_room hW) hdg hf) hS (fun q _ h => hA1 q h) hA1 (fun r u t H1 locs1 ht _ hw hB _ hk hS1 => ?_)
  exact kk r u H1 locs1 hw (by rw [← ht]; exact hB.1) (wd_kept hm2 hdis hP2 hk) hS1
end LAWC
theorem jPZ_lw {ad : Nat → Nat} {N aP : Nat} {s : State} {H : Heap} {locs : List Loc} (h : va_Z "TokenFloor$Kind" "PORTS" "[I" (.ref aP) (fun q : Nat => s.heap.size ≤ q) s s.heap ∧ va_T .int aP 22 (fun j => .int (jports j)) (fun q : Nat => s.heap.size ≤ q) s s.heap) (hA : ∀ i, i < N → s.heap.size ≤ ad i) (hS : va_S (fun q : Nat => s.heap.size ≤ q) s.heap H locs) (U : State) (hU : U.heap = H) (hW : s.WarmedH U.vm) : jPZ ad N H.size aP U := by
  have hA1 : ∀ q, AW ad N H.size q → s.heap.size ≤ q := by
    intro q h
    rcases h with ⟨k, hk, rfl⟩ | h
    · exact hA k hk
    · exact Nat.le_trans hS.1 h
  refine ⟨?_, ?_⟩
  · rw [hU]
    exact va_Z.moved hW.alike ((h.1.kept hS.2.1).narrow hA1)
  · rw [hU]
    exact va_T.moved hW.alike ((h.2.kept hS.2.1).narrow hA1)
set_option maxHeartbeats 4000000 in
set_option maxRecDepth 100000 in
theorem law_act {p : Program} {l : Launch} {e : Env} {s : State} {m : MethodId} {below : List Frame} {meth : Method} {c : Code} {D : va_G} {ad bd : Nat → Nat} {cI cJ : ClassId} {aP b L : Nat} {xs : Nat → Int32} {Rel : St → St → Prop} (hL : L ≤ 2560) (hst : JSteps Rel) (C0 : lw_At p s m meth c b L xs) (hK : va_K D vwCl [(cI, .int), (cJ, .long)] s) (hapC : apart ad 42) (hapM : apart bd 40) (hdC : ∀ i j, i < 42 → j < 40 → ad i ≠ bd j) (hdM : ∀ i j, i < 40 → j < 42 → bd i ≠ ad j) (hA1 : ∀ i, i < 42 → s.heap.size ≤ ad i) (hA2 : ∀ i, i < 40 → s.heap.size ≤ bd i)
    (hZ : va_Z "TokenFloor$Kind" "PORTS" "[I" (.ref aP) (fun q : Nat => s.heap.size ≤ q) s s.heap ∧ va_T .int aP 22 (fun j => .int (jports j)) (fun q : Nat => s.heap.size ≤ q) s s.heap) {i : Nat} (hi : i + 5 ≤ L) {σ τ : St} (hR : Rel σ τ) {H : Heap} {locs : List Loc} {ls : Array Slot} (hPc : va_P D vwCl (wdC ad cI cJ σ) H) (hPm : va_P D vwCl (wdM bd cI τ) H) (hS : va_S (fun q : Nat => s.heap.size ≤ q) s.heap H locs) (hl : lv_has ls 4 [(0, .ref b), (1, .ref (ad 0)), (2, .ref (bd 0)), (3, .int (nI i))])
    (kk : ∀ (σ τ : St) (H : Heap) (locs : List Loc) (ls : Array Slot), Rel σ τ → va_P D vwCl (wdC ad cI cJ σ) H → va_P D vwCl (wdM bd cI τ) H → va_S (fun q : Nat => s.heap.size ≤ q) s.heap H locs → lv_has ls 4 [(0, .ref b), (1, .ref (ad 0)), (2, .ref (bd 0)), (3, .int (nI i))] → W p l e room_1 s m #[Value.ref b] below meth c H locs 82 101950 (lw_Z below #[Value.ref b] s) (F0 m 512 ls [])) : W p l e room_1 s m #[Value.ref b] below meth c H locs 82 101950 (lw_Z below #[Value.ref b] s) (F0 m 96 ls []) := by
  obtain ⟨hx, hb, hr, hml, hown, hts0, hX, hbl, hlocks, hgv⟩ := C0
  have hts : ∀ w ∈ lw_U, w.before #[Value.ref b] s = true := fun w h => hts0 w (List.mem_filter.mp h).1
  have F : CallFix p m c cL_law 4 s #[Value.ref b] lw_U RL := ⟨hx, hb, hml, hown, hts⟩
  have hbA : ¬ (fun q : Nat => s.heap.size ≤ q) b := Nat.not_le.mpr hbl
  have hK2 : va_K D vwCl [(cI, .int)] s := hK.sub [0] rfl
  have in1 : vp_in (nI i + 1) L := by rw [show (1 : Int32) = nI 1 from rfl, nI_add]; exact vp_in_nI (by omega) (by omega)
  have in2 : vp_in (nI i + 2) L := by rw [show (2 : Int32) = nI 2 from rfl, nI_add]; exact vp_in_nI (by omega) (by omega)
  have in3 : vp_in (nI i + 3) L := by rw [show (3 : Int32) = nI 3 from rfl, nI_add]; exact vp_in_nI (by omega) (by omega)
  refine lv_aload_n hx hb dL_law_96 rfl (lv_at hl 1 rfl) ?_
  refine lv_aload_n hx hb dL_law_97 rfl (lv_at hl 0 rfl) ?_
  refine lv_iload_n hx hb dL_law_98 rfl (lv_at hl 3 rfl) ?_
  refine lv_iconst (v := 1) hx hb dL_law_99 (by decide) ?_
  refine lv_iadd hx hb dL_law_100 ?_
  refine va_sld hx hb hX hbl hbA hS in1 dL_law_101 ?_
  refine lv_aload_n hx hb dL_law_102 rfl (lv_at hl 0 rfl) ?_
  refine lv_iload_n hx hb dL_law_103 rfl (lv_at hl 3 rfl) ?_
  refine lv_iconst (v := 2) hx hb dL_law_104 (by decide) ?_
  refine lv_iadd hx hb dL_law_105 ?_
  refine va_sld hx hb hX hbl hbA hS in2 dL_law_106 ?_
  refine lv_aload_n hx hb dL_law_107 rfl (lv_at hl 0 rfl) ?_
  refine lv_iload_n hx hb dL_law_108 rfl (lv_at hl 3 rfl) ?_
  refine lv_iconst (v := 3) hx hb dL_law_109 (by decide) ?_
  refine lv_iadd hx hb dL_law_110 ?_
  refine va_sld hx hb hX hbl hbA hS in3 dL_law_111 ?_
  have hw := hst.1 σ τ (xs (nI i + 1).toNatClampNeg) (xs (nI i + 2).toNatClampNeg) (xs (nI i + 3).toNatClampNeg) hR
  refine lwX (X := jPZ ad 42 H.size aP) jPZ_blind (jPZ_lw hZ hA1 hS) (w := wdC ad cI cJ) (w2 := wdM bd cI) (bd := bd) (M := 40) (As := [.int (xs (nI i + 1).toNatClampNeg), .int (xs (nI i + 2).toNatClampNeg), .int (xs (nI i + 3).toNatClampNeg)]) (rest := []) F hK hPc hPm rfl hdC hA1 hS (c_X9_act l D ad cI cJ hapC H.size _ _ _ _ _ hw aP) (cwV 3 hts gU_L_13 rfl rfl rfl (by decide +kernel) ⟨Nat.le_of_ble_eq_true rfl, Nat.le_of_ble_eq_true rfl⟩) (va_recv hK hPc (ci := 6) (q0 := 0) rfl rfl) rfl hl.1 rfl (Nat.le_of_ble_eq_true rfl) dL_law_112 ⟨Nat.le_refl _, Nat.le_refl _⟩ (fun r u H locs hw hPc hPm hS => ?_)
  refine lv_aload_n hx hb dL_law_115 rfl (lv_at hl 2 rfl) ?_
  refine lv_aload_n hx hb dL_law_116 rfl (lv_at hl 0 rfl) ?_
  refine lv_iload_n hx hb dL_law_117 rfl (lv_at hl 3 rfl) ?_
  refine lv_iconst (v := 1) hx hb dL_law_118 (by decide) ?_
  refine lv_iadd hx hb dL_law_119 ?_
  refine va_sld hx hb hX hbl hbA hS in1 dL_law_120 ?_
  refine lv_aload_n hx hb dL_law_121 rfl (lv_at hl 0 rfl) ?_
  refine lv_iload_n hx hb dL_law_122 rfl (lv_at hl 3 rfl) ?_
  refine lv_iconst (v := 2) hx hb dL_law_123 (by decide) ?_
  refine lv_iadd hx hb dL_law_124 ?_
  refine va_sld hx hb hX hbl hbA hS in2 dL_law_125 ?_
  refine lv_aload_n hx hb dL_law_126 rfl (lv_at hl 0 rfl) ?_
  refine lv_iload_n hx hb dL_law_127 rfl (lv_at hl 3 rfl) ?_
  refine lv_iconst (v := 3) hx hb dL_law_128 (by decide) ?_
  refine lv_iadd hx hb dL_law_129 ?_
  refine va_sld hx hb hX hbl hbA hS in3 dL_law_130 ?_
  refine lwN (w := wdM bd cI) (w2 := wdC ad cI cJ) (bd := ad) (M := 42) (As := [.int (xs (nI i + 1).toNatClampNeg), .int (xs (nI i + 2).toNatClampNeg), .int (xs (nI i + 3).toNatClampNeg)]) (rest := [.int r]) F hK2 hPm hPc rfl hdM hA2 hS (c_X10_act l D bd cI hapM H.size _ _ _ _ _ hw) (cwV 3 hts gU_L_17 rfl rfl rfl (by decide +kernel) ⟨Nat.le_of_ble_eq_true rfl, Nat.le_of_ble_eq_true rfl⟩) (va_recv hK2 hPm (ci := 7) (q0 := 0) rfl rfl) rfl hl.1 rfl (Nat.le_of_ble_eq_true rfl) dL_law_131 ⟨Nat.le_refl _, Nat.le_refl _⟩ (fun r2 u2 H locs hw hPm hPc hS => ?_)
  obtain ⟨he, hR⟩ := hw
  refine lv_icmp_eq (tgt := 512) hx hb dL_law_134 (by decide) (fun c1 => ?_) (fun c1 => absurd he c1)
  exact kk u u2 H locs ls hR hPc hPm hS hl
set_option maxHeartbeats 4000000 in
set_option maxRecDepth 100000 in
theorem law_way {p : Program} {l : Launch} {e : Env} {s : State} {m : MethodId} {below : List Frame} {meth : Method} {c : Code} {D : va_G} {ad bd : Nat → Nat} {cI cJ : ClassId} {aP b L : Nat} {xs : Nat → Int32} {Rel : St → St → Prop} (hL : L ≤ 2560) (hst : JSteps Rel) (C0 : lw_At p s m meth c b L xs) (hK : va_K D vwCl [(cI, .int), (cJ, .long)] s) (hapC : apart ad 42) (hapM : apart bd 40) (hdC : ∀ i j, i < 42 → j < 40 → ad i ≠ bd j) (hdM : ∀ i j, i < 40 → j < 42 → bd i ≠ ad j) (hA1 : ∀ i, i < 42 → s.heap.size ≤ ad i) (hA2 : ∀ i, i < 40 → s.heap.size ≤ bd i)
    (hZ : va_Z "TokenFloor$Kind" "PORTS" "[I" (.ref aP) (fun q : Nat => s.heap.size ≤ q) s s.heap ∧ va_T .int aP 22 (fun j => .int (jports j)) (fun q : Nat => s.heap.size ≤ q) s s.heap) {i : Nat} (hi : i + 5 ≤ L) {σ τ : St} (hR : Rel σ τ) {H : Heap} {locs : List Loc} {ls : Array Slot} (hPc : va_P D vwCl (wdC ad cI cJ σ) H) (hPm : va_P D vwCl (wdM bd cI τ) H) (hS : va_S (fun q : Nat => s.heap.size ≤ q) s.heap H locs) (hl : lv_has ls 4 [(0, .ref b), (1, .ref (ad 0)), (2, .ref (bd 0)), (3, .int (nI i))])
    (kk : ∀ (σ τ : St) (H : Heap) (locs : List Loc) (ls : Array Slot), Rel σ τ → va_P D vwCl (wdC ad cI cJ σ) H → va_P D vwCl (wdM bd cI τ) H → va_S (fun q : Nat => s.heap.size ≤ q) s.heap H locs → lv_has ls 4 [(0, .ref b), (1, .ref (ad 0)), (2, .ref (bd 0)), (3, .int (nI i))] → W p l e room_1 s m #[Value.ref b] below meth c H locs 82 101950 (lw_Z below #[Value.ref b] s) (F0 m 512 ls [])) : W p l e room_1 s m #[Value.ref b] below meth c H locs 82 101950 (lw_Z below #[Value.ref b] s) (F0 m 139 ls []) := by
  obtain ⟨hx, hb, hr, hml, hown, hts0, hX, hbl, hlocks, hgv⟩ := C0
  have hts : ∀ w ∈ lw_U, w.before #[Value.ref b] s = true := fun w h => hts0 w (List.mem_filter.mp h).1
  have F : CallFix p m c cL_law 4 s #[Value.ref b] lw_U RL := ⟨hx, hb, hml, hown, hts⟩
  have hbA : ¬ (fun q : Nat => s.heap.size ≤ q) b := Nat.not_le.mpr hbl
  have hK2 : va_K D vwCl [(cI, .int)] s := hK.sub [0] rfl
  have in1 : vp_in (nI i + 1) L := by rw [show (1 : Int32) = nI 1 from rfl, nI_add]; exact vp_in_nI (by omega) (by omega)
  have in2 : vp_in (nI i + 2) L := by rw [show (2 : Int32) = nI 2 from rfl, nI_add]; exact vp_in_nI (by omega) (by omega)
  have in3 : vp_in (nI i + 3) L := by rw [show (3 : Int32) = nI 3 from rfl, nI_add]; exact vp_in_nI (by omega) (by omega)
  have in4 : vp_in (nI i + 4) L := by rw [show (4 : Int32) = nI 4 from rfl, nI_add]; exact vp_in_nI (by omega) (by omega)
  refine lv_aload_n hx hb dL_law_139 rfl (lv_at hl 1 rfl) ?_
  refine lv_aload_n hx hb dL_law_140 rfl (lv_at hl 0 rfl) ?_
  refine lv_iload_n hx hb dL_law_141 rfl (lv_at hl 3 rfl) ?_
  refine lv_iconst (v := 1) hx hb dL_law_142 (by decide) ?_
  refine lv_iadd hx hb dL_law_143 ?_
  refine va_sld hx hb hX hbl hbA hS in1 dL_law_144 ?_
  refine lv_aload_n hx hb dL_law_145 rfl (lv_at hl 0 rfl) ?_
  refine lv_iload_n hx hb dL_law_146 rfl (lv_at hl 3 rfl) ?_
  refine lv_iconst (v := 2) hx hb dL_law_147 (by decide) ?_
  refine lv_iadd hx hb dL_law_148 ?_
  refine va_sld hx hb hX hbl hbA hS in2 dL_law_149 ?_
  refine lv_aload_n hx hb dL_law_150 rfl (lv_at hl 0 rfl) ?_
  refine lv_iload_n hx hb dL_law_151 rfl (lv_at hl 3 rfl) ?_
  refine lv_iconst (v := 3) hx hb dL_law_152 (by decide) ?_
  refine lv_iadd hx hb dL_law_153 ?_
  refine va_sld hx hb hX hbl hbA hS in3 dL_law_154 ?_
  refine lv_aload_n hx hb dL_law_155 rfl (lv_at hl 0 rfl) ?_
  refine lv_iload_n hx hb dL_law_156 rfl (lv_at hl 3 rfl) ?_
  refine lv_iconst (v := 4) hx hb dL_law_157 (by decide) ?_
  refine lv_iadd hx hb dL_law_158 ?_
  refine va_sld hx hb hX hbl hbA hS in4 dL_law_159 ?_
  have hw := hst.2.1 σ τ (xs (nI i + 1).toNatClampNeg) (xs (nI i + 2).toNatClampNeg) (xs (nI i + 3).toNatClampNeg) (xs (nI i + 4).toNatClampNeg) hR
  refine lwN (w := wdC ad cI cJ) (w2 := wdM bd cI) (bd := bd) (M := 40) (As := [.int (xs (nI i + 1).toNatClampNeg), .int (xs (nI i + 2).toNatClampNeg), .int (xs (nI i + 3).toNatClampNeg), .int (xs (nI i + 4).toNatClampNeg)]) (rest := []) F hK hPc hPm rfl hdC hA1 hS (c_X9_way l D ad cI cJ hapC H.size _ _ _ _ _ _ hw) (cwV 4 hts gU_L_18 rfl rfl rfl (by decide +kernel) ⟨Nat.le_of_ble_eq_true rfl, Nat.le_of_ble_eq_true rfl⟩) (va_recv hK hPc (ci := 6) (q0 := 0) rfl rfl) rfl hl.1 rfl (Nat.le_of_ble_eq_true rfl) dL_law_160 ⟨Nat.le_refl _, Nat.le_refl _⟩ (fun r u H locs hw hPc hPm hS => ?_)
  refine lv_aload_n hx hb dL_law_163 rfl (lv_at hl 2 rfl) ?_
  refine lv_aload_n hx hb dL_law_164 rfl (lv_at hl 0 rfl) ?_
  refine lv_iload_n hx hb dL_law_165 rfl (lv_at hl 3 rfl) ?_
  refine lv_iconst (v := 1) hx hb dL_law_166 (by decide) ?_
  refine lv_iadd hx hb dL_law_167 ?_
  refine va_sld hx hb hX hbl hbA hS in1 dL_law_168 ?_
  refine lv_aload_n hx hb dL_law_169 rfl (lv_at hl 0 rfl) ?_
  refine lv_iload_n hx hb dL_law_170 rfl (lv_at hl 3 rfl) ?_
  refine lv_iconst (v := 2) hx hb dL_law_171 (by decide) ?_
  refine lv_iadd hx hb dL_law_172 ?_
  refine va_sld hx hb hX hbl hbA hS in2 dL_law_173 ?_
  refine lv_aload_n hx hb dL_law_174 rfl (lv_at hl 0 rfl) ?_
  refine lv_iload_n hx hb dL_law_175 rfl (lv_at hl 3 rfl) ?_
  refine lv_iconst (v := 3) hx hb dL_law_176 (by decide) ?_
  refine lv_iadd hx hb dL_law_177 ?_
  refine va_sld hx hb hX hbl hbA hS in3 dL_law_178 ?_
  refine lv_aload_n hx hb dL_law_179 rfl (lv_at hl 0 rfl) ?_
  refine lv_iload_n hx hb dL_law_180 rfl (lv_at hl 3 rfl) ?_
  refine lv_iconst (v := 4) hx hb dL_law_181 (by decide) ?_
  refine lv_iadd hx hb dL_law_182 ?_
  refine va_sld hx hb hX hbl hbA hS in4 dL_law_183 ?_
  refine lwN (w := wdM bd cI) (w2 := wdC ad cI cJ) (bd := ad) (M := 42) (As := [.int (xs (nI i + 1).toNatClampNeg), .int (xs (nI i + 2).toNatClampNeg), .int (xs (nI i + 3).toNatClampNeg), .int (xs (nI i + 4).toNatClampNeg)]) (rest := [.int r]) F hK2 hPm hPc rfl hdM hA2 hS (c_X10_way l D bd cI hapM H.size _ _ _ _ _ _ hw) (cwV 4 hts gU_L_22 rfl rfl rfl (by decide +kernel) ⟨Nat.le_of_ble_eq_true rfl, Nat.le_of_ble_eq_true rfl⟩) (va_recv hK2 hPm (ci := 7) (q0 := 0) rfl rfl) rfl hl.1 rfl (Nat.le_of_ble_eq_true rfl) dL_law_184 ⟨Nat.le_refl _, Nat.le_refl _⟩ (fun r2 u2 H locs hw hPm hPc hS => ?_)
  obtain ⟨he, hR⟩ := hw
  refine lv_icmp_eq (tgt := 512) hx hb dL_law_187 (by decide) (fun c1 => ?_) (fun c1 => absurd he c1)
  exact kk u u2 H locs ls hR hPc hPm hS hl
set_option maxHeartbeats 4000000 in
set_option maxRecDepth 100000 in
theorem law_token {p : Program} {l : Launch} {e : Env} {s : State} {m : MethodId} {below : List Frame} {meth : Method} {c : Code} {D : va_G} {ad bd : Nat → Nat} {cI cJ : ClassId} {aP b L : Nat} {xs : Nat → Int32} {Rel : St → St → Prop} (hL : L ≤ 2560) (hst : JSteps Rel) (C0 : lw_At p s m meth c b L xs) (hK : va_K D vwCl [(cI, .int), (cJ, .long)] s) (hapC : apart ad 42) (hapM : apart bd 40) (hdC : ∀ i j, i < 42 → j < 40 → ad i ≠ bd j) (hdM : ∀ i j, i < 40 → j < 42 → bd i ≠ ad j) (hA1 : ∀ i, i < 42 → s.heap.size ≤ ad i) (hA2 : ∀ i, i < 40 → s.heap.size ≤ bd i)
    (hZ : va_Z "TokenFloor$Kind" "PORTS" "[I" (.ref aP) (fun q : Nat => s.heap.size ≤ q) s s.heap ∧ va_T .int aP 22 (fun j => .int (jports j)) (fun q : Nat => s.heap.size ≤ q) s s.heap) {i : Nat} (hi : i + 5 ≤ L) {σ τ : St} (hR : Rel σ τ) {H : Heap} {locs : List Loc} {ls : Array Slot} (hPc : va_P D vwCl (wdC ad cI cJ σ) H) (hPm : va_P D vwCl (wdM bd cI τ) H) (hS : va_S (fun q : Nat => s.heap.size ≤ q) s.heap H locs) (hl : lv_has ls 4 [(0, .ref b), (1, .ref (ad 0)), (2, .ref (bd 0)), (3, .int (nI i))])
    (kk : ∀ (σ τ : St) (H : Heap) (locs : List Loc) (ls : Array Slot), Rel σ τ → va_P D vwCl (wdC ad cI cJ σ) H → va_P D vwCl (wdM bd cI τ) H → va_S (fun q : Nat => s.heap.size ≤ q) s.heap H locs → lv_has ls 4 [(0, .ref b), (1, .ref (ad 0)), (2, .ref (bd 0)), (3, .int (nI i))] → W p l e room_1 s m #[Value.ref b] below meth c H locs 82 101950 (lw_Z below #[Value.ref b] s) (F0 m 512 ls [])) : W p l e room_1 s m #[Value.ref b] below meth c H locs 82 101950 (lw_Z below #[Value.ref b] s) (F0 m 192 ls []) := by
  obtain ⟨hx, hb, hr, hml, hown, hts0, hX, hbl, hlocks, hgv⟩ := C0
  have hts : ∀ w ∈ lw_U, w.before #[Value.ref b] s = true := fun w h => hts0 w (List.mem_filter.mp h).1
  have F : CallFix p m c cL_law 4 s #[Value.ref b] lw_U RL := ⟨hx, hb, hml, hown, hts⟩
  have hbA : ¬ (fun q : Nat => s.heap.size ≤ q) b := Nat.not_le.mpr hbl
  have hK2 : va_K D vwCl [(cI, .int)] s := hK.sub [0] rfl
  have in1 : vp_in (nI i + 1) L := by rw [show (1 : Int32) = nI 1 from rfl, nI_add]; exact vp_in_nI (by omega) (by omega)
  have in2 : vp_in (nI i + 2) L := by rw [show (2 : Int32) = nI 2 from rfl, nI_add]; exact vp_in_nI (by omega) (by omega)
  have in3 : vp_in (nI i + 3) L := by rw [show (3 : Int32) = nI 3 from rfl, nI_add]; exact vp_in_nI (by omega) (by omega)
  refine lv_aload_n hx hb dL_law_192 rfl (lv_at hl 1 rfl) ?_
  refine lv_aload_n hx hb dL_law_193 rfl (lv_at hl 0 rfl) ?_
  refine lv_iload_n hx hb dL_law_194 rfl (lv_at hl 3 rfl) ?_
  refine lv_iconst (v := 1) hx hb dL_law_195 (by decide) ?_
  refine lv_iadd hx hb dL_law_196 ?_
  refine va_sld hx hb hX hbl hbA hS in1 dL_law_197 ?_
  refine lv_aload_n hx hb dL_law_198 rfl (lv_at hl 0 rfl) ?_
  refine lv_iload_n hx hb dL_law_199 rfl (lv_at hl 3 rfl) ?_
  refine lv_iconst (v := 2) hx hb dL_law_200 (by decide) ?_
  refine lv_iadd hx hb dL_law_201 ?_
  refine va_sld hx hb hX hbl hbA hS in2 dL_law_202 ?_
  refine lv_aload_n hx hb dL_law_203 rfl (lv_at hl 0 rfl) ?_
  refine lv_iload_n hx hb dL_law_204 rfl (lv_at hl 3 rfl) ?_
  refine lv_iconst (v := 3) hx hb dL_law_205 (by decide) ?_
  refine lv_iadd hx hb dL_law_206 ?_
  refine va_sld hx hb hX hbl hbA hS in3 dL_law_207 ?_
  have hw := hst.2.2.1 σ τ (xs (nI i + 1).toNatClampNeg) (xs (nI i + 2).toNatClampNeg) (xs (nI i + 3).toNatClampNeg) hR
  refine lwN (w := wdC ad cI cJ) (w2 := wdM bd cI) (bd := bd) (M := 40) (As := [.int (xs (nI i + 1).toNatClampNeg), .int (xs (nI i + 2).toNatClampNeg), .int (xs (nI i + 3).toNatClampNeg)]) (rest := []) F hK hPc hPm rfl hdC hA1 hS (c_X9_token l D ad cI cJ hapC H.size _ _ _ _ _ hw) (cwV 3 hts gU_L_23 rfl rfl rfl (by decide +kernel) ⟨Nat.le_of_ble_eq_true rfl, Nat.le_of_ble_eq_true rfl⟩) (va_recv hK hPc (ci := 6) (q0 := 0) rfl rfl) rfl hl.1 rfl (Nat.le_of_ble_eq_true rfl) dL_law_208 ⟨Nat.le_refl _, Nat.le_refl _⟩ (fun r u H locs hw hPc hPm hS => ?_)
  refine lv_aload_n hx hb dL_law_211 rfl (lv_at hl 2 rfl) ?_
  refine lv_aload_n hx hb dL_law_212 rfl (lv_at hl 0 rfl) ?_
  refine lv_iload_n hx hb dL_law_213 rfl (lv_at hl 3 rfl) ?_
  refine lv_iconst (v := 1) hx hb dL_law_214 (by decide) ?_
  refine lv_iadd hx hb dL_law_215 ?_
  refine va_sld hx hb hX hbl hbA hS in1 dL_law_216 ?_
  refine lv_aload_n hx hb dL_law_217 rfl (lv_at hl 0 rfl) ?_
  refine lv_iload_n hx hb dL_law_218 rfl (lv_at hl 3 rfl) ?_
  refine lv_iconst (v := 2) hx hb dL_law_219 (by decide) ?_
  refine lv_iadd hx hb dL_law_220 ?_
  refine va_sld hx hb hX hbl hbA hS in2 dL_law_221 ?_
  refine lv_aload_n hx hb dL_law_222 rfl (lv_at hl 0 rfl) ?_
  refine lv_iload_n hx hb dL_law_223 rfl (lv_at hl 3 rfl) ?_
  refine lv_iconst (v := 3) hx hb dL_law_224 (by decide) ?_
  refine lv_iadd hx hb dL_law_225 ?_
  refine va_sld hx hb hX hbl hbA hS in3 dL_law_226 ?_
  refine lwN (w := wdM bd cI) (w2 := wdC ad cI cJ) (bd := ad) (M := 42) (As := [.int (xs (nI i + 1).toNatClampNeg), .int (xs (nI i + 2).toNatClampNeg), .int (xs (nI i + 3).toNatClampNeg)]) (rest := [.int r]) F hK2 hPm hPc rfl hdM hA2 hS (c_X10_token l D bd cI hapM H.size _ _ _ _ _ hw) (cwV 3 hts gU_L_26 rfl rfl rfl (by decide +kernel) ⟨Nat.le_of_ble_eq_true rfl, Nat.le_of_ble_eq_true rfl⟩) (va_recv hK2 hPm (ci := 7) (q0 := 0) rfl rfl) rfl hl.1 rfl (Nat.le_of_ble_eq_true rfl) dL_law_227 ⟨Nat.le_refl _, Nat.le_refl _⟩ (fun r2 u2 H locs hw hPm hPc hS => ?_)
  obtain ⟨he, hR⟩ := hw
  refine lv_icmp_eq (tgt := 512) hx hb dL_law_230 (by decide) (fun c1 => ?_) (fun c1 => absurd he c1)
  exact kk u u2 H locs ls hR hPc hPm hS hl
set_option maxHeartbeats 4000000 in
set_option maxRecDepth 100000 in
theorem law_clear {p : Program} {l : Launch} {e : Env} {s : State} {m : MethodId} {below : List Frame} {meth : Method} {c : Code} {D : va_G} {ad bd : Nat → Nat} {cI cJ : ClassId} {aP b L : Nat} {xs : Nat → Int32} {Rel : St → St → Prop} (hL : L ≤ 2560) (hst : JSteps Rel) (C0 : lw_At p s m meth c b L xs) (hK : va_K D vwCl [(cI, .int), (cJ, .long)] s) (hapC : apart ad 42) (hapM : apart bd 40) (hdC : ∀ i j, i < 42 → j < 40 → ad i ≠ bd j) (hdM : ∀ i j, i < 40 → j < 42 → bd i ≠ ad j) (hA1 : ∀ i, i < 42 → s.heap.size ≤ ad i) (hA2 : ∀ i, i < 40 → s.heap.size ≤ bd i)
    (hZ : va_Z "TokenFloor$Kind" "PORTS" "[I" (.ref aP) (fun q : Nat => s.heap.size ≤ q) s s.heap ∧ va_T .int aP 22 (fun j => .int (jports j)) (fun q : Nat => s.heap.size ≤ q) s s.heap) {i : Nat} (hi : i + 5 ≤ L) {σ τ : St} (hR : Rel σ τ) {H : Heap} {locs : List Loc} {ls : Array Slot} (hPc : va_P D vwCl (wdC ad cI cJ σ) H) (hPm : va_P D vwCl (wdM bd cI τ) H) (hS : va_S (fun q : Nat => s.heap.size ≤ q) s.heap H locs) (hl : lv_has ls 4 [(0, .ref b), (1, .ref (ad 0)), (2, .ref (bd 0)), (3, .int (nI i))])
    (kk : ∀ (σ τ : St) (H : Heap) (locs : List Loc) (ls : Array Slot), Rel σ τ → va_P D vwCl (wdC ad cI cJ σ) H → va_P D vwCl (wdM bd cI τ) H → va_S (fun q : Nat => s.heap.size ≤ q) s.heap H locs → lv_has ls 4 [(0, .ref b), (1, .ref (ad 0)), (2, .ref (bd 0)), (3, .int (nI i))] → W p l e room_1 s m #[Value.ref b] below meth c H locs 82 101950 (lw_Z below #[Value.ref b] s) (F0 m 512 ls [])) : W p l e room_1 s m #[Value.ref b] below meth c H locs 82 101950 (lw_Z below #[Value.ref b] s) (F0 m 235 ls []) := by
  obtain ⟨hx, hb, hr, hml, hown, hts0, hX, hbl, hlocks, hgv⟩ := C0
  have hts : ∀ w ∈ lw_U, w.before #[Value.ref b] s = true := fun w h => hts0 w (List.mem_filter.mp h).1
  have F : CallFix p m c cL_law 4 s #[Value.ref b] lw_U RL := ⟨hx, hb, hml, hown, hts⟩
  have hbA : ¬ (fun q : Nat => s.heap.size ≤ q) b := Nat.not_le.mpr hbl
  have hK2 : va_K D vwCl [(cI, .int)] s := hK.sub [0] rfl
  have in1 : vp_in (nI i + 1) L := by rw [show (1 : Int32) = nI 1 from rfl, nI_add]; exact vp_in_nI (by omega) (by omega)
  refine lv_aload_n hx hb dL_law_235 rfl (lv_at hl 1 rfl) ?_
  refine lv_aload_n hx hb dL_law_236 rfl (lv_at hl 0 rfl) ?_
  refine lv_iload_n hx hb dL_law_237 rfl (lv_at hl 3 rfl) ?_
  refine lv_iconst (v := 1) hx hb dL_law_238 (by decide) ?_
  refine lv_iadd hx hb dL_law_239 ?_
  refine va_sld hx hb hX hbl hbA hS in1 dL_law_240 ?_
  have hw := hst.2.2.2.1 σ τ (xs (nI i + 1).toNatClampNeg) hR
  refine lwN (w := wdC ad cI cJ) (w2 := wdM bd cI) (bd := bd) (M := 40) (As := [.int (xs (nI i + 1).toNatClampNeg)]) (rest := []) F hK hPc hPm rfl hdC hA1 hS (c_X9_clear l D ad cI cJ hapC H.size _ _ _ hw) (cwV 1 hts gU_L_27 rfl rfl rfl (by decide +kernel) ⟨Nat.le_of_ble_eq_true rfl, Nat.le_of_ble_eq_true rfl⟩) (va_recv hK hPc (ci := 6) (q0 := 0) rfl rfl) rfl hl.1 rfl (Nat.le_of_ble_eq_true rfl) dL_law_241 ⟨Nat.le_refl _, Nat.le_refl _⟩ (fun r u H locs hw hPc hPm hS => ?_)
  obtain ⟨hz1, hw⟩ := hw
  refine lv_aload_n hx hb dL_law_244 rfl (lv_at hl 2 rfl) ?_
  refine lv_aload_n hx hb dL_law_245 rfl (lv_at hl 0 rfl) ?_
  refine lv_iload_n hx hb dL_law_246 rfl (lv_at hl 3 rfl) ?_
  refine lv_iconst (v := 1) hx hb dL_law_247 (by decide) ?_
  refine lv_iadd hx hb dL_law_248 ?_
  refine va_sld hx hb hX hbl hbA hS in1 dL_law_249 ?_
  refine lwN (w := wdM bd cI) (w2 := wdC ad cI cJ) (bd := ad) (M := 42) (As := [.int (xs (nI i + 1).toNatClampNeg)]) (rest := [.int r]) F hK2 hPm hPc rfl hdM hA2 hS (c_X10_clear l D bd cI hapM H.size _ _ _ hw) (cwV 1 hts gU_L_31 rfl rfl rfl (by decide +kernel) ⟨Nat.le_of_ble_eq_true rfl, Nat.le_of_ble_eq_true rfl⟩) (va_recv hK2 hPm (ci := 7) (q0 := 0) rfl rfl) rfl hl.1 rfl (Nat.le_of_ble_eq_true rfl) dL_law_250 ⟨Nat.le_refl _, Nat.le_refl _⟩ (fun r2 u2 H locs hw hPm hPc hS => ?_)
  obtain ⟨hz2, hw⟩ := hw
  obtain ⟨he, hR⟩ := hw
  refine lv_icmp_eq (tgt := 512) hx hb dL_law_253 (by decide) (fun c1 => ?_) (fun c1 => absurd he c1)
  exact kk u u2 H locs ls hR hPc hPm hS hl
set_option maxHeartbeats 4000000 in
set_option maxRecDepth 100000 in
theorem law_run {p : Program} {l : Launch} {e : Env} {s : State} {m : MethodId} {below : List Frame} {meth : Method} {c : Code} {D : va_G} {ad bd : Nat → Nat} {cI cJ : ClassId} {aP b L : Nat} {xs : Nat → Int32} {Rel : St → St → Prop} (hL : L ≤ 2560) (hst : JSteps Rel) (C0 : lw_At p s m meth c b L xs) (hK : va_K D vwCl [(cI, .int), (cJ, .long)] s) (hapC : apart ad 42) (hapM : apart bd 40) (hdC : ∀ i j, i < 42 → j < 40 → ad i ≠ bd j) (hdM : ∀ i j, i < 40 → j < 42 → bd i ≠ ad j) (hA1 : ∀ i, i < 42 → s.heap.size ≤ ad i) (hA2 : ∀ i, i < 40 → s.heap.size ≤ bd i)
    (hZ : va_Z "TokenFloor$Kind" "PORTS" "[I" (.ref aP) (fun q : Nat => s.heap.size ≤ q) s s.heap ∧ va_T .int aP 22 (fun j => .int (jports j)) (fun q : Nat => s.heap.size ≤ q) s s.heap) {i : Nat} (hi : i + 5 ≤ L) {σ τ : St} (hR : Rel σ τ) {H : Heap} {locs : List Loc} {ls : Array Slot} (hPc : va_P D vwCl (wdC ad cI cJ σ) H) (hPm : va_P D vwCl (wdM bd cI τ) H) (hS : va_S (fun q : Nat => s.heap.size ≤ q) s.heap H locs) (hl : lv_has ls 4 [(0, .ref b), (1, .ref (ad 0)), (2, .ref (bd 0)), (3, .int (nI i))])
    (kk : ∀ (σ τ : St) (H : Heap) (locs : List Loc) (ls : Array Slot), Rel σ τ → va_P D vwCl (wdC ad cI cJ σ) H → va_P D vwCl (wdM bd cI τ) H → va_S (fun q : Nat => s.heap.size ≤ q) s.heap H locs → lv_has ls 4 [(0, .ref b), (1, .ref (ad 0)), (2, .ref (bd 0)), (3, .int (nI i))] → W p l e room_1 s m #[Value.ref b] below meth c H locs 82 101950 (lw_Z below #[Value.ref b] s) (F0 m 512 ls [])) : W p l e room_1 s m #[Value.ref b] below meth c H locs 82 101950 (lw_Z below #[Value.ref b] s) (F0 m 258 ls []) := by
  obtain ⟨hx, hb, hr, hml, hown, hts0, hX, hbl, hlocks, hgv⟩ := C0
  have hts : ∀ w ∈ lw_U, w.before #[Value.ref b] s = true := fun w h => hts0 w (List.mem_filter.mp h).1
  have F : CallFix p m c cL_law 4 s #[Value.ref b] lw_U RL := ⟨hx, hb, hml, hown, hts⟩
  have hbA : ¬ (fun q : Nat => s.heap.size ≤ q) b := Nat.not_le.mpr hbl
  have hK2 : va_K D vwCl [(cI, .int)] s := hK.sub [0] rfl
  have in1 : vp_in (nI i + 1) L := by rw [show (1 : Int32) = nI 1 from rfl, nI_add]; exact vp_in_nI (by omega) (by omega)
  have in2 : vp_in (nI i + 2) L := by rw [show (2 : Int32) = nI 2 from rfl, nI_add]; exact vp_in_nI (by omega) (by omega)
  refine lv_aload_n hx hb dL_law_258 rfl (lv_at hl 1 rfl) ?_
  refine lv_aload_n hx hb dL_law_259 rfl (lv_at hl 0 rfl) ?_
  refine lv_iload_n hx hb dL_law_260 rfl (lv_at hl 3 rfl) ?_
  refine lv_iconst (v := 1) hx hb dL_law_261 (by decide) ?_
  refine lv_iadd hx hb dL_law_262 ?_
  refine va_sld hx hb hX hbl hbA hS in1 dL_law_263 ?_
  refine lv_aload_n hx hb dL_law_264 rfl (lv_at hl 0 rfl) ?_
  refine lv_iload_n hx hb dL_law_265 rfl (lv_at hl 3 rfl) ?_
  refine lv_iconst (v := 2) hx hb dL_law_266 (by decide) ?_
  refine lv_iadd hx hb dL_law_267 ?_
  refine va_sld hx hb hX hbl hbA hS in2 dL_law_268 ?_
  have hw := hst.2.2.2.2.1 σ τ (xs (nI i + 1).toNatClampNeg) (xs (nI i + 2).toNatClampNeg) hR
  refine lwN (w := wdC ad cI cJ) (w2 := wdM bd cI) (bd := bd) (M := 40) (As := [.int (xs (nI i + 1).toNatClampNeg), .int (xs (nI i + 2).toNatClampNeg)]) (rest := []) F hK hPc hPm rfl hdC hA1 hS (c_X9_run l D ad cI cJ hapC H.size _ _ _ _ hw) (cwV 2 hts gU_L_32 rfl rfl rfl (by decide +kernel) ⟨Nat.le_of_ble_eq_true rfl, Nat.le_of_ble_eq_true rfl⟩) (va_recv hK hPc (ci := 6) (q0 := 0) rfl rfl) rfl hl.1 rfl (Nat.le_of_ble_eq_true rfl) dL_law_269 ⟨Nat.le_refl _, Nat.le_refl _⟩ (fun r u H locs hw hPc hPm hS => ?_)
  refine lv_aload_n hx hb dL_law_272 rfl (lv_at hl 2 rfl) ?_
  refine lv_aload_n hx hb dL_law_273 rfl (lv_at hl 0 rfl) ?_
  refine lv_iload_n hx hb dL_law_274 rfl (lv_at hl 3 rfl) ?_
  refine lv_iconst (v := 1) hx hb dL_law_275 (by decide) ?_
  refine lv_iadd hx hb dL_law_276 ?_
  refine va_sld hx hb hX hbl hbA hS in1 dL_law_277 ?_
  refine lv_aload_n hx hb dL_law_278 rfl (lv_at hl 0 rfl) ?_
  refine lv_iload_n hx hb dL_law_279 rfl (lv_at hl 3 rfl) ?_
  refine lv_iconst (v := 2) hx hb dL_law_280 (by decide) ?_
  refine lv_iadd hx hb dL_law_281 ?_
  refine va_sld hx hb hX hbl hbA hS in2 dL_law_282 ?_
  refine lwN (w := wdM bd cI) (w2 := wdC ad cI cJ) (bd := ad) (M := 42) (As := [.int (xs (nI i + 1).toNatClampNeg), .int (xs (nI i + 2).toNatClampNeg)]) (rest := [.int r]) F hK2 hPm hPc rfl hdM hA2 hS (c_X10_run l D bd cI hapM H.size _ _ _ _ hw) (cwV 2 hts gU_L_36 rfl rfl rfl (by decide +kernel) ⟨Nat.le_of_ble_eq_true rfl, Nat.le_of_ble_eq_true rfl⟩) (va_recv hK2 hPm (ci := 7) (q0 := 0) rfl rfl) rfl hl.1 rfl (Nat.le_of_ble_eq_true rfl) dL_law_283 ⟨Nat.le_refl _, Nat.le_refl _⟩ (fun r2 u2 H locs hw hPm hPc hS => ?_)
  obtain ⟨he, hR⟩ := hw
  refine lv_icmp_eq (tgt := 512) hx hb dL_law_286 (by decide) (fun c1 => ?_) (fun c1 => absurd he c1)
  exact kk u u2 H locs ls hR hPc hPm hS hl
set_option maxHeartbeats 4000000 in
set_option maxRecDepth 100000 in
theorem law_ticks {p : Program} {l : Launch} {e : Env} {s : State} {m : MethodId} {below : List Frame} {meth : Method} {c : Code} {D : va_G} {ad bd : Nat → Nat} {cI cJ : ClassId} {aP b L : Nat} {xs : Nat → Int32} {Rel : St → St → Prop} (hL : L ≤ 2560) (hst : JSteps Rel) (C0 : lw_At p s m meth c b L xs) (hK : va_K D vwCl [(cI, .int), (cJ, .long)] s) (hapC : apart ad 42) (hapM : apart bd 40) (hdC : ∀ i j, i < 42 → j < 40 → ad i ≠ bd j) (hdM : ∀ i j, i < 40 → j < 42 → bd i ≠ ad j) (hA1 : ∀ i, i < 42 → s.heap.size ≤ ad i) (hA2 : ∀ i, i < 40 → s.heap.size ≤ bd i)
    (hZ : va_Z "TokenFloor$Kind" "PORTS" "[I" (.ref aP) (fun q : Nat => s.heap.size ≤ q) s s.heap ∧ va_T .int aP 22 (fun j => .int (jports j)) (fun q : Nat => s.heap.size ≤ q) s s.heap) {i : Nat} (hi : i + 5 ≤ L) {σ τ : St} (hR : Rel σ τ) {H : Heap} {locs : List Loc} {ls : Array Slot} (hPc : va_P D vwCl (wdC ad cI cJ σ) H) (hPm : va_P D vwCl (wdM bd cI τ) H) (hS : va_S (fun q : Nat => s.heap.size ≤ q) s.heap H locs) (hl : lv_has ls 4 [(0, .ref b), (1, .ref (ad 0)), (2, .ref (bd 0)), (3, .int (nI i))])
    (kk : ∀ (σ τ : St) (H : Heap) (locs : List Loc) (ls : Array Slot), Rel σ τ → va_P D vwCl (wdC ad cI cJ σ) H → va_P D vwCl (wdM bd cI τ) H → va_S (fun q : Nat => s.heap.size ≤ q) s.heap H locs → lv_has ls 4 [(0, .ref b), (1, .ref (ad 0)), (2, .ref (bd 0)), (3, .int (nI i))] → W p l e room_1 s m #[Value.ref b] below meth c H locs 82 101950 (lw_Z below #[Value.ref b] s) (F0 m 512 ls [])) : W p l e room_1 s m #[Value.ref b] below meth c H locs 82 101950 (lw_Z below #[Value.ref b] s) (F0 m 291 ls []) := by
  obtain ⟨hx, hb, hr, hml, hown, hts0, hX, hbl, hlocks, hgv⟩ := C0
  have hts : ∀ w ∈ lw_U, w.before #[Value.ref b] s = true := fun w h => hts0 w (List.mem_filter.mp h).1
  have F : CallFix p m c cL_law 4 s #[Value.ref b] lw_U RL := ⟨hx, hb, hml, hown, hts⟩
  have hbA : ¬ (fun q : Nat => s.heap.size ≤ q) b := Nat.not_le.mpr hbl
  have hK2 : va_K D vwCl [(cI, .int)] s := hK.sub [0] rfl
  have in1 : vp_in (nI i + 1) L := by rw [show (1 : Int32) = nI 1 from rfl, nI_add]; exact vp_in_nI (by omega) (by omega)
  refine lv_aload_n hx hb dL_law_291 rfl (lv_at hl 1 rfl) ?_
  refine lv_aload_n hx hb dL_law_292 rfl (lv_at hl 0 rfl) ?_
  refine lv_iload_n hx hb dL_law_293 rfl (lv_at hl 3 rfl) ?_
  refine lv_iconst (v := 1) hx hb dL_law_294 (by decide) ?_
  refine lv_iadd hx hb dL_law_295 ?_
  refine va_sld hx hb hX hbl hbA hS in1 dL_law_296 ?_
  have hw := hst.2.2.2.2.2.1 σ τ (xs (nI i + 1).toNatClampNeg) hR
  refine lwN (w := wdC ad cI cJ) (w2 := wdM bd cI) (bd := bd) (M := 40) (As := [.int (xs (nI i + 1).toNatClampNeg)]) (rest := []) F hK hPc hPm rfl hdC hA1 hS (c_X9_ticks l D ad cI cJ hapC H.size _ _ _ hw) (cwV 1 hts gU_L_37 rfl rfl rfl (by decide +kernel) ⟨Nat.le_of_ble_eq_true rfl, Nat.le_of_ble_eq_true rfl⟩) (va_recv hK hPc (ci := 6) (q0 := 0) rfl rfl) rfl hl.1 rfl (Nat.le_of_ble_eq_true rfl) dL_law_297 ⟨Nat.le_refl _, Nat.le_refl _⟩ (fun r u H locs hw hPc hPm hS => ?_)
  refine lv_aload_n hx hb dL_law_300 rfl (lv_at hl 2 rfl) ?_
  refine lv_aload_n hx hb dL_law_301 rfl (lv_at hl 0 rfl) ?_
  refine lv_iload_n hx hb dL_law_302 rfl (lv_at hl 3 rfl) ?_
  refine lv_iconst (v := 1) hx hb dL_law_303 (by decide) ?_
  refine lv_iadd hx hb dL_law_304 ?_
  refine va_sld hx hb hX hbl hbA hS in1 dL_law_305 ?_
  refine lwN (w := wdM bd cI) (w2 := wdC ad cI cJ) (bd := ad) (M := 42) (As := [.int (xs (nI i + 1).toNatClampNeg)]) (rest := [.int r]) F hK2 hPm hPc rfl hdM hA2 hS (c_X10_ticks l D bd cI hapM H.size _ _ _ hw) (cwV 1 hts gU_L_41 rfl rfl rfl (by decide +kernel) ⟨Nat.le_of_ble_eq_true rfl, Nat.le_of_ble_eq_true rfl⟩) (va_recv hK2 hPm (ci := 7) (q0 := 0) rfl rfl) rfl hl.1 rfl (Nat.le_of_ble_eq_true rfl) dL_law_306 ⟨Nat.le_refl _, Nat.le_refl _⟩ (fun r2 u2 H locs hw hPm hPc hS => ?_)
  obtain ⟨he, hR⟩ := hw
  refine lv_icmp_eq (tgt := 512) hx hb dL_law_309 (by decide) (fun c1 => ?_) (fun c1 => absurd he c1)
  exact kk u u2 H locs ls hR hPc hPm hS hl
set_option maxHeartbeats 4000000 in
set_option maxRecDepth 100000 in
theorem law_about {p : Program} {l : Launch} {e : Env} {s : State} {m : MethodId} {below : List Frame} {meth : Method} {c : Code} {D : va_G} {ad bd : Nat → Nat} {cI cJ : ClassId} {aP b L : Nat} {xs : Nat → Int32} {Rel : St → St → Prop} (hL : L ≤ 2560) (hst : JSteps Rel) (C0 : lw_At p s m meth c b L xs) (hK : va_K D vwCl [(cI, .int), (cJ, .long)] s) (hapC : apart ad 42) (hapM : apart bd 40) (hdC : ∀ i j, i < 42 → j < 40 → ad i ≠ bd j) (hdM : ∀ i j, i < 40 → j < 42 → bd i ≠ ad j) (hA1 : ∀ i, i < 42 → s.heap.size ≤ ad i) (hA2 : ∀ i, i < 40 → s.heap.size ≤ bd i)
    (hZ : va_Z "TokenFloor$Kind" "PORTS" "[I" (.ref aP) (fun q : Nat => s.heap.size ≤ q) s s.heap ∧ va_T .int aP 22 (fun j => .int (jports j)) (fun q : Nat => s.heap.size ≤ q) s s.heap) {i : Nat} (hi : i + 5 ≤ L) {σ τ : St} (hR : Rel σ τ) {H : Heap} {locs : List Loc} {ls : Array Slot} (hPc : va_P D vwCl (wdC ad cI cJ σ) H) (hPm : va_P D vwCl (wdM bd cI τ) H) (hS : va_S (fun q : Nat => s.heap.size ≤ q) s.heap H locs) (hl : lv_has ls 4 [(0, .ref b), (1, .ref (ad 0)), (2, .ref (bd 0)), (3, .int (nI i))])
    (kk : ∀ (σ τ : St) (H : Heap) (locs : List Loc) (ls : Array Slot), Rel σ τ → va_P D vwCl (wdC ad cI cJ σ) H → va_P D vwCl (wdM bd cI τ) H → va_S (fun q : Nat => s.heap.size ≤ q) s.heap H locs → lv_has ls 4 [(0, .ref b), (1, .ref (ad 0)), (2, .ref (bd 0)), (3, .int (nI i))] → W p l e room_1 s m #[Value.ref b] below meth c H locs 82 101950 (lw_Z below #[Value.ref b] s) (F0 m 512 ls [])) : W p l e room_1 s m #[Value.ref b] below meth c H locs 82 101950 (lw_Z below #[Value.ref b] s) (F0 m 314 ls []) := by
  obtain ⟨hx, hb, hr, hml, hown, hts0, hX, hbl, hlocks, hgv⟩ := C0
  have hts : ∀ w ∈ lw_U, w.before #[Value.ref b] s = true := fun w h => hts0 w (List.mem_filter.mp h).1
  have F : CallFix p m c cL_law 4 s #[Value.ref b] lw_U RL := ⟨hx, hb, hml, hown, hts⟩
  have hbA : ¬ (fun q : Nat => s.heap.size ≤ q) b := Nat.not_le.mpr hbl
  have hK2 : va_K D vwCl [(cI, .int)] s := hK.sub [0] rfl
  have in1 : vp_in (nI i + 1) L := by rw [show (1 : Int32) = nI 1 from rfl, nI_add]; exact vp_in_nI (by omega) (by omega)
  refine lv_aload_n hx hb dL_law_314 rfl (lv_at hl 1 rfl) ?_
  refine lv_aload_n hx hb dL_law_315 rfl (lv_at hl 0 rfl) ?_
  refine lv_iload_n hx hb dL_law_316 rfl (lv_at hl 3 rfl) ?_
  refine lv_iconst (v := 1) hx hb dL_law_317 (by decide) ?_
  refine lv_iadd hx hb dL_law_318 ?_
  refine va_sld hx hb hX hbl hbA hS in1 dL_law_319 ?_
  have hw := hst.2.2.2.2.2.2.1 σ τ (xs (nI i + 1).toNatClampNeg) hR
  refine lwN (w := wdC ad cI cJ) (w2 := wdM bd cI) (bd := bd) (M := 40) (As := [.int (xs (nI i + 1).toNatClampNeg)]) (rest := []) F hK hPc hPm rfl hdC hA1 hS (c_X9_about l D ad cI cJ hapC H.size _ _ _ hw) (cwV 1 hts gU_L_42 rfl rfl rfl (by decide +kernel) ⟨Nat.le_of_ble_eq_true rfl, Nat.le_of_ble_eq_true rfl⟩) (va_recv hK hPc (ci := 6) (q0 := 0) rfl rfl) rfl hl.1 rfl (Nat.le_of_ble_eq_true rfl) dL_law_320 ⟨Nat.le_refl _, Nat.le_refl _⟩ (fun r u H locs hw hPc hPm hS => ?_)
  refine lv_aload_n hx hb dL_law_323 rfl (lv_at hl 2 rfl) ?_
  refine lv_aload_n hx hb dL_law_324 rfl (lv_at hl 0 rfl) ?_
  refine lv_iload_n hx hb dL_law_325 rfl (lv_at hl 3 rfl) ?_
  refine lv_iconst (v := 1) hx hb dL_law_326 (by decide) ?_
  refine lv_iadd hx hb dL_law_327 ?_
  refine va_sld hx hb hX hbl hbA hS in1 dL_law_328 ?_
  refine lwN (w := wdM bd cI) (w2 := wdC ad cI cJ) (bd := ad) (M := 42) (As := [.int (xs (nI i + 1).toNatClampNeg)]) (rest := [.int r]) F hK2 hPm hPc rfl hdM hA2 hS (c_X10_about l D bd cI hapM H.size _ _ _ hw) (cwV 1 hts gU_L_45 rfl rfl rfl (by decide +kernel) ⟨Nat.le_of_ble_eq_true rfl, Nat.le_of_ble_eq_true rfl⟩) (va_recv hK2 hPm (ci := 7) (q0 := 0) rfl rfl) rfl hl.1 rfl (Nat.le_of_ble_eq_true rfl) dL_law_329 ⟨Nat.le_refl _, Nat.le_refl _⟩ (fun r2 u2 H locs hw hPm hPc hS => ?_)
  obtain ⟨he, hR⟩ := hw
  refine lv_icmp_eq (tgt := 512) hx hb dL_law_332 (by decide) (fun c1 => ?_) (fun c1 => absurd he c1)
  exact kk u u2 H locs ls hR hPc hPm hS hl
set_option maxHeartbeats 4000000 in
set_option maxRecDepth 100000 in
theorem law_end {p : Program} {l : Launch} {e : Env} {s : State} {m : MethodId} {below : List Frame} {meth : Method} {c : Code} {D : va_G} {ad bd : Nat → Nat} {cI cJ : ClassId} {aP b L : Nat} {xs : Nat → Int32} {Rel : St → St → Prop} (hL : L ≤ 2560) (hst : JSteps Rel) (C0 : lw_At p s m meth c b L xs) (hK : va_K D vwCl [(cI, .int), (cJ, .long)] s) (hapC : apart ad 42) (hapM : apart bd 40) (hdC : ∀ i j, i < 42 → j < 40 → ad i ≠ bd j) (hdM : ∀ i j, i < 40 → j < 42 → bd i ≠ ad j) (hA1 : ∀ i, i < 42 → s.heap.size ≤ ad i) (hA2 : ∀ i, i < 40 → s.heap.size ≤ bd i)
    (hZ : va_Z "TokenFloor$Kind" "PORTS" "[I" (.ref aP) (fun q : Nat => s.heap.size ≤ q) s s.heap ∧ va_T .int aP 22 (fun j => .int (jports j)) (fun q : Nat => s.heap.size ≤ q) s s.heap) {i : Nat} (hi : i + 5 ≤ L) {σ τ : St} (hR : Rel σ τ) {H : Heap} {locs : List Loc} {ls : Array Slot} (hPc : va_P D vwCl (wdC ad cI cJ σ) H) (hPm : va_P D vwCl (wdM bd cI τ) H) (hS : va_S (fun q : Nat => s.heap.size ≤ q) s.heap H locs) (hl : lv_has ls 4 [(0, .ref b), (1, .ref (ad 0)), (2, .ref (bd 0)), (3, .int (nI i))])
    (kk : ∀ (σ τ : St) (H : Heap) (locs : List Loc) (ls : Array Slot), Rel σ τ → va_P D vwCl (wdC ad cI cJ σ) H → va_P D vwCl (wdM bd cI τ) H → va_S (fun q : Nat => s.heap.size ≤ q) s.heap H locs → lv_has ls 4 [(0, .ref b), (1, .ref (ad 0)), (2, .ref (bd 0)), (3, .int (nI i))] → W p l e room_1 s m #[Value.ref b] below meth c H locs 82 101950 (lw_Z below #[Value.ref b] s) (F0 m 512 ls [])) : W p l e room_1 s m #[Value.ref b] below meth c H locs 82 101950 (lw_Z below #[Value.ref b] s) (F0 m 337 ls []) := by
  obtain ⟨hx, hb, hr, hml, hown, hts0, hX, hbl, hlocks, hgv⟩ := C0
  have hts : ∀ w ∈ lw_U, w.before #[Value.ref b] s = true := fun w h => hts0 w (List.mem_filter.mp h).1
  have F : CallFix p m c cL_law 4 s #[Value.ref b] lw_U RL := ⟨hx, hb, hml, hown, hts⟩
  have hbA : ¬ (fun q : Nat => s.heap.size ≤ q) b := Nat.not_le.mpr hbl
  have hK2 : va_K D vwCl [(cI, .int)] s := hK.sub [0] rfl
  have in1 : vp_in (nI i + 1) L := by rw [show (1 : Int32) = nI 1 from rfl, nI_add]; exact vp_in_nI (by omega) (by omega)
  have in2 : vp_in (nI i + 2) L := by rw [show (2 : Int32) = nI 2 from rfl, nI_add]; exact vp_in_nI (by omega) (by omega)
  refine lv_aload_n hx hb dL_law_337 rfl (lv_at hl 1 rfl) ?_
  refine lv_aload_n hx hb dL_law_338 rfl (lv_at hl 0 rfl) ?_
  refine lv_iload_n hx hb dL_law_339 rfl (lv_at hl 3 rfl) ?_
  refine lv_iconst (v := 1) hx hb dL_law_340 (by decide) ?_
  refine lv_iadd hx hb dL_law_341 ?_
  refine va_sld hx hb hX hbl hbA hS in1 dL_law_342 ?_
  refine lv_aload_n hx hb dL_law_343 rfl (lv_at hl 0 rfl) ?_
  refine lv_iload_n hx hb dL_law_344 rfl (lv_at hl 3 rfl) ?_
  refine lv_iconst (v := 2) hx hb dL_law_345 (by decide) ?_
  refine lv_iadd hx hb dL_law_346 ?_
  refine va_sld hx hb hX hbl hbA hS in2 dL_law_347 ?_
  have hw := hst.2.2.2.2.2.2.2.1 σ τ (xs (nI i + 1).toNatClampNeg) (xs (nI i + 2).toNatClampNeg) hR
  refine lwN (w := wdC ad cI cJ) (w2 := wdM bd cI) (bd := bd) (M := 40) (As := [.int (xs (nI i + 1).toNatClampNeg), .int (xs (nI i + 2).toNatClampNeg)]) (rest := []) F hK hPc hPm rfl hdC hA1 hS (c_X9_end l D ad cI cJ hapC H.size _ _ _ _ hw) (cwV 2 hts gU_L_46 rfl rfl rfl (by decide +kernel) ⟨Nat.le_of_ble_eq_true rfl, Nat.le_of_ble_eq_true rfl⟩) (va_recv hK hPc (ci := 6) (q0 := 0) rfl rfl) rfl hl.1 rfl (Nat.le_of_ble_eq_true rfl) dL_law_348 ⟨Nat.le_refl _, Nat.le_refl _⟩ (fun r u H locs hw hPc hPm hS => ?_)
  refine lv_aload_n hx hb dL_law_351 rfl (lv_at hl 2 rfl) ?_
  refine lv_aload_n hx hb dL_law_352 rfl (lv_at hl 0 rfl) ?_
  refine lv_iload_n hx hb dL_law_353 rfl (lv_at hl 3 rfl) ?_
  refine lv_iconst (v := 1) hx hb dL_law_354 (by decide) ?_
  refine lv_iadd hx hb dL_law_355 ?_
  refine va_sld hx hb hX hbl hbA hS in1 dL_law_356 ?_
  refine lv_aload_n hx hb dL_law_357 rfl (lv_at hl 0 rfl) ?_
  refine lv_iload_n hx hb dL_law_358 rfl (lv_at hl 3 rfl) ?_
  refine lv_iconst (v := 2) hx hb dL_law_359 (by decide) ?_
  refine lv_iadd hx hb dL_law_360 ?_
  refine va_sld hx hb hX hbl hbA hS in2 dL_law_361 ?_
  refine lwN (w := wdM bd cI) (w2 := wdC ad cI cJ) (bd := ad) (M := 42) (As := [.int (xs (nI i + 1).toNatClampNeg), .int (xs (nI i + 2).toNatClampNeg)]) (rest := [.int r]) F hK2 hPm hPc rfl hdM hA2 hS (c_X10_end l D bd cI hapM H.size _ _ _ _ hw) (cwV 2 hts gU_L_49 rfl rfl rfl (by decide +kernel) ⟨Nat.le_of_ble_eq_true rfl, Nat.le_of_ble_eq_true rfl⟩) (va_recv hK2 hPm (ci := 7) (q0 := 0) rfl rfl) rfl hl.1 rfl (Nat.le_of_ble_eq_true rfl) dL_law_362 ⟨Nat.le_refl _, Nat.le_refl _⟩ (fun r2 u2 H locs hw hPm hPc hS => ?_)
  obtain ⟨he, hR⟩ := hw
  refine lv_icmp_eq (tgt := 512) hx hb dL_law_365 (by decide) (fun c1 => ?_) (fun c1 => absurd he c1)
  exact kk u u2 H locs ls hR hPc hPm hS hl
set_option maxHeartbeats 4000000 in
set_option maxRecDepth 100000 in
theorem law_fired {p : Program} {l : Launch} {e : Env} {s : State} {m : MethodId} {below : List Frame} {meth : Method} {c : Code} {D : va_G} {ad bd : Nat → Nat} {cI cJ : ClassId} {aP b L : Nat} {xs : Nat → Int32} {Rel : St → St → Prop} (hL : L ≤ 2560) (hst : JSteps Rel) (C0 : lw_At p s m meth c b L xs) (hK : va_K D vwCl [(cI, .int), (cJ, .long)] s) (hapC : apart ad 42) (hapM : apart bd 40) (hdC : ∀ i j, i < 42 → j < 40 → ad i ≠ bd j) (hdM : ∀ i j, i < 40 → j < 42 → bd i ≠ ad j) (hA1 : ∀ i, i < 42 → s.heap.size ≤ ad i) (hA2 : ∀ i, i < 40 → s.heap.size ≤ bd i)
    (hZ : va_Z "TokenFloor$Kind" "PORTS" "[I" (.ref aP) (fun q : Nat => s.heap.size ≤ q) s s.heap ∧ va_T .int aP 22 (fun j => .int (jports j)) (fun q : Nat => s.heap.size ≤ q) s s.heap) {i : Nat} (hi : i + 5 ≤ L) {σ τ : St} (hR : Rel σ τ) {H : Heap} {locs : List Loc} {ls : Array Slot} (hPc : va_P D vwCl (wdC ad cI cJ σ) H) (hPm : va_P D vwCl (wdM bd cI τ) H) (hS : va_S (fun q : Nat => s.heap.size ≤ q) s.heap H locs) (hl : lv_has ls 4 [(0, .ref b), (1, .ref (ad 0)), (2, .ref (bd 0)), (3, .int (nI i))])
    (kk : ∀ (σ τ : St) (H : Heap) (locs : List Loc) (ls : Array Slot), Rel σ τ → va_P D vwCl (wdC ad cI cJ σ) H → va_P D vwCl (wdM bd cI τ) H → va_S (fun q : Nat => s.heap.size ≤ q) s.heap H locs → lv_has ls 4 [(0, .ref b), (1, .ref (ad 0)), (2, .ref (bd 0)), (3, .int (nI i))] → W p l e room_1 s m #[Value.ref b] below meth c H locs 82 101950 (lw_Z below #[Value.ref b] s) (F0 m 512 ls [])) : W p l e room_1 s m #[Value.ref b] below meth c H locs 82 101950 (lw_Z below #[Value.ref b] s) (F0 m 370 ls []) := by
  obtain ⟨hx, hb, hr, hml, hown, hts0, hX, hbl, hlocks, hgv⟩ := C0
  have hts : ∀ w ∈ lw_U, w.before #[Value.ref b] s = true := fun w h => hts0 w (List.mem_filter.mp h).1
  have F : CallFix p m c cL_law 4 s #[Value.ref b] lw_U RL := ⟨hx, hb, hml, hown, hts⟩
  have hbA : ¬ (fun q : Nat => s.heap.size ≤ q) b := Nat.not_le.mpr hbl
  have hK2 : va_K D vwCl [(cI, .int)] s := hK.sub [0] rfl
  have in1 : vp_in (nI i + 1) L := by rw [show (1 : Int32) = nI 1 from rfl, nI_add]; exact vp_in_nI (by omega) (by omega)
  refine lv_aload_n hx hb dL_law_370 rfl (lv_at hl 1 rfl) ?_
  refine lv_aload_n hx hb dL_law_371 rfl (lv_at hl 0 rfl) ?_
  refine lv_iload_n hx hb dL_law_372 rfl (lv_at hl 3 rfl) ?_
  refine lv_iconst (v := 1) hx hb dL_law_373 (by decide) ?_
  refine lv_iadd hx hb dL_law_374 ?_
  refine va_sld hx hb hX hbl hbA hS in1 dL_law_375 ?_
  have hw := hst.2.2.2.2.2.2.2.2.1 σ τ (xs (nI i + 1).toNatClampNeg) hR
  refine lwN (w := wdC ad cI cJ) (w2 := wdM bd cI) (bd := bd) (M := 40) (As := [.int (xs (nI i + 1).toNatClampNeg)]) (rest := []) F hK hPc hPm rfl hdC hA1 hS (c_X9_fired l D ad cI cJ hapC H.size _ _ _ hw) (cwV 1 hts gU_L_50 rfl rfl rfl (by decide +kernel) ⟨Nat.le_of_ble_eq_true rfl, Nat.le_of_ble_eq_true rfl⟩) (va_recv hK hPc (ci := 6) (q0 := 0) rfl rfl) rfl hl.1 rfl (Nat.le_of_ble_eq_true rfl) dL_law_376 ⟨Nat.le_refl _, Nat.le_refl _⟩ (fun r u H locs hw hPc hPm hS => ?_)
  refine lv_aload_n hx hb dL_law_379 rfl (lv_at hl 2 rfl) ?_
  refine lv_aload_n hx hb dL_law_380 rfl (lv_at hl 0 rfl) ?_
  refine lv_iload_n hx hb dL_law_381 rfl (lv_at hl 3 rfl) ?_
  refine lv_iconst (v := 1) hx hb dL_law_382 (by decide) ?_
  refine lv_iadd hx hb dL_law_383 ?_
  refine va_sld hx hb hX hbl hbA hS in1 dL_law_384 ?_
  refine lwN (w := wdM bd cI) (w2 := wdC ad cI cJ) (bd := ad) (M := 42) (As := [.int (xs (nI i + 1).toNatClampNeg)]) (rest := [.int r]) F hK2 hPm hPc rfl hdM hA2 hS (c_X10_fired l D bd cI hapM H.size _ _ _ hw) (cwV 1 hts gU_L_53 rfl rfl rfl (by decide +kernel) ⟨Nat.le_of_ble_eq_true rfl, Nat.le_of_ble_eq_true rfl⟩) (va_recv hK2 hPm (ci := 7) (q0 := 0) rfl rfl) rfl hl.1 rfl (Nat.le_of_ble_eq_true rfl) dL_law_385 ⟨Nat.le_refl _, Nat.le_refl _⟩ (fun r2 u2 H locs hw hPm hPc hS => ?_)
  obtain ⟨he, hR⟩ := hw
  refine lv_icmp_eq (tgt := 512) hx hb dL_law_388 (by decide) (fun c1 => ?_) (fun c1 => absurd he c1)
  exact kk u u2 H locs ls hR hPc hPm hS hl
set_option maxHeartbeats 4000000 in
set_option maxRecDepth 100000 in
theorem law_cell {p : Program} {l : Launch} {e : Env} {s : State} {m : MethodId} {below : List Frame} {meth : Method} {c : Code} {D : va_G} {ad bd : Nat → Nat} {cI cJ : ClassId} {aP b L : Nat} {xs : Nat → Int32} {Rel : St → St → Prop} (hL : L ≤ 2560) (hst : JSteps Rel) (C0 : lw_At p s m meth c b L xs) (hK : va_K D vwCl [(cI, .int), (cJ, .long)] s) (hapC : apart ad 42) (hapM : apart bd 40) (hdC : ∀ i j, i < 42 → j < 40 → ad i ≠ bd j) (hdM : ∀ i j, i < 40 → j < 42 → bd i ≠ ad j) (hA1 : ∀ i, i < 42 → s.heap.size ≤ ad i) (hA2 : ∀ i, i < 40 → s.heap.size ≤ bd i)
    (hZ : va_Z "TokenFloor$Kind" "PORTS" "[I" (.ref aP) (fun q : Nat => s.heap.size ≤ q) s s.heap ∧ va_T .int aP 22 (fun j => .int (jports j)) (fun q : Nat => s.heap.size ≤ q) s s.heap) {i : Nat} (hi : i + 5 ≤ L) {σ τ : St} (hR : Rel σ τ) {H : Heap} {locs : List Loc} {ls : Array Slot} (hPc : va_P D vwCl (wdC ad cI cJ σ) H) (hPm : va_P D vwCl (wdM bd cI τ) H) (hS : va_S (fun q : Nat => s.heap.size ≤ q) s.heap H locs) (hl : lv_has ls 4 [(0, .ref b), (1, .ref (ad 0)), (2, .ref (bd 0)), (3, .int (nI i))])
    (kk : ∀ (σ τ : St) (H : Heap) (locs : List Loc) (ls : Array Slot), Rel σ τ → va_P D vwCl (wdC ad cI cJ σ) H → va_P D vwCl (wdM bd cI τ) H → va_S (fun q : Nat => s.heap.size ≤ q) s.heap H locs → lv_has ls 4 [(0, .ref b), (1, .ref (ad 0)), (2, .ref (bd 0)), (3, .int (nI i))] → W p l e room_1 s m #[Value.ref b] below meth c H locs 82 101950 (lw_Z below #[Value.ref b] s) (F0 m 512 ls [])) : W p l e room_1 s m #[Value.ref b] below meth c H locs 82 101950 (lw_Z below #[Value.ref b] s) (F0 m 393 ls []) := by
  obtain ⟨hx, hb, hr, hml, hown, hts0, hX, hbl, hlocks, hgv⟩ := C0
  have hts : ∀ w ∈ lw_U, w.before #[Value.ref b] s = true := fun w h => hts0 w (List.mem_filter.mp h).1
  have F : CallFix p m c cL_law 4 s #[Value.ref b] lw_U RL := ⟨hx, hb, hml, hown, hts⟩
  have hbA : ¬ (fun q : Nat => s.heap.size ≤ q) b := Nat.not_le.mpr hbl
  have hK2 : va_K D vwCl [(cI, .int)] s := hK.sub [0] rfl
  have in1 : vp_in (nI i + 1) L := by rw [show (1 : Int32) = nI 1 from rfl, nI_add]; exact vp_in_nI (by omega) (by omega)
  have in2 : vp_in (nI i + 2) L := by rw [show (2 : Int32) = nI 2 from rfl, nI_add]; exact vp_in_nI (by omega) (by omega)
  have in3 : vp_in (nI i + 3) L := by rw [show (3 : Int32) = nI 3 from rfl, nI_add]; exact vp_in_nI (by omega) (by omega)
  refine lv_aload_n hx hb dL_law_393 rfl (lv_at hl 1 rfl) ?_
  refine lv_aload_n hx hb dL_law_394 rfl (lv_at hl 0 rfl) ?_
  refine lv_iload_n hx hb dL_law_395 rfl (lv_at hl 3 rfl) ?_
  refine lv_iconst (v := 1) hx hb dL_law_396 (by decide) ?_
  refine lv_iadd hx hb dL_law_397 ?_
  refine va_sld hx hb hX hbl hbA hS in1 dL_law_398 ?_
  refine lv_aload_n hx hb dL_law_399 rfl (lv_at hl 0 rfl) ?_
  refine lv_iload_n hx hb dL_law_400 rfl (lv_at hl 3 rfl) ?_
  refine lv_iconst (v := 2) hx hb dL_law_401 (by decide) ?_
  refine lv_iadd hx hb dL_law_402 ?_
  refine va_sld hx hb hX hbl hbA hS in2 dL_law_403 ?_
  refine lv_aload_n hx hb dL_law_404 rfl (lv_at hl 0 rfl) ?_
  refine lv_iload_n hx hb dL_law_405 rfl (lv_at hl 3 rfl) ?_
  refine lv_iconst (v := 3) hx hb dL_law_406 (by decide) ?_
  refine lv_iadd hx hb dL_law_407 ?_
  refine va_sld hx hb hX hbl hbA hS in3 dL_law_408 ?_
  have hw := hst.2.2.2.2.2.2.2.2.2.1 σ τ (xs (nI i + 1).toNatClampNeg) (xs (nI i + 2).toNatClampNeg) (xs (nI i + 3).toNatClampNeg) hR
  refine lwN (w := wdC ad cI cJ) (w2 := wdM bd cI) (bd := bd) (M := 40) (As := [.int (xs (nI i + 1).toNatClampNeg), .int (xs (nI i + 2).toNatClampNeg), .int (xs (nI i + 3).toNatClampNeg)]) (rest := []) F hK hPc hPm rfl hdC hA1 hS (c_X9_cell l D ad cI cJ hapC H.size _ _ _ _ _ hw) (cwV 3 hts gU_L_54 rfl rfl rfl (by decide +kernel) ⟨Nat.le_of_ble_eq_true rfl, Nat.le_of_ble_eq_true rfl⟩) (va_recv hK hPc (ci := 6) (q0 := 0) rfl rfl) rfl hl.1 rfl (Nat.le_of_ble_eq_true rfl) dL_law_409 ⟨Nat.le_refl _, Nat.le_refl _⟩ (fun r u H locs hw hPc hPm hS => ?_)
  refine lv_aload_n hx hb dL_law_412 rfl (lv_at hl 2 rfl) ?_
  refine lv_aload_n hx hb dL_law_413 rfl (lv_at hl 0 rfl) ?_
  refine lv_iload_n hx hb dL_law_414 rfl (lv_at hl 3 rfl) ?_
  refine lv_iconst (v := 1) hx hb dL_law_415 (by decide) ?_
  refine lv_iadd hx hb dL_law_416 ?_
  refine va_sld hx hb hX hbl hbA hS in1 dL_law_417 ?_
  refine lv_aload_n hx hb dL_law_418 rfl (lv_at hl 0 rfl) ?_
  refine lv_iload_n hx hb dL_law_419 rfl (lv_at hl 3 rfl) ?_
  refine lv_iconst (v := 2) hx hb dL_law_420 (by decide) ?_
  refine lv_iadd hx hb dL_law_421 ?_
  refine va_sld hx hb hX hbl hbA hS in2 dL_law_422 ?_
  refine lv_aload_n hx hb dL_law_423 rfl (lv_at hl 0 rfl) ?_
  refine lv_iload_n hx hb dL_law_424 rfl (lv_at hl 3 rfl) ?_
  refine lv_iconst (v := 3) hx hb dL_law_425 (by decide) ?_
  refine lv_iadd hx hb dL_law_426 ?_
  refine va_sld hx hb hX hbl hbA hS in3 dL_law_427 ?_
  refine lwN (w := wdM bd cI) (w2 := wdC ad cI cJ) (bd := ad) (M := 42) (As := [.int (xs (nI i + 1).toNatClampNeg), .int (xs (nI i + 2).toNatClampNeg), .int (xs (nI i + 3).toNatClampNeg)]) (rest := [.int r]) F hK2 hPm hPc rfl hdM hA2 hS (c_X10_cell l D bd cI hapM H.size _ _ _ _ _ hw) (cwV 3 hts gU_L_57 rfl rfl rfl (by decide +kernel) ⟨Nat.le_of_ble_eq_true rfl, Nat.le_of_ble_eq_true rfl⟩) (va_recv hK2 hPm (ci := 7) (q0 := 0) rfl rfl) rfl hl.1 rfl (Nat.le_of_ble_eq_true rfl) dL_law_428 ⟨Nat.le_refl _, Nat.le_refl _⟩ (fun r2 u2 H locs hw hPm hPc hS => ?_)
  obtain ⟨he, hR⟩ := hw
  refine lv_icmp_eq (tgt := 512) hx hb dL_law_431 (by decide) (fun c1 => ?_) (fun c1 => absurd he c1)
  exact kk u u2 H locs ls hR hPc hPm hS hl
set_option maxHeartbeats 4000000 in
set_option maxRecDepth 100000 in
theorem law_told {p : Program} {l : Launch} {e : Env} {s : State} {m : MethodId} {below : List Frame} {meth : Method} {c : Code} {D : va_G} {ad bd : Nat → Nat} {cI cJ : ClassId} {aP b L : Nat} {xs : Nat → Int32} {Rel : St → St → Prop} (hL : L ≤ 2560) (hst : JSteps Rel) (C0 : lw_At p s m meth c b L xs) (hK : va_K D vwCl [(cI, .int), (cJ, .long)] s) (hapC : apart ad 42) (hapM : apart bd 40) (hdC : ∀ i j, i < 42 → j < 40 → ad i ≠ bd j) (hdM : ∀ i j, i < 40 → j < 42 → bd i ≠ ad j) (hA1 : ∀ i, i < 42 → s.heap.size ≤ ad i) (hA2 : ∀ i, i < 40 → s.heap.size ≤ bd i)
    (hZ : va_Z "TokenFloor$Kind" "PORTS" "[I" (.ref aP) (fun q : Nat => s.heap.size ≤ q) s s.heap ∧ va_T .int aP 22 (fun j => .int (jports j)) (fun q : Nat => s.heap.size ≤ q) s s.heap) {i : Nat} (hi : i + 5 ≤ L) {σ τ : St} (hR : Rel σ τ) {H : Heap} {locs : List Loc} {ls : Array Slot} (hPc : va_P D vwCl (wdC ad cI cJ σ) H) (hPm : va_P D vwCl (wdM bd cI τ) H) (hS : va_S (fun q : Nat => s.heap.size ≤ q) s.heap H locs) (hl : lv_has ls 4 [(0, .ref b), (1, .ref (ad 0)), (2, .ref (bd 0)), (3, .int (nI i))])
    (kk : ∀ (σ τ : St) (H : Heap) (locs : List Loc) (ls : Array Slot), Rel σ τ → va_P D vwCl (wdC ad cI cJ σ) H → va_P D vwCl (wdM bd cI τ) H → va_S (fun q : Nat => s.heap.size ≤ q) s.heap H locs → lv_has ls 4 [(0, .ref b), (1, .ref (ad 0)), (2, .ref (bd 0)), (3, .int (nI i))] → W p l e room_1 s m #[Value.ref b] below meth c H locs 82 101950 (lw_Z below #[Value.ref b] s) (F0 m 512 ls [])) : W p l e room_1 s m #[Value.ref b] below meth c H locs 82 101950 (lw_Z below #[Value.ref b] s) (F0 m 436 ls []) := by
  obtain ⟨hx, hb, hr, hml, hown, hts0, hX, hbl, hlocks, hgv⟩ := C0
  have hts : ∀ w ∈ lw_U, w.before #[Value.ref b] s = true := fun w h => hts0 w (List.mem_filter.mp h).1
  have F : CallFix p m c cL_law 4 s #[Value.ref b] lw_U RL := ⟨hx, hb, hml, hown, hts⟩
  have hbA : ¬ (fun q : Nat => s.heap.size ≤ q) b := Nat.not_le.mpr hbl
  have hK2 : va_K D vwCl [(cI, .int)] s := hK.sub [0] rfl
  have in1 : vp_in (nI i + 1) L := by rw [show (1 : Int32) = nI 1 from rfl, nI_add]; exact vp_in_nI (by omega) (by omega)
  have in2 : vp_in (nI i + 2) L := by rw [show (2 : Int32) = nI 2 from rfl, nI_add]; exact vp_in_nI (by omega) (by omega)
  refine lv_aload_n hx hb dL_law_436 rfl (lv_at hl 1 rfl) ?_
  refine lv_aload_n hx hb dL_law_437 rfl (lv_at hl 0 rfl) ?_
  refine lv_iload_n hx hb dL_law_438 rfl (lv_at hl 3 rfl) ?_
  refine lv_iconst (v := 1) hx hb dL_law_439 (by decide) ?_
  refine lv_iadd hx hb dL_law_440 ?_
  refine va_sld hx hb hX hbl hbA hS in1 dL_law_441 ?_
  refine lv_aload_n hx hb dL_law_442 rfl (lv_at hl 0 rfl) ?_
  refine lv_iload_n hx hb dL_law_443 rfl (lv_at hl 3 rfl) ?_
  refine lv_iconst (v := 2) hx hb dL_law_444 (by decide) ?_
  refine lv_iadd hx hb dL_law_445 ?_
  refine va_sld hx hb hX hbl hbA hS in2 dL_law_446 ?_
  have hw := hst.2.2.2.2.2.2.2.2.2.2.1 σ τ (xs (nI i + 1).toNatClampNeg) (xs (nI i + 2).toNatClampNeg) hR
  refine lwN (w := wdC ad cI cJ) (w2 := wdM bd cI) (bd := bd) (M := 40) (As := [.int (xs (nI i + 1).toNatClampNeg), .int (xs (nI i + 2).toNatClampNeg)]) (rest := []) F hK hPc hPm rfl hdC hA1 hS (c_X9_told l D ad cI cJ hapC H.size _ _ _ _ hw) (cwV 2 hts gU_L_58 rfl rfl rfl (by decide +kernel) ⟨Nat.le_of_ble_eq_true rfl, Nat.le_of_ble_eq_true rfl⟩) (va_recv hK hPc (ci := 6) (q0 := 0) rfl rfl) rfl hl.1 rfl (Nat.le_of_ble_eq_true rfl) dL_law_447 ⟨Nat.le_refl _, Nat.le_refl _⟩ (fun r u H locs hw hPc hPm hS => ?_)
  refine lv_aload_n hx hb dL_law_450 rfl (lv_at hl 2 rfl) ?_
  refine lv_aload_n hx hb dL_law_451 rfl (lv_at hl 0 rfl) ?_
  refine lv_iload_n hx hb dL_law_452 rfl (lv_at hl 3 rfl) ?_
  refine lv_iconst (v := 1) hx hb dL_law_453 (by decide) ?_
  refine lv_iadd hx hb dL_law_454 ?_
  refine va_sld hx hb hX hbl hbA hS in1 dL_law_455 ?_
  refine lv_aload_n hx hb dL_law_456 rfl (lv_at hl 0 rfl) ?_
  refine lv_iload_n hx hb dL_law_457 rfl (lv_at hl 3 rfl) ?_
  refine lv_iconst (v := 2) hx hb dL_law_458 (by decide) ?_
  refine lv_iadd hx hb dL_law_459 ?_
  refine va_sld hx hb hX hbl hbA hS in2 dL_law_460 ?_
  refine lwN (w := wdM bd cI) (w2 := wdC ad cI cJ) (bd := ad) (M := 42) (As := [.int (xs (nI i + 1).toNatClampNeg), .int (xs (nI i + 2).toNatClampNeg)]) (rest := [.int r]) F hK2 hPm hPc rfl hdM hA2 hS (c_X10_told l D bd cI hapM H.size _ _ _ _ hw) (cwV 2 hts gU_L_61 rfl rfl rfl (by decide +kernel) ⟨Nat.le_of_ble_eq_true rfl, Nat.le_of_ble_eq_true rfl⟩) (va_recv hK2 hPm (ci := 7) (q0 := 0) rfl rfl) rfl hl.1 rfl (Nat.le_of_ble_eq_true rfl) dL_law_461 ⟨Nat.le_refl _, Nat.le_refl _⟩ (fun r2 u2 H locs hw hPm hPc hS => ?_)
  obtain ⟨he, hR⟩ := hw
  refine lv_icmp_eq (tgt := 512) hx hb dL_law_464 (by decide) (fun c1 => ?_) (fun c1 => absurd he c1)
  exact kk u u2 H locs ls hR hPc hPm hS hl
set_option maxHeartbeats 4000000 in
set_option maxRecDepth 100000 in
theorem law_beside {p : Program} {l : Launch} {e : Env} {s : State} {m : MethodId} {below : List Frame} {meth : Method} {c : Code} {D : va_G} {ad bd : Nat → Nat} {cI cJ : ClassId} {aP b L : Nat} {xs : Nat → Int32} {Rel : St → St → Prop} (hL : L ≤ 2560) (hst : JSteps Rel) (C0 : lw_At p s m meth c b L xs) (hK : va_K D vwCl [(cI, .int), (cJ, .long)] s) (hapC : apart ad 42) (hapM : apart bd 40) (hdC : ∀ i j, i < 42 → j < 40 → ad i ≠ bd j) (hdM : ∀ i j, i < 40 → j < 42 → bd i ≠ ad j) (hA1 : ∀ i, i < 42 → s.heap.size ≤ ad i) (hA2 : ∀ i, i < 40 → s.heap.size ≤ bd i)
    (hZ : va_Z "TokenFloor$Kind" "PORTS" "[I" (.ref aP) (fun q : Nat => s.heap.size ≤ q) s s.heap ∧ va_T .int aP 22 (fun j => .int (jports j)) (fun q : Nat => s.heap.size ≤ q) s s.heap) {i : Nat} (hi : i + 5 ≤ L) {σ τ : St} (hR : Rel σ τ) {H : Heap} {locs : List Loc} {ls : Array Slot} (hPc : va_P D vwCl (wdC ad cI cJ σ) H) (hPm : va_P D vwCl (wdM bd cI τ) H) (hS : va_S (fun q : Nat => s.heap.size ≤ q) s.heap H locs) (hl : lv_has ls 4 [(0, .ref b), (1, .ref (ad 0)), (2, .ref (bd 0)), (3, .int (nI i))])
    (kk : ∀ (σ τ : St) (H : Heap) (locs : List Loc) (ls : Array Slot), Rel σ τ → va_P D vwCl (wdC ad cI cJ σ) H → va_P D vwCl (wdM bd cI τ) H → va_S (fun q : Nat => s.heap.size ≤ q) s.heap H locs → lv_has ls 4 [(0, .ref b), (1, .ref (ad 0)), (2, .ref (bd 0)), (3, .int (nI i))] → W p l e room_1 s m #[Value.ref b] below meth c H locs 82 101950 (lw_Z below #[Value.ref b] s) (F0 m 512 ls [])) : W p l e room_1 s m #[Value.ref b] below meth c H locs 82 101950 (lw_Z below #[Value.ref b] s) (F0 m 469 ls []) := by
  obtain ⟨hx, hb, hr, hml, hown, hts0, hX, hbl, hlocks, hgv⟩ := C0
  have hts : ∀ w ∈ lw_U, w.before #[Value.ref b] s = true := fun w h => hts0 w (List.mem_filter.mp h).1
  have F : CallFix p m c cL_law 4 s #[Value.ref b] lw_U RL := ⟨hx, hb, hml, hown, hts⟩
  have hbA : ¬ (fun q : Nat => s.heap.size ≤ q) b := Nat.not_le.mpr hbl
  have hK2 : va_K D vwCl [(cI, .int)] s := hK.sub [0] rfl
  have in1 : vp_in (nI i + 1) L := by rw [show (1 : Int32) = nI 1 from rfl, nI_add]; exact vp_in_nI (by omega) (by omega)
  have in2 : vp_in (nI i + 2) L := by rw [show (2 : Int32) = nI 2 from rfl, nI_add]; exact vp_in_nI (by omega) (by omega)
  have in3 : vp_in (nI i + 3) L := by rw [show (3 : Int32) = nI 3 from rfl, nI_add]; exact vp_in_nI (by omega) (by omega)
  refine lv_aload_n hx hb dL_law_469 rfl (lv_at hl 1 rfl) ?_
  refine lv_aload_n hx hb dL_law_470 rfl (lv_at hl 0 rfl) ?_
  refine lv_iload_n hx hb dL_law_471 rfl (lv_at hl 3 rfl) ?_
  refine lv_iconst (v := 1) hx hb dL_law_472 (by decide) ?_
  refine lv_iadd hx hb dL_law_473 ?_
  refine va_sld hx hb hX hbl hbA hS in1 dL_law_474 ?_
  refine lv_aload_n hx hb dL_law_475 rfl (lv_at hl 0 rfl) ?_
  refine lv_iload_n hx hb dL_law_476 rfl (lv_at hl 3 rfl) ?_
  refine lv_iconst (v := 2) hx hb dL_law_477 (by decide) ?_
  refine lv_iadd hx hb dL_law_478 ?_
  refine va_sld hx hb hX hbl hbA hS in2 dL_law_479 ?_
  refine lv_aload_n hx hb dL_law_480 rfl (lv_at hl 0 rfl) ?_
  refine lv_iload_n hx hb dL_law_481 rfl (lv_at hl 3 rfl) ?_
  refine lv_iconst (v := 3) hx hb dL_law_482 (by decide) ?_
  refine lv_iadd hx hb dL_law_483 ?_
  refine va_sld hx hb hX hbl hbA hS in3 dL_law_484 ?_
  have hw := hst.2.2.2.2.2.2.2.2.2.2.2 σ τ (xs (nI i + 1).toNatClampNeg) (xs (nI i + 2).toNatClampNeg) (xs (nI i + 3).toNatClampNeg) hR
  refine lwN (w := wdC ad cI cJ) (w2 := wdM bd cI) (bd := bd) (M := 40) (As := [.int (xs (nI i + 1).toNatClampNeg), .int (xs (nI i + 2).toNatClampNeg), .int (xs (nI i + 3).toNatClampNeg)]) (rest := []) F hK hPc hPm rfl hdC hA1 hS (c_X9_beside l D ad cI cJ hapC H.size _ _ _ _ _ hw) (cwV 3 hts gU_L_62 rfl rfl rfl (by decide +kernel) ⟨Nat.le_of_ble_eq_true rfl, Nat.le_of_ble_eq_true rfl⟩) (va_recv hK hPc (ci := 6) (q0 := 0) rfl rfl) rfl hl.1 rfl (Nat.le_of_ble_eq_true rfl) dL_law_485 ⟨Nat.le_refl _, Nat.le_refl _⟩ (fun r u H locs hw hPc hPm hS => ?_)
  refine lv_aload_n hx hb dL_law_488 rfl (lv_at hl 2 rfl) ?_
  refine lv_aload_n hx hb dL_law_489 rfl (lv_at hl 0 rfl) ?_
  refine lv_iload_n hx hb dL_law_490 rfl (lv_at hl 3 rfl) ?_
  refine lv_iconst (v := 1) hx hb dL_law_491 (by decide) ?_
  refine lv_iadd hx hb dL_law_492 ?_
  refine va_sld hx hb hX hbl hbA hS in1 dL_law_493 ?_
  refine lv_aload_n hx hb dL_law_494 rfl (lv_at hl 0 rfl) ?_
  refine lv_iload_n hx hb dL_law_495 rfl (lv_at hl 3 rfl) ?_
  refine lv_iconst (v := 2) hx hb dL_law_496 (by decide) ?_
  refine lv_iadd hx hb dL_law_497 ?_
  refine va_sld hx hb hX hbl hbA hS in2 dL_law_498 ?_
  refine lv_aload_n hx hb dL_law_499 rfl (lv_at hl 0 rfl) ?_
  refine lv_iload_n hx hb dL_law_500 rfl (lv_at hl 3 rfl) ?_
  refine lv_iconst (v := 3) hx hb dL_law_501 (by decide) ?_
  refine lv_iadd hx hb dL_law_502 ?_
  refine va_sld hx hb hX hbl hbA hS in3 dL_law_503 ?_
  refine lwN (w := wdM bd cI) (w2 := wdC ad cI cJ) (bd := ad) (M := 42) (As := [.int (xs (nI i + 1).toNatClampNeg), .int (xs (nI i + 2).toNatClampNeg), .int (xs (nI i + 3).toNatClampNeg)]) (rest := [.int r]) F hK2 hPm hPc rfl hdM hA2 hS (c_X10_beside l D bd cI hapM H.size _ _ _ _ _ hw) (cwV 3 hts gU_L_65 rfl rfl rfl (by decide +kernel) ⟨Nat.le_of_ble_eq_true rfl, Nat.le_of_ble_eq_true rfl⟩) (va_recv hK2 hPm (ci := 7) (q0 := 0) rfl rfl) rfl hl.1 rfl (Nat.le_of_ble_eq_true rfl) dL_law_504 ⟨Nat.le_refl _, Nat.le_refl _⟩ (fun r2 u2 H locs hw hPm hPc hS => ?_)
  obtain ⟨he, hR⟩ := hw
  refine lv_icmp_eq (tgt := 512) hx hb dL_law_507 (by decide) (fun c1 => ?_) (fun c1 => absurd he c1)
  exact kk u u2 H locs ls hR hPc hPm hS hl
set_option maxHeartbeats 4000000 in
set_option maxRecDepth 100000 in
theorem law_loop {p : Program} {l : Launch} {e : Env} {s : State} {m : MethodId} {below : List Frame} {meth : Method} {c : Code} {D : va_G} {ad bd : Nat → Nat} {cI cJ : ClassId} {aP b L : Nat} {xs : Nat → Int32} {Rel : St → St → Prop} (hL : L ≤ 2560) (hst : JSteps Rel) (C0 : lw_At p s m meth c b L xs) (hK : va_K D vwCl [(cI, .int), (cJ, .long)] s) (hapC : apart ad 42) (hapM : apart bd 40) (hdC : ∀ i j, i < 42 → j < 40 → ad i ≠ bd j) (hdM : ∀ i j, i < 40 → j < 42 → bd i ≠ ad j) (hA1 : ∀ i, i < 42 → s.heap.size ≤ ad i) (hA2 : ∀ i, i < 40 → s.heap.size ≤ bd i)
    (hZ : va_Z "TokenFloor$Kind" "PORTS" "[I" (.ref aP) (fun q : Nat => s.heap.size ≤ q) s s.heap ∧ va_T .int aP 22 (fun j => .int (jports j)) (fun q : Nat => s.heap.size ≤ q) s s.heap) :
    ∀ (n i : Nat) (σ τ : St) (H : Heap) (locs : List Loc) (ls : Array Slot), i ≤ L → L + 1 ≤ i + n → Rel σ τ → va_P D vwCl (wdC ad cI cJ σ) H → va_P D vwCl (wdM bd cI τ) H → va_S (fun q : Nat => s.heap.size ≤ q) s.heap H locs → lv_has ls 4 [(0, .ref b), (1, .ref (ad 0)), (2, .ref (bd 0)), (3, .int (nI i))] → W p l e room_1 s m #[Value.ref b] below meth c H locs 82 101950 (lw_Z below #[Value.ref b] s) (F0 m 18 ls []) := by
  obtain ⟨hx, hb, hr, hml, hown, hts0, hX, hbl, hlocks, hgv⟩ := C0
  have hts : ∀ w ∈ lw_U, w.before #[Value.ref b] s = true := fun w h => hts0 w (List.mem_filter.mp h).1
  have F : CallFix p m c cL_law 4 s #[Value.ref b] lw_U RL := ⟨hx, hb, hml, hown, hts⟩
  have hbA : ¬ (fun q : Nat => s.heap.size ≤ q) b := Nat.not_le.mpr hbl
  have hK2 : va_K D vwCl [(cI, .int)] s := hK.sub [0] rfl
  intro n
  induction n with
  | zero =>
    intro i σ τ H locs ls h1 h2
    exact absurd h2 (by omega)
  | succ n ih =>
    intro i σ τ H locs ls h1 h2 hR hPc hPm hS hl
    refine lv_iload_n hx hb dL_law_18 rfl (lv_at hl 3 rfl) ?_
    refine lv_aload_n hx hb dL_law_19 rfl (lv_at hl 0 rfl) ?_
    refine va_slen hx hb hX hbl hbA hS dL_law_20 ?_
    refine lv_iconst (v := 5) hx hb dL_law_21 (by decide) ?_
    refine lv_isub hx hb dL_law_22 ?_
    refine lv_icmp_gt (tgt := 518) hx hb dL_law_23 (by decide) (fun c1 => ?_) (fun c1 => ?_)
    · refine lv_iconst (v := 1) hx hb dL_law_518 (by decide) ?_
      refine va_forget (fun q hq => hS.2.2 q hq) ?_
      exact lw_ret hx hb hr hlocks dL_law_519
    · have hi : i + 5 ≤ L := by
        have q := c1
        rw [show Int32.ofNat L - 5 = nI L - nI 5 from rfl, Int32.lt_iff_toInt_lt, pk_sub_toInt (by omega) (by omega), nI_toInt (by omega)] at q
        omega
      have in0 : vp_in (nI i) L := vp_in_nI (by omega) (by omega)
      refine lv_aload_n hx hb dL_law_26 rfl (lv_at hl 0 rfl) ?_
      refine lv_iload_n hx hb dL_law_27 rfl (lv_at hl 3 rfl) ?_
      refine va_sld hx hb hX hbl hbA hS in0 dL_law_28 ?_
      refine lv_bipush (v := 15) hx hb dL_law_29 (by decide) ?_
      refine lv_iand hx hb dL_law_31 ?_
      have kk : ∀ (σ τ : St) (H : Heap) (locs : List Loc) (ls : Array Slot), Rel σ τ → va_P D vwCl (wdC ad cI cJ σ) H → va_P D vwCl (wdM bd cI τ) H → va_S (fun q : Nat => s.heap.size ≤ q) s.heap H locs → lv_has ls 4 [(0, .ref b), (1, .ref (ad 0)), (2, .ref (bd 0)), (3, .int (nI i))] → W p l e room_1 s m #[Value.ref b] below meth c H locs 82 101950 (lw_Z below #[Value.ref b] s) (F0 m 512 ls []) := by
        intro σ τ H locs ls hR hPc hPm hS hl
        refine lv_iinc (v := nI (i + 5)) (lv' := [(3, .int (nI (i + 5))), (0, .ref b), (1, .ref (ad 0)), (2, .ref (bd 0))]) hx hb dL_law_512 hl (k := 3) rfl (nI_add i 5) (by decide) rfl (fun ls hl => ?_)
        refine lv_goto (tgt := 18) hx hb dL_law_515 (by decide) ?_
        exact ih (i + 5) σ τ H locs ls (by omega) (by omega) hR hPc hPm hS (lv_sub hl [1, 2, 3, 0] rfl)
      generalize xs (nI i).toNatClampNeg &&& 15 = x
      by_cases k0 : x = 0
      · refine sw_in 0 (tgt := 96) F dL_law_32 k0 (by decide) (by decide) rfl (by decide) ?_
        exact law_act hL hst ⟨hx, hb, hr, hml, hown, hts0, hX, hbl, hlocks, hgv⟩ hK hapC hapM hdC hdM hA1 hA2 hZ hi hR hPc hPm hS hl kk
      by_cases k1 : x = 1
      · refine sw_in 1 (tgt := 139) F dL_law_32 k1 (by decide) (by decide) rfl (by decide) ?_
        exact law_way hL hst ⟨hx, hb, hr, hml, hown, hts0, hX, hbl, hlocks, hgv⟩ hK hapC hapM hdC hdM hA1 hA2 hZ hi hR hPc hPm hS hl kk
      by_cases k2 : x = 2
      · refine sw_in 2 (tgt := 192) F dL_law_32 k2 (by decide) (by decide) rfl (by decide) ?_
        exact law_token hL hst ⟨hx, hb, hr, hml, hown, hts0, hX, hbl, hlocks, hgv⟩ hK hapC hapM hdC hdM hA1 hA2 hZ hi hR hPc hPm hS hl kk
      by_cases k3 : x = 3
      · refine sw_in 3 (tgt := 235) F dL_law_32 k3 (by decide) (by decide) rfl (by decide) ?_
        exact law_clear hL hst ⟨hx, hb, hr, hml, hown, hts0, hX, hbl, hlocks, hgv⟩ hK hapC hapM hdC hdM hA1 hA2 hZ hi hR hPc hPm hS hl kk
      by_cases k4 : x = 4
      · refine sw_in 4 (tgt := 258) F dL_law_32 k4 (by decide) (by decide) rfl (by decide) ?_
        exact law_run hL hst ⟨hx, hb, hr, hml, hown, hts0, hX, hbl, hlocks, hgv⟩ hK hapC hapM hdC hdM hA1 hA2 hZ hi hR hPc hPm hS hl kk
      by_cases k5 : x = 5
      · refine sw_in 5 (tgt := 291) F dL_law_32 k5 (by decide) (by decide) rfl (by decide) ?_
        exact law_ticks hL hst ⟨hx, hb, hr, hml, hown, hts0, hX, hbl, hlocks, hgv⟩ hK hapC hapM hdC hdM hA1 hA2 hZ hi hR hPc hPm hS hl kk
      by_cases k6 : x = 6
      · refine sw_in 6 (tgt := 314) F dL_law_32 k6 (by decide) (by decide) rfl (by decide) ?_
        exact law_about hL hst ⟨hx, hb, hr, hml, hown, hts0, hX, hbl, hlocks, hgv⟩ hK hapC hapM hdC hdM hA1 hA2 hZ hi hR hPc hPm hS hl kk
      by_cases k7 : x = 7
      · refine sw_in 7 (tgt := 337) F dL_law_32 k7 (by decide) (by decide) rfl (by decide) ?_
        exact law_end hL hst ⟨hx, hb, hr, hml, hown, hts0, hX, hbl, hlocks, hgv⟩ hK hapC hapM hdC hdM hA1 hA2 hZ hi hR hPc hPm hS hl kk
      by_cases k8 : x = 8
      · refine sw_in 8 (tgt := 370) F dL_law_32 k8 (by decide) (by decide) rfl (by decide) ?_
        exact law_fired hL hst ⟨hx, hb, hr, hml, hown, hts0, hX, hbl, hlocks, hgv⟩ hK hapC hapM hdC hdM hA1 hA2 hZ hi hR hPc hPm hS hl kk
      by_cases k9 : x = 9
      · refine sw_in 9 (tgt := 393) F dL_law_32 k9 (by decide) (by decide) rfl (by decide) ?_
        exact law_cell hL hst ⟨hx, hb, hr, hml, hown, hts0, hX, hbl, hlocks, hgv⟩ hK hapC hapM hdC hdM hA1 hA2 hZ hi hR hPc hPm hS hl kk
      by_cases k10 : x = 10
      · refine sw_in 10 (tgt := 436) F dL_law_32 k10 (by decide) (by decide) rfl (by decide) ?_
        exact law_told hL hst ⟨hx, hb, hr, hml, hown, hts0, hX, hbl, hlocks, hgv⟩ hK hapC hapM hdC hdM hA1 hA2 hZ hi hR hPc hPm hS hl kk
      by_cases k11 : x = 11
      · refine sw_in 11 (tgt := 469) F dL_law_32 k11 (by decide) (by decide) rfl (by decide) ?_
        exact law_beside hL hst ⟨hx, hb, hr, hml, hown, hts0, hX, hbl, hlocks, hgv⟩ hK hapC hapM hdC hdM hA1 hA2 hZ hi hR hPc hPm hS hl kk
      have z0 : ¬ x.toInt = 0 := lv_neT k0 (by decide)
      have z1 : ¬ x.toInt = 1 := lv_neT k1 (by decide)
      have z2 : ¬ x.toInt = 2 := lv_neT k2 (by decide)
      have z3 : ¬ x.toInt = 3 := lv_neT k3 (by decide)
      have z4 : ¬ x.toInt = 4 := lv_neT k4 (by decide)
      have z5 : ¬ x.toInt = 5 := lv_neT k5 (by decide)
      have z6 : ¬ x.toInt = 6 := lv_neT k6 (by decide)
      have z7 : ¬ x.toInt = 7 := lv_neT k7 (by decide)
      have z8 : ¬ x.toInt = 8 := lv_neT k8 (by decide)
      have z9 : ¬ x.toInt = 9 := lv_neT k9 (by decide)
      have z10 : ¬ x.toInt = 10 := lv_neT k10 (by decide)
      have z11 : ¬ x.toInt = 11 := lv_neT k11 (by decide)
      exact lv_tableOut (tgt := 512) hx hb dL_law_32 (by omega) (by decide) (kk σ τ H locs ls hR hPc hPm hS hl)
