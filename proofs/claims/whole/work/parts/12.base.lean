theorem zb_nar {r : Int32} (h : zb r) : narrow .boolean (.int r) = .int r := by
  rcases h with rfl | rfl <;> rfl
/-- a world's cells stand in the heap, and the tables' classes are known -/
def inW (D : va_G) (w : St → va_W) (tys : List (ClassId × FieldType)) (σ : St) (U : State) : Prop := va_P D vwCl (w σ) U.heap ∧ va_K D vwCl tys U
/-- the addresses of a world of N cells, and all new ones -/
def AW (ad : Nat → Nat) (N sz : Nat) : Nat → Prop := fun q => (∃ k, k < N ∧ q = ad k) ∨ sz ≤ q
def apart (ad : Nat → Nat) (N : Nat) : Prop := ∀ i j, i < N → j < N → ad i = ad j → i = j
theorem AW.mono {ad : Nat → Nat} {N a b : Nat} (h : a ≤ b) {q : Nat} (hq : AW ad N b q) : AW ad N a q := hq.elim Or.inl (fun z => Or.inr (Nat.le_trans h z))
theorem AW.new {ad : Nat → Nat} {N sz q : Nat} (h : sz ≤ q) : AW ad N sz q := Or.inr h
/-- cells whose addresses are ad 0, ad 1 .. are apart -/
theorem va_D_of {ad : Nat → Nat} {N sz : Nat} {ws : va_W} (hap : apart ad N) (hm : ws.map (·.1) = (List.range N).map ad) : va_D (AW ad N sz) ws := by
  have hlen : ws.length = N := by have := congrArg List.length hm; simpa using this
  have hat : ∀ (k : Nat) (q : Nat × va_E), ws[k]? = some q → k < N ∧ q.1 = ad k := by
    intro k q hk
    have hkl : k < ws.length := (List.getElem?_eq_some_iff.mp hk).1
    have h1 : (ws.map (·.1))[k]? = some q.1 := by rw [List.getElem?_map, hk]; rfl
    rw [hm, List.getElem?_map, List.getElem?_range (by omega)] at h1
    exact ⟨by omega, (Option.some.inj h1).symm⟩
  refine ⟨fun i j p q hi hj e => ?_, fun k q hk => Or.inl ⟨k, hat k q hk⟩⟩
  obtain ⟨h1, e1⟩ := hat i p hi
  obtain ⟨h2, e2⟩ := hat j q hj
  exact hap i j h1 h2 (by rw [← e1, ← e2, e])
theorem pc_blind {av : List Value} {sz : Nat} {D : va_G} {w : St → va_W} {tys : List (ClassId × FieldType)} {σ : St} : FrameBlind (va_Pc av (fun U => U.heap.size = sz ∧ inW D w tys σ U)) := by
  intro a U g mk q
  obtain ⟨q0, q1, qP, qK⟩ := q
  exact ⟨q0, q1, qP, va_K.moved (u := U) (U := U.calling g mk a) (Vm.Alike.refl U.vm) qK⟩
section CALLS
variable {p : Program} {l : Launch} {e : Env} {R : Room} {s : State} {m : MethodId} {args : Array Value} {below : List Frame} {meth : Method} {c : Code} {H : Heap} {locs : List Loc} {cells slots : Nat} {Q : State → Prop}
variable {y : MethodName} {bytes cc : ByteArray} {maxL nL n index pc : Nat} {ret : Option FieldType} {ws : List Cond} {rm : Room} {Ts : List Cond} {own C : String} {b : Addr} {As rest st : List Value} {ls : Array Slot}
variable {D : va_G} {w : St → va_W} {tys : List (ClassId × FieldType)} {ad : Nat → Nat} {N : Nat} {σ : St}
theorem cvI {K : Int32 → St → Prop} (F : CallFix p m c cc nL s args Ts own) (hK : va_K D vwCl tys s) (hP : va_P D vwCl (w σ) H) (hS : va_S (AW ad N s.heap.size) s.heap H locs)
    (hM : Met l y ws rm (va_Pc (.ref b :: As) (fun U => U.heap.size = H.size ∧ inW D w tys σ U)) (va_Qi K (inW D w tys) (AW ad N H.size)) 0 0 (AW ad N H.size)) (cw : CallW R s args own C index y bytes maxL ret ws rm 0 0 n)
    (hrecv : ∃ cell : Cell, H[b]? = some cell ∧ cell.vm.isStatics = false ∧ s.vm.findClass C = some cell.cls) (hn : As.length = n) (hsize : ls.size = nL) (hst : st = As.reverse ++ .ref b :: rest) (hW : (rest.map fun v => v.category).sum ≤ 8) (hdg : decode cc pc = .ok (.invokevirtual index, 3)) (hf : cells ≤ R.cells ∧ slots ≤ R.slots)
    (kk : ∀ (r : Int32) (u : St) (H1 : Heap) (locs1 : List Loc), K r u → va_P D vwCl (w u) H1 → va_S (AW ad N s.heap.size) s.heap H1 locs1 → W p l e R s m args below meth c H1 locs1 cells slots Q (F0 m (pc + 3) ls (.int r :: rest))) : W p l e R s m args below meth c H locs cells slots Q (F0 m pc ls st) := by
  refine va_calli (va_runV (As := As) (rest := rest) F hM cw ⟨pc_blind, hrecv, fun U hU hW => ⟨rfl, by rw [hU], by rw [hU]; exact hP, va_K.moved hW.alike hK⟩⟩ rfl hn hsize hst (lv_room hW) hdg hf) hS (fun q _ h => AW.mono hS.1 h) (fun q h => AW.mono hS.1 h) (fun r u t H1 locs1 ht _ hw hB _ _ hS1 => ?_)
  exact kk r u H1 locs1 hw (by rw [← ht]; exact hB.1) hS1
theorem cvL {K : Int64 → St → Prop} (F : CallFix p m c cc nL s args Ts own) (hK : va_K D vwCl tys s) (hP : va_P D vwCl (w σ) H) (hS : va_S (AW ad N s.heap.size) s.heap H locs)
    (hM : Met l y ws rm (va_Pc (.ref b :: As) (fun U => U.heap.size = H.size ∧ inW D w tys σ U)) (va_Ql K (inW D w tys) (AW ad N H.size)) 0 0 (AW ad N H.size)) (cw : CallW R s args own C index y bytes maxL ret ws rm 0 0 n)
    (hrecv : ∃ cell : Cell, H[b]? = some cell ∧ cell.vm.isStatics = false ∧ s.vm.findClass C = some cell.cls) (hn : As.length = n) (hsize : ls.size = nL) (hst : st = As.reverse ++ .ref b :: rest) (hW : (rest.map fun v => v.category).sum ≤ 8) (hdg : decode cc pc = .ok (.invokevirtual index, 3)) (hf : cells ≤ R.cells ∧ slots ≤ R.slots)
    (kk : ∀ (r : Int64) (u : St) (H1 : Heap) (locs1 : List Loc), K r u → va_P D vwCl (w u) H1 → va_S (AW ad N s.heap.size) s.heap H1 locs1 → W p l e R s m args below meth c H1 locs1 cells slots Q (F0 m (pc + 3) ls (.long r :: rest))) : W p l e R s m args below meth c H locs cells slots Q (F0 m pc ls st) := by
  refine va_calll (va_runV (As := As) (rest := rest) F hM cw ⟨pc_blind, hrecv, fun U hU hW => ⟨rfl, by rw [hU], by rw [hU]; exact hP, va_K.moved hW.alike hK⟩⟩ rfl hn hsize hst (lv_room hW) hdg hf) hS (fun q _ h => AW.mono hS.1 h) (fun q h => AW.mono hS.1 h) (fun r u t H1 locs1 ht _ hw hB _ _ hS1 => ?_)
  exact kk r u H1 locs1 hw (by rw [← ht]; exact hB.1) hS1
theorem cvV {K : St → Prop} (F : CallFix p m c cc nL s args Ts own) (hK : va_K D vwCl tys s) (hP : va_P D vwCl (w σ) H) (hS : va_S (AW ad N s.heap.size) s.heap H locs)
    (hM : Met l y ws rm (va_Pc (.ref b :: As) (fun U => U.heap.size = H.size ∧ inW D w tys σ U)) (va_Qv K (inW D w tys) (AW ad N H.size)) 0 0 (AW ad N H.size)) (cw : CallW R s args own C index y bytes maxL ret ws rm 0 0 n)
    (hrecv : ∃ cell : Cell, H[b]? = some cell ∧ cell.vm.isStatics = false ∧ s.vm.findClass C = some cell.cls) (hn : As.length = n) (hsize : ls.size = nL) (hst : st = As.reverse ++ .ref b :: rest) (hW : (rest.map fun v => v.category).sum ≤ 8) (hdg : decode cc pc = .ok (.invokevirtual index, 3)) (hf : cells ≤ R.cells ∧ slots ≤ R.slots)
    (kk : ∀ (u : St) (H1 : Heap) (locs1 : List Loc), K u → va_P D vwCl (w u) H1 → va_S (AW ad N s.heap.size) s.heap H1 locs1 → W p l e R s m args below meth c H1 locs1 cells slots Q (F0 m (pc + 3) ls rest)) : W p l e R s m args below meth c H locs cells slots Q (F0 m pc ls st) := by
  refine va_callv (va_runV (As := As) (rest := rest) F hM cw ⟨pc_blind, hrecv, fun U hU hW => ⟨rfl, by rw [hU], by rw [hU]; exact hP, va_K.moved hW.alike hK⟩⟩ rfl hn hsize hst (lv_room hW) hdg hf) hS (fun q _ h => AW.mono hS.1 h) (fun q h => AW.mono hS.1 h) (fun u t H1 locs1 ht _ hw hB _ _ hS1 => ?_)
  exact kk u H1 locs1 hw (by rw [← ht]; exact hB.1) hS1
theorem csI {K : Int32 → St → Prop} (F : CallFix p m c cc nL s args Ts own) (hK : va_K D vwCl tys s) (hP : va_P D vwCl (w σ) H) (hS : va_S (AW ad N s.heap.size) s.heap H locs)
    (hM : Met l y ws rm (va_Pc As (fun U => U.heap.size = H.size ∧ inW D w tys σ U)) (va_Qi K (inW D w tys) (AW ad N H.size)) 0 0 (AW ad N H.size)) (cw : CallB R s args own index y bytes maxL ret ws rm 0 0 n ∧ (Cond.static y).before args s = true)
    (hn : As.length = n) (hsize : ls.size = nL) (hst : st = As.reverse ++ rest) (hW : (rest.map fun v => v.category).sum ≤ 8) (hdg : decode cc pc = .ok (.invokestatic index, 3)) (hf : cells ≤ R.cells ∧ slots ≤ R.slots)
    (kk : ∀ (r : Int32) (u : St) (H1 : Heap) (locs1 : List Loc), K r u → va_P D vwCl (w u) H1 → va_S (AW ad N s.heap.size) s.heap H1 locs1 → W p l e R s m args below meth c H1 locs1 cells slots Q (F0 m (pc + 3) ls (.int r :: rest))) : W p l e R s m args below meth c H locs cells slots Q (F0 m pc ls st) := by
  refine va_calli (va_runS (As := As) (rest := rest) F hM cw ⟨pc_blind, fun U hU hW => ⟨rfl, by rw [hU], by rw [hU]; exact hP, va_K.moved hW.alike hK⟩⟩ rfl hn hsize hst (lv_room hW) hdg hf) hS (fun q _ h => AW.mono hS.1 h) (fun q h => AW.mono hS.1 h) (fun r u t H1 locs1 ht _ hw hB _ _ hS1 => ?_)
  exact kk r u H1 locs1 hw (by rw [← ht]; exact hB.1) hS1
theorem csL {K : Int64 → St → Prop} (F : CallFix p m c cc nL s args Ts own) (hK : va_K D vwCl tys s) (hP : va_P D vwCl (w σ) H) (hS : va_S (AW ad N s.heap.size) s.heap H locs)
    (hM : Met l y ws rm (va_Pc As (fun U => U.heap.size = H.size ∧ inW D w tys σ U)) (va_Ql K (inW D w tys) (AW ad N H.size)) 0 0 (AW ad N H.size)) (cw : CallB R s args own index y bytes maxL ret ws rm 0 0 n ∧ (Cond.static y).before args s = true)
    (hn : As.length = n) (hsize : ls.size = nL) (hst : st = As.reverse ++ rest) (hW : (rest.map fun v => v.category).sum ≤ 8) (hdg : decode cc pc = .ok (.invokestatic index, 3)) (hf : cells ≤ R.cells ∧ slots ≤ R.slots)
    (kk : ∀ (r : Int64) (u : St) (H1 : Heap) (locs1 : List Loc), K r u → va_P D vwCl (w u) H1 → va_S (AW ad N s.heap.size) s.heap H1 locs1 → W p l e R s m args below meth c H1 locs1 cells slots Q (F0 m (pc + 3) ls (.long r :: rest))) : W p l e R s m args below meth c H locs cells slots Q (F0 m pc ls st) := by
  refine va_calll (va_runS (As := As) (rest := rest) F hM cw ⟨pc_blind, fun U hU hW => ⟨rfl, by rw [hU], by rw [hU]; exact hP, va_K.moved hW.alike hK⟩⟩ rfl hn hsize hst (lv_room hW) hdg hf) hS (fun q _ h => AW.mono hS.1 h) (fun q h => AW.mono hS.1 h) (fun r u t H1 locs1 ht _ hw hB _ _ hS1 => ?_)
  exact kk r u H1 locs1 hw (by rw [← ht]; exact hB.1) hS1
theorem jvi {x y : Int32} (h : x = y) (k : W p l e R s m args below meth c H locs cells slots Q (F0 m pc ls (.int y :: rest))) : W p l e R s m args below meth c H locs cells slots Q (F0 m pc ls (.int x :: rest)) := h ▸ k
theorem jvl {x y : Int64} (h : x = y) (k : W p l e R s m args below meth c H locs cells slots Q (F0 m pc ls (.long y :: rest))) : W p l e R s m args below meth c H locs cells slots Q (F0 m pc ls (.long x :: rest)) := h ▸ k
/-! returns -/
theorem rtI {K : Int32 → St → Prop} (F : CallFix p m c cc nL s args Ts own) (hr : meth.sig.returnType = some .int) (hlocks : meth.locks = false) (hK : va_K D vwCl tys s) {r : Int32} {u : St} (hw : K r u) (hP : va_P D vwCl (w u) H) (hS : va_S (AW ad N s.heap.size) s.heap H locs) (hdg : decode cc pc = .ok (.ireturn, 1)) :
    W p l e R s m args below meth c H locs 0 0 (MQ below (va_Qi K (inW D w tys) (AW ad N s.heap.size)) args s 0 0 (AW ad N s.heap.size)) (F0 m pc ls [.int r]) :=
  W.iret (v := r) F.1 F.2.1 hr (fun t ht hW => ⟨⟨r, u, rfl, hw, by rw [ht]; exact hP, va_K.moved hW.alike hK⟩, hS.F ht⟩) hS.2.2 hdg hlocks
theorem rtZ {K : Int32 → St → Prop} (F : CallFix p m c cc nL s args Ts own) (hr : meth.sig.returnType = some .boolean) (hlocks : meth.locks = false) (hK : va_K D vwCl tys s) {r : Int32} {u : St} (hw : K r u) (hz : zb r) (hP : va_P D vwCl (w u) H) (hS : va_S (AW ad N s.heap.size) s.heap H locs) (hdg : decode cc pc = .ok (.ireturn, 1)) :
    W p l e R s m args below meth c H locs 0 0 (MQ below (va_Qi (fun r u => zb r ∧ K r u) (inW D w tys) (AW ad N s.heap.size)) args s 0 0 (AW ad N s.heap.size)) (F0 m pc ls [.int r]) :=
  W.zret (v := r) F.1 F.2.1 hr (zb_nar hz) (fun t ht hW => ⟨⟨r, u, rfl, ⟨hz, hw⟩, by rw [ht]; exact hP, va_K.moved hW.alike hK⟩, hS.F ht⟩) hS.2.2 hdg hlocks
theorem rtL {K : Int64 → St → Prop} (F : CallFix p m c cc nL s args Ts own) (hr : meth.sig.returnType = some .long) (hlocks : meth.locks = false) (hK : va_K D vwCl tys s) {r : Int64} {u : St} (hw : K r u) (hP : va_P D vwCl (w u) H) (hS : va_S (AW ad N s.heap.size) s.heap H locs) (hdg : decode cc pc = .ok (.lreturn, 1)) :
    W p l e R s m args below meth c H locs 0 0 (MQ below (va_Ql K (inW D w tys) (AW ad N s.heap.size)) args s 0 0 (AW ad N s.heap.size)) (F0 m pc ls [.long r]) :=
  W.lret (v := r) F.1 F.2.1 hr (fun t ht hW => ⟨⟨r, u, rfl, hw, by rw [ht]; exact hP, va_K.moved hW.alike hK⟩, hS.F ht⟩) hS.2.2 hdg hlocks
theorem rtV {K : St → Prop} (F : CallFix p m c cc nL s args Ts own) (hr : meth.sig.returnType = none) (hlocks : meth.locks = false) (hK : va_K D vwCl tys s) {u : St} (hw : K u) (hP : va_P D vwCl (w u) H) (hS : va_S (AW ad N s.heap.size) s.heap H locs) (hdg : decode cc pc = .ok (.return_, 1)) :
    W p l e R s m args below meth c H locs 0 0 (MQ below (va_Qv K (inW D w tys) (AW ad N s.heap.size)) args s 0 0 (AW ad N s.heap.size)) (F0 m pc ls []) :=
  W.vret F.1 F.2.1 hr (fun t ht hW => ⟨⟨u, rfl, hw, by rw [ht]; exact hP, va_K.moved hW.alike hK⟩, hS.F ht⟩) hS.2.2 hdg hlocks
/-- a switch by a table, as a chain of tests: the place is 'at', its target 'tgt' -/
theorem sw_in {dflt lo hi : Int} {offs : Array Int} {len : Nat} {x : Int32} (v : Int32) {off : Int} {tgt : Nat} (F : CallFix p m c cc nL s args Ts own) (hdg : decode cc pc = .ok (.tableswitch dflt lo hi offs, len)) (hv : x = v) (h1 : ¬ v.toInt < lo) (h2 : ¬ hi < v.toInt) (ho : offs[(v.toInt - lo).toNat]? = some off) (ht : (pc : Int) + off = (tgt : Int))
    (k : W p l e R s m args below meth c H locs cells slots Q (F0 m tgt ls rest)) : W p l e R s m args below meth c H locs cells slots Q (F0 m pc ls (.int x :: rest)) := by
  subst hv
  exact lv_tableIn F.1 F.2.1 hdg h1 h2 ho ht k
end CALLS
theorem zb_fit {r : Int32} (h : zb r) : fits .boolean (.int r) = true := by
  rcases h with rfl | rfl <;> rfl
/-- the static row of the kinds' ports, as the start has it -/
def jPZ (ad : Nat → Nat) (N sz aP : Nat) (U : State) : Prop := va_Z "TokenFloor$Kind" "PORTS" "[I" (.ref aP) (AW ad N sz) U U.heap ∧ va_T .int aP 22 (fun j => .int (jports j)) (AW ad N sz) U U.heap
theorem jPZ_blind {ad : Nat → Nat} {N sz aP : Nat} (a : Array Value) (U : State) (g : JFrame) (mk : MethodId) (h : jPZ ad N sz aP U) : jPZ ad N sz aP (U.calling g mk a) :=
  ⟨va_Z.moved (u := U) (U := U.calling g mk a) (Vm.Alike.refl U.vm) h.1, va_T.moved (u := U) (U := U.calling g mk a) (Vm.Alike.refl U.vm) h.2⟩
theorem jPZ_at {ad : Nat → Nat} {N aP : Nat} {s : State} {H : Heap} {locs : List Loc} (h : jPZ ad N s.heap.size aP s) (hS : va_S (AW ad N s.heap.size) s.heap H locs) (U : State) (hU : U.heap = H) (hW : s.WarmedH U.vm) : jPZ ad N H.size aP U := by
  refine ⟨?_, ?_⟩
  · rw [hU]
    exact va_Z.moved hW.alike ((h.1.kept hS.2.1).narrow (fun q z => AW.mono hS.1 z))
  · rw [hU]
    exact va_T.moved hW.alike ((h.2.kept hS.2.1).narrow (fun q z => AW.mono hS.1 z))
theorem pc_blindX {av : List Value} {sz : Nat} {D : va_G} {w : St → va_W} {tys : List (ClassId × FieldType)} {σ : St} {X : State → Prop} (hXb : ∀ (a : Array Value) (U : State) (g : JFrame) (mk : MethodId), X U → X (U.calling g mk a)) : FrameBlind (va_Pc av (fun U => U.heap.size = sz ∧ inW D w tys σ U ∧ X U)) := by
  intro a U g mk q
  obtain ⟨q0, q1, ⟨qP, qK⟩, qX⟩ := q
  exact ⟨q0, q1, ⟨qP, va_K.moved (u := U) (U := U.calling g mk a) (Vm.Alike.refl U.vm) qK⟩, hXb a U g mk qX⟩
section CALLX
variable {p : Program} {l : Launch} {e : Env} {R : Room} {s : State} {m : MethodId} {args : Array Value} {below : List Frame} {meth : Method} {c : Code} {H : Heap} {locs : List Loc} {cells slots : Nat} {Q : State → Prop}
variable {y : MethodName} {bytes cc : ByteArray} {maxL nL n index pc : Nat} {ret : Option FieldType} {ws : List Cond} {rm : Room} {Ts : List Cond} {own C : String} {b : Addr} {As rest st : List Value} {ls : Array Slot}
variable {D : va_G} {w : St → va_W} {tys : List (ClassId × FieldType)} {ad : Nat → Nat} {N : Nat} {σ : St} {X : State → Prop}
theorem cvIX {K : Int32 → St → Prop} (hXb : ∀ (a : Array Value) (U : State) (g : JFrame) (mk : MethodId), X U → X (U.calling g mk a)) (hXa : ∀ U : State, U.heap = H → s.WarmedH U.vm → X U) (F : CallFix p m c cc nL s args Ts own) (hK : va_K D vwCl tys s) (hP : va_P D vwCl (w σ) H) (hS : va_S (AW ad N s.heap.size) s.heap H locs)
    (hM : Met l y ws rm (va_Pc (.ref b :: As) (fun U => U.heap.size = H.size ∧ inW D w tys σ U ∧ X U)) (va_Qi K (inW D w tys) (AW ad N H.size)) 0 0 (AW ad N H.size)) (cw : CallW R s args own C index y bytes maxL ret ws rm 0 0 n)
    (hrecv : ∃ cell : Cell, H[b]? = some cell ∧ cell.vm.isStatics = false ∧ s.vm.findClass C = some cell.cls) (hn : As.length = n) (hsize : ls.size = nL) (hst : st = As.reverse ++ .ref b :: rest) (hW : (rest.map fun v => v.category).sum ≤ 8) (hdg : decode cc pc = .ok (.invokevirtual index, 3)) (hf : cells ≤ R.cells ∧ slots ≤ R.slots)
    (kk : ∀ (r : Int32) (u : St) (H1 : Heap) (locs1 : List Loc), K r u → va_P D vwCl (w u) H1 → va_S (AW ad N s.heap.size) s.heap H1 locs1 → W p l e R s m args below meth c H1 locs1 cells slots Q (F0 m (pc + 3) ls (.int r :: rest))) : W p l e R s m args below meth c H locs cells slots Q (F0 m pc ls st) := by
  refine va_calli (va_runV (As := As) (rest := rest) F hM cw ⟨pc_blindX hXb, hrecv, fun U hU hW => ⟨rfl, by rw [hU], ⟨by rw [hU]; exact hP, va_K.moved hW.alike hK⟩, hXa U hU hW⟩⟩ rfl hn hsize hst (lv_room hW) hdg hf) hS (fun q _ h => AW.mono hS.1 h) (fun q h => AW.mono hS.1 h) (fun r u t H1 locs1 ht _ hw hB _ _ hS1 => ?_)
  exact kk r u H1 locs1 hw (by rw [← ht]; exact hB.1) hS1
theorem csIX {K : Int32 → St → Prop} (hXb : ∀ (a : Array Value) (U : State) (g : JFrame) (mk : MethodId), X U → X (U.calling g mk a)) (hXa : ∀ U : State, U.heap = H → s.WarmedH U.vm → X U) (F : CallFix p m c cc nL s args Ts own) (hK : va_K D vwCl tys s) (hP : va_P D vwCl (w σ) H) (hS : va_S (AW ad N s.heap.size) s.heap H locs)
    (hM : Met l y ws rm (va_Pc As (fun U => U.heap.size = H.size ∧ inW D w tys σ U ∧ X U)) (va_Qi K (inW D w tys) (AW ad N H.size)) 0 0 (AW ad N H.size)) (cw : CallB R s args own index y bytes maxL ret ws rm 0 0 n ∧ (Cond.static y).before args s = true)
    (hn : As.length = n) (hsize : ls.size = nL) (hst : st = As.reverse ++ rest) (hW : (rest.map fun v => v.category).sum ≤ 8) (hdg : decode cc pc = .ok (.invokestatic index, 3)) (hf : cells ≤ R.cells ∧ slots ≤ R.slots)
    (kk : ∀ (r : Int32) (u : St) (H1 : Heap) (locs1 : List Loc), K r u → va_P D vwCl (w u) H1 → va_S (AW ad N s.heap.size) s.heap H1 locs1 → W p l e R s m args below meth c H1 locs1 cells slots Q (F0 m (pc + 3) ls (.int r :: rest))) : W p l e R s m args below meth c H locs cells slots Q (F0 m pc ls st) := by
  refine va_calli (va_runS (As := As) (rest := rest) F hM cw ⟨pc_blindX hXb, fun U hU hW => ⟨rfl, by rw [hU], ⟨by rw [hU]; exact hP, va_K.moved hW.alike hK⟩, hXa U hU hW⟩⟩ rfl hn hsize hst (lv_room hW) hdg hf) hS (fun q _ h => AW.mono hS.1 h) (fun q h => AW.mono hS.1 h) (fun r u t H1 locs1 ht _ hw hB _ _ hS1 => ?_)
  exact kk r u H1 locs1 hw (by rw [← ht]; exact hB.1) hS1
end CALLX
def wdC (ad : Nat → Nat) (cI cJ : ClassId) (σ : St) : va_W := [
  (ad 0, .inr (6, [.ref (ad 1), .ref (ad 2), .ref (ad 7), .ref (ad 8), .int (gS σ 0)])),
  (ad 1, .inr (2, [.int (gS σ 1), .ref (ad 9), .ref (ad 10), .ref (ad 11), .ref (ad 12), .int (gS σ 2), .ref (ad 13), .ref (ad 14), .ref (ad 15), .ref (ad 16), .ref (ad 17), .int (gS σ 3), .ref (ad 18), .ref (ad 19), .ref (ad 20)])),
  (ad 2, .inr (3, [.ref (ad 3), .ref (ad 21), .ref (ad 22), .ref (ad 1), .ref (ad 4), .ref (ad 5), .ref (ad 6), .int (gS σ 4), .int (gS σ 5), .int (gS σ 6), .int (gS σ 7), .int (gS σ 8), .int (gS σ 9), .int (gS σ 10)])),
  (ad 3, .inr (5, [.int (gS σ 11), .ref (ad 23), .ref (ad 24), .int (gS σ 12), .int (gS σ 13), .ref (ad 25), .ref (ad 26), .ref (ad 27), .ref (ad 28), .ref (ad 29)])),
  (ad 4, .inr (0, [.int (gS σ 14), .ref (ad 30), .ref (ad 31), .ref (ad 32), .ref (ad 33), .ref (ad 34)])),
  (ad 5, .inr (1, [.int (gS σ 15), .ref (ad 35), .ref (ad 36), .int (gS σ 16), .ref (ad 37), .ref (ad 38), .ref (ad 39), .ref (ad 40)])),
  (ad 6, .inr (4, [.ref (ad 41), .int (gS σ 17), .int (gS σ 18)])),
  (ad 7, .inl (cJ, 100, .inr (.inl (gL σ 0)))),
  (ad 8, .inl (cJ, 100, .inr (.inl (gL σ 1)))),
  (ad 9, .inl (cI, 80, .inl (gA σ 0))),
  (ad 10, .inl (cI, 80, .inl (gA σ 1))),
  (ad 11, .inl (cI, 80, .inl (gA σ 2))),
  (ad 12, .inl (cI, 100, .inl (gA σ 3))),
  (ad 13, .inl (cI, 300, .inl (gA σ 4))),
  (ad 14, .inl (cI, 300, .inl (gA σ 5))),
  (ad 15, .inl (cI, 300, .inl (gA σ 6))),
  (ad 16, .inl (cI, 160, .inl (gA σ 7))),
  (ad 17, .inl (cI, 160, .inl (gA σ 8))),
  (ad 18, .inl (cI, 40, .inl (gA σ 9))),
  (ad 19, .inl (cI, 40, .inl (gA σ 10))),
  (ad 20, .inl (cI, 40, .inl (gA σ 11))),
  (ad 21, .inl (cI, 80, .inl (gA σ 12))),
  (ad 22, .inl (cJ, 10, .inr (.inl (gL σ 2)))),
  (ad 23, .inl (cI, 80, .inl (gA σ 13))),
  (ad 24, .inl (cJ, 2000, .inr (.inl (gL σ 3)))),
  (ad 25, .inl (cI, 300, .inl (gA σ 14))),
  (ad 26, .inl (cI, 300, .inl (gA σ 15))),
  (ad 27, .inl (cI, 2000, .inl (gA σ 16))),
  (ad 28, .inl (cI, 2000, .inl (gA σ 17))),
  (ad 29, .inl (cI, 3000, .inl (gA σ 18))),
  (ad 30, .inl (cI, 600, .inl (gA σ 19))),
  (ad 31, .inl (cI, 600, .inl (gA σ 20))),
  (ad 32, .inl (cI, 600, .inl (gA σ 21))),
  (ad 33, .inl (cI, 600, .inl (gA σ 22))),
  (ad 34, .inl (cI, 600, .inl (gA σ 23))),
  (ad 35, .inl (cI, 3000, .inl (gA σ 24))),
  (ad 36, .inl (cI, 3000, .inl (gA σ 25))),
  (ad 37, .inl (cI, 3000, .inl (gA σ 26))),
  (ad 38, .inl (cJ, 9000, .inr (.inl (gL σ 4)))),
  (ad 39, .inl (cI, 600, .inl (gA σ 27))),
  (ad 40, .inl (cI, 3000, .inl (gA σ 28))),
  (ad 41, .inl (cI, 3000, .inl (gA σ 29)))]
set_option maxRecDepth 100000 in
theorem wdC_D {ad : Nat → Nat} {cI cJ : ClassId} {sz : Nat} (hap : apart ad 42) (σ : St) : va_D (AW ad 42 sz) (wdC ad cI cJ σ) := va_D_of hap rfl
def wdM (ad : Nat → Nat) (cI : ClassId) (σ : St) : va_W := [
  (ad 0, .inr (7, [.ref (ad 1), .ref (ad 2), .ref (ad 3), .ref (ad 4), .ref (ad 5), .ref (ad 6), .ref (ad 7), .ref (ad 8), .ref (ad 9), .ref (ad 10), .int (gS σ 0), .int (gS σ 1), .int (gS σ 2), .int (gS σ 3), .int (gS σ 4), .int (gS σ 5), .int (gS σ 6), .int (gS σ 7), .int (gS σ 8), .int (gS σ 9), .int (gS σ 10), .int (gS σ 11), .ref (ad 11), .ref (ad 12), .ref (ad 13), .ref (ad 14), .int (gS σ 12), .ref (ad 15), .ref (ad 16), .ref (ad 17), .ref (ad 18), .ref (ad 19), .ref (ad 20), .ref (ad 21), .ref (ad 22), .ref (ad 23), .ref (ad 24), .int (gS σ 13), .ref (ad 25), .int (gS σ 14), .ref (ad 26), .ref (ad 27), .ref (ad 28), .ref (ad 29), .ref (ad 30), .ref (ad 31), .ref (ad 32), .int (gS σ 15), .int (gS σ 16), .ref (ad 33), .ref (ad 34), .int (gS σ 17), .ref (ad 35), .ref (ad 36), .ref (ad 37), .ref (ad 38), .ref (ad 39)])),
  (ad 1, .inl (cI, 80, .inl (gA σ 0))),
  (ad 2, .inl (cI, 80, .inl (gA σ 1))),
  (ad 3, .inl (cI, 80, .inl (gA σ 2))),
  (ad 4, .inl (cI, 300, .inl (gA σ 3))),
  (ad 5, .inl (cI, 300, .inl (gA σ 4))),
  (ad 6, .inl (cI, 300, .inl (gA σ 5))),
  (ad 7, .inl (cI, 300, .inl (gA σ 6))),
  (ad 8, .inl (cI, 40, .inl (gA σ 7))),
  (ad 9, .inl (cI, 40, .inl (gA σ 8))),
  (ad 10, .inl (cI, 40, .inl (gA σ 9))),
  (ad 11, .inl (cI, 600, .inl (gA σ 10))),
  (ad 12, .inl (cI, 600, .inl (gA σ 11))),
  (ad 13, .inl (cI, 600, .inl (gA σ 12))),
  (ad 14, .inl (cI, 600, .inl (gA σ 13))),
  (ad 15, .inl (cI, 3000, .inl (gA σ 14))),
  (ad 16, .inl (cI, 3000, .inl (gA σ 15))),
  (ad 17, .inl (cI, 3000, .inl (gA σ 16))),
  (ad 18, .inl (cI, 3000, .inl (gA σ 17))),
  (ad 19, .inl (cI, 3000, .inl (gA σ 18))),
  (ad 20, .inl (cI, 9000, .inl (gA σ 19))),
  (ad 21, .inl (cI, 9000, .inl (gA σ 20))),
  (ad 22, .inl (cI, 9000, .inl (gA σ 21))),
  (ad 23, .inl (cI, 80, .inl (gA σ 22))),
  (ad 24, .inl (cI, 80, .inl (gA σ 23))),
  (ad 25, .inl (cI, 3000, .inl (gA σ 24))),
  (ad 26, .inl (cI, 300, .inl (gA σ 25))),
  (ad 27, .inl (cI, 300, .inl (gA σ 26))),
  (ad 28, .inl (cI, 300, .inl (gA σ 27))),
  (ad 29, .inl (cI, 300, .inl (gA σ 28))),
  (ad 30, .inl (cI, 2000, .inl (gA σ 29))),
  (ad 31, .inl (cI, 2000, .inl (gA σ 30))),
  (ad 32, .inl (cI, 2000, .inl (gA σ 31))),
  (ad 33, .inl (cI, 3000, .inl (gA σ 32))),
  (ad 34, .inl (cI, 3000, .inl (gA σ 33))),
  (ad 35, .inl (cI, 10, .inl (gA σ 34))),
  (ad 36, .inl (cI, 10, .inl (gA σ 35))),
  (ad 37, .inl (cI, 10, .inl (gA σ 36))),
  (ad 38, .inl (cI, 116, .inl (gA σ 37))),
  (ad 39, .inl (cI, 116, .inl (gA σ 38)))]
set_option maxRecDepth 100000 in
theorem wdM_D {ad : Nat → Nat} {cI : ClassId} {sz : Nat} (hap : apart ad 40) (σ : St) : va_D (AW ad 40 sz) (wdM ad cI σ) := va_D_of hap rfl
