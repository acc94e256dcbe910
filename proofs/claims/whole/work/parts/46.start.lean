theorem two_apart {ad bd : Nat → Nat} {N M sz : Nat} {w1 w2 : va_W} (h1 : w1.map (·.1) = (List.range N).map ad) (h2 : w2.map (·.1) = (List.range M).map bd) (hD : va_D (fun q : Nat => sz ≤ q) (w1 ++ w2)) : apart ad N ∧ apart bd M ∧ (∀ i j, i < N → j < M → ad i ≠ bd j) ∧ (∀ i j, i < M → j < N → bd i ≠ ad j) ∧ (∀ i, i < N → sz ≤ ad i) ∧ (∀ i, i < M → sz ≤ bd i) := by
  have hl1 : w1.length = N := by have := congrArg List.length h1; simpa using this
  have hl2 : w2.length = M := by have := congrArg List.length h2; simpa using this
  have g1 : ∀ i, i < N → ∃ e, (w1 ++ w2)[i]? = some (ad i, e) := by
    intro i hi
    have hlt : i < w1.length := by omega
    refine ⟨(w1[i]).2, ?_⟩
    rw [List.getElem?_append_left hlt, List.getElem?_eq_getElem hlt]
    have hq := (wd_at h1 i (w1[i]) (List.getElem?_eq_getElem hlt)).2
    exact congrArg some (Prod.ext hq rfl)
  have g2 : ∀ i, i < M → ∃ e, (w1 ++ w2)[N + i]? = some (bd i, e) := by
    intro i hi
    have hlt : i < w2.length := by omega
    refine ⟨(w2[i]).2, ?_⟩
    rw [List.getElem?_append_right (by omega), show N + i - w1.length = i by omega, List.getElem?_eq_getElem hlt]
    have hq := (wd_at h2 i (w2[i]) (List.getElem?_eq_getElem hlt)).2
    exact congrArg some (Prod.ext hq rfl)
  refine ⟨fun i j hi hj e => ?_, fun i j hi hj e => ?_, fun i j hi hj e => ?_, fun i j hi hj e => ?_, fun i hi => ?_, fun i hi => ?_⟩
  · obtain ⟨a, ha⟩ := g1 i hi
    obtain ⟨b, hb⟩ := g1 j hj
    exact hD.1 i j _ _ ha hb e
  · obtain ⟨a, ha⟩ := g2 i hi
    obtain ⟨b, hb⟩ := g2 j hj
    have := hD.1 _ _ _ _ ha hb e
    omega
  · obtain ⟨a, ha⟩ := g1 i hi
    obtain ⟨b, hb⟩ := g2 j hj
    have := hD.1 _ _ _ _ ha hb e
    omega
  · obtain ⟨a, ha⟩ := g2 i hi
    obtain ⟨b, hb⟩ := g1 j hj
    have := hD.1 _ _ _ _ ha hb e
    omega
  · obtain ⟨a, ha⟩ := g1 i hi
    exact hD.2 _ _ ha
  · obtain ⟨a, ha⟩ := g2 i hi
    exact hD.2 _ _ ha
set_option maxHeartbeats 8000000 in
set_option maxRecDepth 100000 in
/-- the law, from its entry, over a relation between the two sides -/
theorem whole_open {p : Program} {e : Env} {s : State} {m : MethodId} {below : List Frame} {meth : Method} {c : Code} (l : Launch) {b L : Nat} {xs : Nat → Int32} (hL : L ≤ 2560) (C0 : lw_At p s m meth c b L xs) {Rel : St → St → Prop} (hst : JSteps Rel) (h0 : Rel jC0 jM0) : W p l e room_1 s m #[Value.ref b] below meth c s.heap [] 0 0 (lw_Z below #[Value.ref b] s) (entryFrame m ([Value.ref b] : List Value).toArray 4) := by
  obtain ⟨hx, hb, hr, hml, hown, hts0, hX, hbl, hlocks, hgv⟩ := id C0
  have hts : ∀ w ∈ lw_U, w.before #[Value.ref b] s = true := fun w h => hts0 w (List.mem_filter.mp h).1
  have F : CallFix p m c cL_law 4 s #[Value.ref b] lw_U RL := ⟨hx, hb, hml, hown, hts⟩
  have hA : ∀ q : Nat, s.heap.size ≤ q → (fun q : Nat => s.heap.size ≤ q) q := fun _ h => h
  have hbA : ¬ (fun q : Nat => s.heap.size ≤ q) b := Nat.not_le.mpr hbl
  obtain ⟨c0, iS0, hKn0⟩ := u_known (C := RX0) (T := TX0) (N := 6) (n := 6) hts iw_X0 (hts _ mw_631)
  obtain ⟨c1, iS1, hKn1⟩ := u_known (C := RX1) (T := TX1) (N := 8) (n := 8) hts iw_X1 (hts _ mw_635)
  obtain ⟨c2, iS2, hKn2⟩ := u_known (C := RX2) (T := TX2) (N := 15) (n := 15) hts iw_X2 (hts _ mw_644)
  obtain ⟨c3, iS3, hKn3⟩ := u_known (C := RX4) (T := TX4) (N := 14) (n := 14) hts iw_X4 (hts _ mw_649)
  obtain ⟨c4, iS4, hKn4⟩ := u_known (C := RX5) (T := TX5) (N := 3) (n := 3) hts iw_X5 (hts _ mw_639)
  obtain ⟨c5, iS5, hKn5⟩ := u_known (C := RX6) (T := TX6) (N := 10) (n := 10) hts iw_X6 (hts _ mw_627)
  obtain ⟨c6, iS6, hKn6⟩ := u_known (C := RX9) (T := TX9) (N := 5) (n := 5) hts iw_X9 (hts _ mw_743)
  obtain ⟨c7, iS7, hKn7⟩ := u_known (C := RX10) (T := TX10) (N := 57) (n := 57) hts iw_X10 (hts _ mw_744)
  obtain ⟨dC, dI, hKc⟩ : ∃ (dC : Nat → ClassId) (dI : Nat → Nat → Nat), ∀ (k : Nat) (q : vw_C), vwCl[k]? = some q → u_Kn s q.1 q.2.1 q.2.2 (dC k) (dI k) := by
    refine ⟨fun k => if k = 0 then c0 else if k = 1 then c1 else if k = 2 then c2 else if k = 3 then c3 else if k = 4 then c4 else if k = 5 then c5 else if k = 6 then c6 else c7, fun k => if k = 0 then iS0 else if k = 1 then iS1 else if k = 2 then iS2 else if k = 3 then iS3 else if k = 4 then iS4 else if k = 5 then iS5 else if k = 6 then iS6 else iS7, ?_⟩
    intro k q hq
    match k, hq with
    | 0, hq => cases hq; exact hKn0
    | 1, hq => cases hq; exact hKn1
    | 2, hq => cases hq; exact hKn2
    | 3, hq => cases hq; exact hKn3
    | 4, hq => cases hq; exact hKn4
    | 5, hq => cases hq; exact hKn5
    | 6, hq => cases hq; exact hKn6
    | 7, hq => cases hq; exact hKn7
    | k + 8, hq => simp [vwCl] at hq
  obtain ⟨cI, kI, compI, hI1, hI2, hI3⟩ := Cond.arrayClass_spec (hts _ mw_618)
  obtain ⟨cJ, kJ, compJ, hJ1, hJ2, hJ3⟩ := Cond.arrayClass_spec (hts _ mw_620)
  have hK : va_K (dC, dI) vwCl [(cI, .int), (cJ, .long)] s := by
    refine ⟨hKc, fun k q h => ?_⟩
    match k, h with
    | 0, h => cases h; exact ⟨fun n z => ⟨fun k h => (by cases h), kI, hI2, compI, hI3⟩, hI1⟩
    | 1, h => cases h; exact ⟨fun n z => ⟨fun k h => (by cases h), kJ, hJ2, compJ, hJ3⟩, hJ1⟩
    | k + 2, h => simp at h
  have hS : va_S (fun q : Nat => s.heap.size ≤ q) s.heap s.heap [] := va_S.rf
  have hP : va_P (dC, dI) vwCl [] s.heap := fun k q h => by simp at h
  have hD : va_D (fun q : Nat => s.heap.size ≤ q) [] := ⟨fun i j p q h => by simp at h, fun k q h => by simp at h⟩
  have hfl := flat_of_before _ hgv
  have hnA : ∀ a : Nat, a < s.heap.size → ¬ (fun q : Nat => s.heap.size ≤ q) a := fun a h => Nat.not_le.mpr h
  obtain ⟨aP, hPe, hPT⟩ := va_Tof (tm := .static "TokenFloor$Kind" "PORTS" "[I") (ty := .int) (N := 22) (f := fun j => .int (jports j)) (A := fun q : Nat => s.heap.size ≤ q) (by decide) (hfl (.arrayOf (.static "TokenFloor$Kind" "PORTS" "[I") .int) (by decide +kernel)) (va_eqt (hfl (.eq (.length (.static "TokenFloor$Kind" "PORTS" "[I")) (.int 22)) (by decide +kernel))) (by
    intro j hj
    match j, hj with
    | 0, _ => exact va_eqt (hfl (.eq (.elem (.static "TokenFloor$Kind" "PORTS" "[I") (.int 0)) (.int 1)) (by decide +kernel))
    | 1, _ => exact va_eqt (hfl (.eq (.elem (.static "TokenFloor$Kind" "PORTS" "[I") (.int 1)) (.int 1)) (by decide +kernel))
    | 2, _ => exact va_eqt (hfl (.eq (.elem (.static "TokenFloor$Kind" "PORTS" "[I") (.int 2)) (.int 2)) (by decide +kernel))
    | 3, _ => exact va_eqt (hfl (.eq (.elem (.static "TokenFloor$Kind" "PORTS" "[I") (.int 3)) (.int 2)) (by decide +kernel))
    | 4, _ => exact va_eqt (hfl (.eq (.elem (.static "TokenFloor$Kind" "PORTS" "[I") (.int 4)) (.int 2)) (by decide +kernel))
    | 5, _ => exact va_eqt (hfl (.eq (.elem (.static "TokenFloor$Kind" "PORTS" "[I") (.int 5)) (.int 2)) (by decide +kernel))
    | 6, _ => exact va_eqt (hfl (.eq (.elem (.static "TokenFloor$Kind" "PORTS" "[I") (.int 6)) (.int 2)) (by decide +kernel))
    | 7, _ => exact va_eqt (hfl (.eq (.elem (.static "TokenFloor$Kind" "PORTS" "[I") (.int 7)) (.int 2)) (by decide +kernel))
    | 8, _ => exact va_eqt (hfl (.eq (.elem (.static "TokenFloor$Kind" "PORTS" "[I") (.int 8)) (.int 2)) (by decide +kernel))
    | 9, _ => exact va_eqt (hfl (.eq (.elem (.static "TokenFloor$Kind" "PORTS" "[I") (.int 9)) (.int 1)) (by decide +kernel))
    | 10, _ => exact va_eqt (hfl (.eq (.elem (.static "TokenFloor$Kind" "PORTS" "[I") (.int 10)) (.int 2)) (by decide +kernel))
    | 11, _ => exact va_eqt (hfl (.eq (.elem (.static "TokenFloor$Kind" "PORTS" "[I") (.int 11)) (.int 1)) (by decide +kernel))
    | 12, _ => exact va_eqt (hfl (.eq (.elem (.static "TokenFloor$Kind" "PORTS" "[I") (.int 12)) (.int 1)) (by decide +kernel))
    | 13, _ => exact va_eqt (hfl (.eq (.elem (.static "TokenFloor$Kind" "PORTS" "[I") (.int 13)) (.int 1)) (by decide +kernel))
    | 14, _ => exact va_eqt (hfl (.eq (.elem (.static "TokenFloor$Kind" "PORTS" "[I") (.int 14)) (.int 0)) (by decide +kernel))
    | 15, _ => exact va_eqt (hfl (.eq (.elem (.static "TokenFloor$Kind" "PORTS" "[I") (.int 15)) (.int 1)) (by decide +kernel))
    | 16, _ => exact va_eqt (hfl (.eq (.elem (.static "TokenFloor$Kind" "PORTS" "[I") (.int 16)) (.int 1)) (by decide +kernel))
    | 17, _ => exact va_eqt (hfl (.eq (.elem (.static "TokenFloor$Kind" "PORTS" "[I") (.int 17)) (.int 1)) (by decide +kernel))
    | 18, _ => exact va_eqt (hfl (.eq (.elem (.static "TokenFloor$Kind" "PORTS" "[I") (.int 18)) (.int 2)) (by decide +kernel))
    | 19, _ => exact va_eqt (hfl (.eq (.elem (.static "TokenFloor$Kind" "PORTS" "[I") (.int 19)) (.int 3)) (by decide +kernel))
    | 20, _ => exact va_eqt (hfl (.eq (.elem (.static "TokenFloor$Kind" "PORTS" "[I") (.int 20)) (.int 1)) (by decide +kernel))
    | 21, _ => exact va_eqt (hfl (.eq (.elem (.static "TokenFloor$Kind" "PORTS" "[I") (.int 21)) (.int 1)) (by decide +kernel))
    | j + 22, h => omega) hnA
  have hPZ := va_Zof (C := "TokenFloor$Kind") (n := "PORTS") (d := "[I") (A := fun q : Nat => s.heap.size ≤ q) (hts0 _ (lw_in2 (List.mem_of_getElem? (i := 61) (by decide +kernel)))) (hts _ mw_36) hPe hnA
  have hl := lv_entry ([.ref b]) (n := 4) (Nat.le_of_ble_eq_true rfl)
  rw [lg_entry_eq]
  generalize (lg_sl ([.ref b]) ++ List.replicate (4 - (lg_sl ([.ref b])).length) Slot.unset).toArray = ls at hl ⊢
  have hl : lv_has ls 4 [(0, .ref b)] := hl
  have hN11 : va_Nw (.methodLinkNest RX4 11 yX6_init "TokenFloor") s := va_Nw.of rfl (hts0 _ (lw_in1 (List.mem_of_getElem? (i := 100) (by decide +kernel))))
  have hN28 : va_Nw (.methodLinkNest RX4 28 yX0_init "TokenFloor") s := va_Nw.of rfl (hts0 _ (lw_in1 (List.mem_of_getElem? (i := 143) (by decide +kernel))))
  have hN35 : va_Nw (.methodLinkNest RX4 35 yX1_init "TokenFloor") s := va_Nw.of rfl (hts0 _ (lw_in1 (List.mem_of_getElem? (i := 169) (by decide +kernel))))
  have hN42 : va_Nw (.methodLinkNest RX4 42 yX5_init "TokenFloor") s := va_Nw.of rfl (hts0 _ (lw_in1 (List.mem_of_getElem? (i := 203) (by decide +kernel))))
  refine va_new (ci := 6) (fs := [.null, .null, .null, .null, .int 0]) (C := RX9) (T := TX9) (N := 5) hx hb hts iw_X9 tyX9 tyX9_ok hown (hts _ mw_745) (hts _ mw_743) (hts _ mw_387) hK hP hD hS hA rfl dv_X9 (Nat.le_of_ble_eq_true rfl) (Nat.le_of_ble_eq_true rfl) dL_law_0 (fun qa H hP hD hS => ?_)
  refine W.widen (k := 1) (n := 5) (Nat.le_refl _) (Nat.le_refl _) ?_
  refine lv_dup hx hb dL_law_3 rfl ?_
  have hP : va_P (dC, dI) vwCl [(qa, .inr (6, [.null, .null, .null, .null, .int 0]))] H := hP
  have hD : va_D (fun q : Nat => s.heap.size ≤ q) [(qa, .inr (6, [.null, .null, .null, .null, .int 0]))] := hD
  have hPc := hP.sub (ws' := [(qa, .inr (6, [.null, .null, .null, .null, .int 0]))]) [0] rfl
  have hDc := hD.sub (ws' := [(qa, .inr (6, [.null, .null, .null, .null, .int 0]))]) [0] (by decide) rfl
  have hFc := va_free (wc := [(qa, .inr (6, [.null, .null, .null, .null, .int 0]))]) hD hS hA [0] rfl
  refine va_callv (va_runI (As := []) (rest := [.ref qa]) F (c_X9_init l (dC, dI) cI cJ qa H.size) (cwI 0 hts (gUC mw_747) rfl rfl rfl (hts _ mw_387) (hts _ mw_748) (hts _ mw_746) rfl (by decide +kernel) ⟨Nat.le_of_ble_eq_true rfl, Nat.le_of_ble_eq_true rfl⟩) ⟨fun a U g mk q => by obtain ⟨q0, q1, qP, qK, qD, qN11, qN28, qN35, qN42⟩ := q; exact ⟨q0, q1, qP, va_K.moved (u := U) (U := U.calling g mk a) (Vm.Alike.refl U.vm) qK, qD, va_Nw.same rfl rfl qN11, va_Nw.same rfl rfl qN28, va_Nw.same rfl rfl qN35, va_Nw.same rfl rfl qN42⟩, fun U hU hW => ⟨rfl, by rw [hU], by rw [hU]; exact hPc, va_K.moved hW.alike hK, hDc.weaken (fun _ _ _ _ => trivial), va_Nw.warmM hW hN11, va_Nw.warmM hW hN28, va_Nw.warmM hW hN35, va_Nw.warmM hW hN42⟩⟩ rfl rfl hl.1 rfl (lv_room (Nat.le_of_ble_eq_true rfl)) dL_law_4 ⟨Nat.le_of_ble_eq_true rfl, Nat.le_of_ble_eq_true rfl⟩) hS (fun q _ h => hFc q h) hFc (fun ua t H1 locs ht hvm hw hB hz1 hk1 hS => ?_)
  obtain ⟨hP1, hD1⟩ := hB
  rw [ht] at hP1
  obtain ⟨hP, hD⟩ := va_join (wr := []) (w1 := wP_X9_init cI cJ qa ua) hP hD [0] [] rfl rfl (by decide) (by decide) hk1 hFc hP1 hD1
  generalize H1 = H at hP hS ⊢
  refine W.widen (k := 42) (n := 39311) (Nat.le_refl _) (Nat.le_refl _) ?_
  obtain ⟨ad, hade⟩ : ∃ ad : Nat → Nat, ad = (fun k => [qa, (ua 1), (ua 14), (ua 15), (ua 25), (ua 31), (ua 38), (ua 40), (ua 41), (ua 2), (ua 3), (ua 4), (ua 5), (ua 6), (ua 7), (ua 8), (ua 9), (ua 10), (ua 11), (ua 12), (ua 13), (ua 23), (ua 24), (ua 16), (ua 17), (ua 18), (ua 19), (ua 20), (ua 21), (ua 22), (ua 26), (ua 27), (ua 28), (ua 29), (ua 30), (ua 32), (ua 33), (ua 34), (ua 35), (ua 36), (ua 37), (ua 39)].getD k 0) := ⟨_, rfl⟩
  have hP : va_P (dC, dI) vwCl (wdC ad cI cJ jC0) H := by rw [hade]; exact hP.sub [0, 1, 14, 15, 25, 31, 38, 40, 41, 2, 3, 4, 5, 6, 7, 8, 9, 10, 11, 12, 13, 23, 24, 16, 17, 18, 19, 20, 21, 22, 26, 27, 28, 29, 30, 32, 33, 34, 35, 36, 37, 39] rfl
  have hD : va_D (fun q : Nat => s.heap.size ≤ q) (wdC ad cI cJ jC0) := by rw [hade]; exact hD.sub [0, 1, 14, 15, 25, 31, 38, 40, 41, 2, 3, 4, 5, 6, 7, 8, 9, 10, 11, 12, 13, 23, 24, 16, 17, 18, 19, 20, 21, 22, 26, 27, 28, 29, 30, 32, 33, 34, 35, 36, 37, 39] (by decide) rfl
  have hqa : qa = ad 0 := by rw [hade]; rfl
  refine lv_astore_n (lv' := [(1, .ref qa), (0, .ref b)]) hx hb dL_law_7 rfl hl (by decide) rfl (fun ls hl => ?_)
  obtain ⟨wc, hwc⟩ : ∃ wc : va_W, wc = wdC ad cI cJ jC0 := ⟨_, rfl⟩
  have hwl : wc.length = 42 := by rw [hwc]; rfl
  refine va_new (ci := 7) (fs := [.null, .null, .null, .null, .null, .null, .null, .null, .null, .null, .int 0, .int 0, .int 0, .int 0, .int 0, .int 0, .int 0, .int 0, .int 0, .int 0, .int 0, .int 0, .null, .null, .null, .null, .int 0, .null, .null, .null, .null, .null, .null, .null, .null, .null, .null, .int 0, .null, .int 0, .null, .null, .null, .null, .null, .null, .null, .int 0, .int 0, .null, .null, .int 0, .null, .null, .null, .null, .null]) (C := RX10) (T := TX10) (N := 57) hx hb hts iw_X10 tyX10 tyX10_ok hown (hts _ mw_749) (hts _ mw_744) (hts _ mw_437) hK hP hD hS hA rfl dv_X10 (Nat.le_of_ble_eq_true rfl) (Nat.le_of_ble_eq_true rfl) dL_law_8 (fun qb H hP hD hS => ?_)
  refine W.widen (k := 43) (n := 39368) (Nat.le_refl _) (Nat.le_refl _) ?_
  refine lv_dup hx hb dL_law_11 rfl ?_
  have hPc := hP.sub (ws' := [(qb, .inr (7, [.null, .null, .null, .null, .null, .null, .null, .null, .null, .null, .int 0, .int 0, .int 0, .int 0, .int 0, .int 0, .int 0, .int 0, .int 0, .int 0, .int 0, .int 0, .null, .null, .null, .null, .int 0, .null, .null, .null, .null, .null, .null, .null, .null, .null, .null, .int 0, .null, .int 0, .null, .null, .null, .null, .null, .null, .null, .int 0, .int 0, .null, .null, .int 0, .null, .null, .null, .null, .null]))]) [42] rfl
  have hDc := hD.sub (ws' := [(qb, .inr (7, [.null, .null, .null, .null, .null, .null, .null, .null, .null, .null, .int 0, .int 0, .int 0, .int 0, .int 0, .int 0, .int 0, .int 0, .int 0, .int 0, .int 0, .int 0, .null, .null, .null, .null, .int 0, .null, .null, .null, .null, .null, .null, .null, .null, .null, .null, .int 0, .null, .int 0, .null, .null, .null, .null, .null, .null, .null, .int 0, .int 0, .null, .null, .int 0, .null, .null, .null, .null, .null]))]) [42] (by decide) rfl
  have hFc := va_free (wc := [(qb, .inr (7, [.null, .null, .null, .null, .null, .null, .null, .null, .null, .null, .int 0, .int 0, .int 0, .int 0, .int 0, .int 0, .int 0, .int 0, .int 0, .int 0, .int 0, .int 0, .null, .null, .null, .null, .int 0, .null, .null, .null, .null, .null, .null, .null, .null, .null, .null, .int 0, .null, .int 0, .null, .null, .null, .null, .null, .null, .null, .int 0, .int 0, .null, .null, .int 0, .null, .null, .null, .null, .null]))]) hD hS hA [42] rfl
  refine va_callv (va_runI (As := []) (rest := [.ref qb]) F (c_X10_init l (dC, dI) cI cJ qb H.size) (cwI 0 hts (gUC mw_751) rfl rfl rfl (hts _ mw_437) (hts _ mw_752) (hts _ mw_750) rfl (by decide +kernel) ⟨Nat.le_of_ble_eq_true rfl, Nat.le_of_ble_eq_true rfl⟩) ⟨fun a U g mk q => by obtain ⟨q0, q1, qP, qK, qD⟩ := q; exact ⟨q0, q1, qP, va_K.moved (u := U) (U := U.calling g mk a) (Vm.Alike.refl U.vm) qK, qD⟩, fun U hU hW => ⟨rfl, by rw [hU], by rw [hU]; exact hPc, va_K.moved hW.alike hK, hDc.weaken (fun _ _ _ _ => trivial)⟩⟩ rfl rfl hl.1 rfl (lv_room (Nat.le_of_ble_eq_true rfl)) dL_law_12 ⟨Nat.le_of_ble_eq_true rfl, Nat.le_of_ble_eq_true rfl⟩) hS (fun q _ h => hFc q h) hFc (fun ub t H1 locs ht hvm hw hB hz1 hk1 hS => ?_)
  obtain ⟨hP1, hD1⟩ := hB
  rw [ht] at hP1
  obtain ⟨hP, hD⟩ := va_join (wr := wdC ad cI cJ jC0) (w1 := wP_X10_init cI cJ qb ub) hP hD [42] [0, 1, 2, 3, 4, 5, 6, 7, 8, 9, 10, 11, 12, 13, 14, 15, 16, 17, 18, 19, 20, 21, 22, 23, 24, 25, 26, 27, 28, 29, 30, 31, 32, 33, 34, 35, 36, 37, 38, 39, 40, 41] rfl rfl (by decide) (by decide) hk1 hFc hP1 hD1
  generalize H1 = H at hP hS ⊢
  refine W.widen (k := 82) (n := 101950) (Nat.le_refl _) (Nat.le_refl _) ?_
  obtain ⟨bd, hbde⟩ : ∃ bd : Nat → Nat, bd = (fun k => [qb, (ub 1), (ub 2), (ub 3), (ub 4), (ub 5), (ub 6), (ub 7), (ub 8), (ub 9), (ub 10), (ub 11), (ub 12), (ub 13), (ub 14), (ub 15), (ub 16), (ub 17), (ub 18), (ub 19), (ub 20), (ub 21), (ub 22), (ub 23), (ub 24), (ub 25), (ub 26), (ub 27), (ub 28), (ub 29), (ub 30), (ub 31), (ub 32), (ub 33), (ub 34), (ub 35), (ub 36), (ub 37), (ub 38), (ub 39)].getD k 0) := ⟨_, rfl⟩
  have hqb : qb = bd 0 := by rw [hbde]; rfl
  have hP : va_P (dC, dI) vwCl (wdC ad cI cJ jC0 ++ wdM bd cI jM0) H := by rw [hbde]; exact hP.sub [0, 1, 2, 3, 4, 5, 6, 7, 8, 9, 10, 11, 12, 13, 14, 15, 16, 17, 18, 19, 20, 21, 22, 23, 24, 25, 26, 27, 28, 29, 30, 31, 32, 33, 34, 35, 36, 37, 38, 39, 40, 41, 42, 43, 44, 45, 46, 47, 48, 49, 50, 51, 52, 53, 54, 55, 56, 57, 58, 59, 60, 61, 62, 63, 64, 65, 66, 67, 68, 69, 70, 71, 72, 73, 74, 75, 76, 77, 78, 79, 80, 81] rfl
  have hD : va_D (fun q : Nat => s.heap.size ≤ q) (wdC ad cI cJ jC0 ++ wdM bd cI jM0) := by rw [hbde]; exact hD.sub [0, 1, 2, 3, 4, 5, 6, 7, 8, 9, 10, 11, 12, 13, 14, 15, 16, 17, 18, 19, 20, 21, 22, 23, 24, 25, 26, 27, 28, 29, 30, 31, 32, 33, 34, 35, 36, 37, 38, 39, 40, 41, 42, 43, 44, 45, 46, 47, 48, 49, 50, 51, 52, 53, 54, 55, 56, 57, 58, 59, 60, 61, 62, 63, 64, 65, 66, 67, 68, 69, 70, 71, 72, 73, 74, 75, 76, 77, 78, 79, 80, 81] (by decide) rfl
  refine lv_astore_n (lv' := [(2, .ref qb), (1, .ref qa), (0, .ref b)]) hx hb dL_law_15 rfl hl (by decide) rfl (fun ls hl => ?_)
  refine lv_iconst (v := 0) hx hb dL_law_16 (by decide) ?_
  refine lv_istore_n (lv' := [(3, .int 0), (2, .ref qb), (1, .ref qa), (0, .ref b)]) hx hb dL_law_17 rfl hl (by decide) rfl (fun ls hl => ?_)
  have hmC : (wdC ad cI cJ jC0).map (·.1) = (List.range 42).map ad := rfl
  have hmM : (wdM bd cI jM0).map (·.1) = (List.range 40).map bd := rfl
  obtain ⟨q1, q2, q3, q4, q5, q6⟩ := two_apart hmC hmM hD
  rw [hqa, hqb] at hl
  exact law_loop hL hst C0 hK q1 q2 q3 q4 q5 q6 ⟨hPZ, hPT⟩ (L + 1) 0 jC0 jM0 H _ ls (Nat.zero_le L) (by omega) h0 (fun k q hk => hP k q (by rw [List.getElem?_append_left (List.getElem?_eq_some_iff.mp hk).1]; exact hk)) (fun k q hk => hP (42 + k) q (by rw [List.getElem?_append_right (by exact Nat.le_add_right 42 k)]; exact (by rw [show 42 + k - (wdC ad cI cJ jC0).length = k from Nat.add_sub_cancel_left 42 k]; exact hk))) hS (lv_sub hl [3, 2, 1, 0] rfl)
