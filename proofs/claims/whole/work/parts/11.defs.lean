/-! the state of one side (class or reference): int fields, int rows, long rows, by number -/
abbrev St : Type := (Nat → Int32) × (Nat → Nat → Int32) × (Nat → Nat → Int64)
def gS (σ : St) (k : Nat) : Int32 := σ.1 k
def gA (σ : St) (k : Nat) : Nat → Int32 := σ.2.1 k
def gL (σ : St) (k : Nat) : Nat → Int64 := σ.2.2 k
def sS (σ : St) (k : Nat) (v : Int32) : St := (upd σ.1 k v, σ.2)
def fA (σ : St) (k : Nat) (f : Nat → Int32) : St := (σ.1, va_up σ.2.1 k f, σ.2.2)
def fL (σ : St) (k : Nat) (f : Nat → Int64) : St := (σ.1, σ.2.1, va_up σ.2.2 k f)
def sA (σ : St) (k i : Nat) (v : Int32) : St := fA σ k (upd (gA σ k) i v)
def sL (σ : St) (k i : Nat) (v : Int64) : St := fL σ k (vp_updL (gL σ k) i v)
def zb (r : Int32) : Prop := r = 0 ∨ r = 1
def jfill {α : Type} (f : Nat → α) (n : Nat) (v : α) : Nat → α := fun i => if i < n then v else f i
def jports (j : Nat) : Int32 := ([1, 1, 2, 2, 2, 2, 2, 2, 2, 1, 2, 1, 1, 1, 0, 1, 1, 1, 2, 3, 1, 1] : List Int32).getD j 0
theorem gS_sS (σ : St) (k : Nat) (v : Int32) (j : Nat) : gS (sS σ k v) j = if j = k then v else gS σ j := by obtain ⟨x1, x2, x3⟩ := σ; rfl
theorem gS_sA (σ : St) (k i : Nat) (v : Int32) (j : Nat) : gS (sA σ k i v) j = gS σ j := by obtain ⟨x1, x2, x3⟩ := σ; rfl
theorem gS_sL (σ : St) (k i : Nat) (v : Int64) (j : Nat) : gS (sL σ k i v) j = gS σ j := by obtain ⟨x1, x2, x3⟩ := σ; rfl
theorem gS_fA (σ : St) (k : Nat) (f : Nat → Int32) (j : Nat) : gS (fA σ k f) j = gS σ j := by obtain ⟨x1, x2, x3⟩ := σ; rfl
theorem gS_fL (σ : St) (k : Nat) (f : Nat → Int64) (j : Nat) : gS (fL σ k f) j = gS σ j := by obtain ⟨x1, x2, x3⟩ := σ; rfl
theorem gA_sS (σ : St) (k : Nat) (v : Int32) (j : Nat) : gA (sS σ k v) j = gA σ j := by obtain ⟨x1, x2, x3⟩ := σ; rfl
theorem gA_sA (σ : St) (k i : Nat) (v : Int32) (j : Nat) : gA (sA σ k i v) j = if j = k then upd (gA σ k) i v else gA σ j := by obtain ⟨x1, x2, x3⟩ := σ; rfl
theorem gA_sL (σ : St) (k i : Nat) (v : Int64) (j : Nat) : gA (sL σ k i v) j = gA σ j := by obtain ⟨x1, x2, x3⟩ := σ; rfl
theorem gA_fA (σ : St) (k : Nat) (f : Nat → Int32) (j : Nat) : gA (fA σ k f) j = if j = k then f else gA σ j := by obtain ⟨x1, x2, x3⟩ := σ; rfl
theorem gA_fL (σ : St) (k : Nat) (f : Nat → Int64) (j : Nat) : gA (fL σ k f) j = gA σ j := by obtain ⟨x1, x2, x3⟩ := σ; rfl
theorem gL_sS (σ : St) (k : Nat) (v : Int32) (j : Nat) : gL (sS σ k v) j = gL σ j := by obtain ⟨x1, x2, x3⟩ := σ; rfl
theorem gL_sA (σ : St) (k i : Nat) (v : Int32) (j : Nat) : gL (sA σ k i v) j = gL σ j := by obtain ⟨x1, x2, x3⟩ := σ; rfl
theorem gL_sL (σ : St) (k i : Nat) (v : Int64) (j : Nat) : gL (sL σ k i v) j = if j = k then vp_updL (gL σ k) i v else gL σ j := by obtain ⟨x1, x2, x3⟩ := σ; rfl
theorem gL_fA (σ : St) (k : Nat) (f : Nat → Int32) (j : Nat) : gL (fA σ k f) j = gL σ j := by obtain ⟨x1, x2, x3⟩ := σ; rfl
theorem gL_fL (σ : St) (k : Nat) (f : Nat → Int64) (j : Nat) : gL (fL σ k f) j = if j = k then f else gL σ j := by obtain ⟨x1, x2, x3⟩ := σ; rfl
/- wdC: ints: 0 TokenFloor.hasRun, 1 TokenFloor$Graph.acts, 2 TokenFloor$Graph.ways, 3 TokenFloor$Graph.tokens, 4 TokenFloor$Machine.how, 5 TokenFloor$Machine.steps, 6 TokenFloor$Machine.tickCount, 7 TokenFloor$Machine.most, 8 TokenFloor$Machine.lost, 9 TokenFloor$Machine.strays, 10 TokenFloor$Machine.clashAct, 11 TokenFloor$Store.waiting, 12 TokenFloor$Store.rows, 13 TokenFloor$Store.cells, 14 TokenFloor$Colours.count, 15 TokenFloor$Floor.left, 16 TokenFloor$Floor.count, 17 TokenFloor$ReadyRow.head, 18 TokenFloor$ReadyRow.tail; int rows: 0 TokenFloor$Graph.kind(80), 1 TokenFloor$Graph.number(80), 2 TokenFloor$Graph.ports(80), 3 TokenFloor$Graph.parameter(100), 4 TokenFloor$Graph.wayTo(300), 5 TokenFloor$Graph.wayPort(300), 6 TokenFloor$Graph.nextWay(300), 7 TokenFloor$Graph.firstWay(160), 8 TokenFloor$Graph.lastWay(160), 9 TokenFloor$Graph.tokenAct(40), 10 TokenFloor$Graph.tokenPort(40), 11 TokenFloor$Graph.tokenValue(40), 12 TokenFloor$Machine.firings(80), 13 TokenFloor$Store.rowOfAct(80), 14 TokenFloor$Store.start(300), 15 TokenFloor$Store.size(300), 16 TokenFloor$Store.firstReader(2000), 17 TokenFloor$Store.lastReader(2000), 18 TokenFloor$Store.nextReader(3000), 19 TokenFloor$Colours.origin(600), 20 TokenFloor$Colours.outer(600), 21 TokenFloor$Colours.key(600), 22 TokenFloor$Colours.firstReached(600), 23 TokenFloor$Colours.nextReached(600), 24 TokenFloor$Floor.actOf(3000), 25 TokenFloor$Floor.colourOf(3000), 26 TokenFloor$Floor.had(3000), 27 TokenFloor$Floor.firstPair(600), 28 TokenFloor$Floor.nextPair(3000), 29 TokenFloor$ReadyRow.row(3000); long rows: 0 TokenFloor.figuresA(100), 1 TokenFloor.figuresB(100), 2 TokenFloor$Machine.ends(10), 3 TokenFloor$Store.written(2000), 4 TokenFloor$Floor.came(9000) -/
/- wdM: ints: 0 TokenFloorModel.acts, 1 TokenFloorModel.ways, 2 TokenFloorModel.tokens, 3 TokenFloorModel.isRun, 4 TokenFloorModel.isStopped, 5 TokenFloorModel.how, 6 TokenFloorModel.steps, 7 TokenFloorModel.ticked, 8 TokenFloorModel.most, 9 TokenFloorModel.lost, 10 TokenFloorModel.strays, 11 TokenFloorModel.clash, 12 TokenFloorModel.colours, 13 TokenFloorModel.pairs, 14 TokenFloorModel.readyMany, 15 TokenFloorModel.rows, 16 TokenFloorModel.cells, 17 TokenFloorModel.readers; int rows: 0 TokenFloorModel.kind(80), 1 TokenFloorModel.own(80), 2 TokenFloorModel.ports(80), 3 TokenFloorModel.wayFrom(300), 4 TokenFloorModel.waySide(300), 5 TokenFloorModel.wayTo(300), 6 TokenFloorModel.wayPort(300), 7 TokenFloorModel.tokenAct(40), 8 TokenFloorModel.tokenPort(40), 9 TokenFloorModel.tokenValue(40), 10 TokenFloorModel.cSort(600), 11 TokenFloorModel.cOf(600), 12 TokenFloorModel.cTurn(600), 13 TokenFloorModel.cIn(600), 14 TokenFloorModel.pAct(3000), 15 TokenFloorModel.pColour(3000), 16 TokenFloorModel.pHas(3000), 17 TokenFloorModel.pHow(3000), 18 TokenFloorModel.pNext(3000), 19 TokenFloorModel.pKind(9000), 20 TokenFloorModel.pValue(9000), 21 TokenFloorModel.pOf(9000), 22 TokenFloorModel.first(80), 23 TokenFloorModel.fired(80), 24 TokenFloorModel.ready(3000), 25 TokenFloorModel.rFrom(300), 26 TokenFloorModel.rSize(300), 27 TokenFloorModel.rAct(300), 28 TokenFloorModel.rColour(300), 29 TokenFloorModel.cellKind(2000), 30 TokenFloorModel.cellValue(2000), 31 TokenFloorModel.cellOf(2000), 32 TokenFloorModel.readCell(3000), 33 TokenFloorModel.readPair(3000), 34 TokenFloorModel.endKind(10), 35 TokenFloorModel.endValue(10), 36 TokenFloorModel.endOf(10), 37 TokenFloorModel.was(116), 38 TokenFloorModel.is(116); long rows:  -/
def w_X0_add (σ : St) (a1 : Int32) (a2 : Int32) (a3 : Int32) (K : Int32 → St → Prop) : Prop :=
  vp_in (gS σ 14) 600 ∧ (vp_in (gS σ 14) 600 ∧ (vp_in (gS σ 14) 600 ∧ (vp_in (gS σ 14) 600 ∧ (vp_in (gS σ 14) 600 ∧ (K (gS σ 14) (sA (sA (sA (sA (sA (sS σ 14 ((gS σ 14) + 1)) 21 ((gS σ 14)).toNatClampNeg a1) 19 ((gS σ 14)).toNatClampNeg a2) 20 ((gS σ 14)).toNatClampNeg a3) 22 ((gS σ 14)).toNatClampNeg (-1)) 23 ((gS σ 14)).toNatClampNeg (-1)))))))

def w_X0_reset (σ : St) (K : St → Prop) : Prop :=
  w_X0_add (sS σ 14 0) (-1) (-1) (-1) (fun (r_2 : Int32) (u_1 : St) => K u_1)

def b_X0_reach_54 (K : Int32 → St → Prop) (σ : St) (x1 : Int32) (x2 : Int32) (x3 : Int32) (x4 : Int32) : Prop :=
  ((gS σ 14) < 600 → (w_X0_add σ x2 x3 x4 (fun (r_2 : Int32) (u_1 : St) => vp_in x1 600 ∧ (vp_in r_2 600 ∧ (vp_in x1 600 ∧ (K r_2 (sA (sA u_1 23 (r_2).toNatClampNeg (gA u_1 22 (x1).toNatClampNeg)) 22 (x1).toNatClampNeg r_2))))))) ∧ (¬ (gS σ 14) < 600 → (K (-1) σ))

def b_X0_reach_11 (L11 : St → Int32 → Int32 → Int32 → Int32 → Int32 → Int32 → Prop) (K : Int32 → St → Prop) (σ : St) (x1 : Int32) (x2 : Int32) (x3 : Int32) (x4 : Int32) (x5 : Int32) (x6 : Int32) : Prop :=
  (600 ≤ x6 → (b_X0_reach_54 K σ x1 x2 x3 x4)) ∧ (¬ 600 ≤ x6 → ((x5 = (-1) → (b_X0_reach_54 K σ x1 x2 x3 x4)) ∧ (¬ x5 = (-1) → (vp_in x5 600 ∧ ((¬ (gA σ 21 (x5).toNatClampNeg) = x2 → (vp_in x5 600 ∧ (L11 σ x1 x2 x3 x4 (gA σ 23 (x5).toNatClampNeg) (x6 + 1)))) ∧ ((gA σ 21 (x5).toNatClampNeg) = x2 → (K x5 σ)))))))

def w_X0_reach_11 (K : Int32 → St → Prop) : Nat → St → Int32 → Int32 → Int32 → Int32 → Int32 → Int32 → Prop
  | 0 => fun _ _ _ _ _ _ _ => False
  | n + 1 => fun σ x1 x2 x3 x4 x5 x6 => b_X0_reach_11 (w_X0_reach_11 K n) K σ x1 x2 x3 x4 x5 x6

def w_X0_reach (σ : St) (a1 : Int32) (a2 : Int32) (a3 : Int32) (a4 : Int32) (K : Int32 → St → Prop) : Prop :=
  vp_in a1 600 ∧ (∃ n : Nat, w_X0_reach_11 K n σ a1 a2 a3 a4 (gA σ 22 (a1).toNatClampNeg) 0)

def w_X0_enter (σ : St) (a1 : Int32) (a2 : Int32) (K : Int32 → St → Prop) : Prop :=
  w_X0_reach σ a1 a2 a2 a1 (fun (r_2 : Int32) (u_1 : St) => K r_2 u_1)

def w_X0_nextTurn (σ : St) (a1 : Int32) (K : Int32 → St → Prop) : Prop :=
  vp_in a1 600 ∧ (vp_in a1 600 ∧ (w_X0_reach σ a1 90 (gA σ 19 (a1).toNatClampNeg) (gA σ 20 (a1).toNatClampNeg) (fun (r_2 : Int32) (u_1 : St) => K r_2 u_1)))

def w_X0_callBy (σ : St) (a1 : Int32) (a2 : Int32) (K : Int32 → St → Prop) : Prop :=
  w_X0_reach σ a1 (10 + a2) (10 + a2) a1 (fun (r_2 : Int32) (u_1 : St) => K r_2 u_1)

def w_X0_isTurnOf (σ : St) (a1 : Int32) (a2 : Int32) (K : Int32 → St → Prop) : Prop :=
  vp_in a1 600 ∧ ((¬ (gA σ 19 (a1).toNatClampNeg) = a2 → (K 0 σ)) ∧ ((gA σ 19 (a1).toNatClampNeg) = a2 → (K 1 σ)))

def w_X0_outerOf (σ : St) (a1 : Int32) (K : Int32 → St → Prop) : Prop :=
  vp_in a1 600 ∧ (K (gA σ 20 (a1).toNatClampNeg) σ)

def w_X0_callerOf (σ : St) (a1 : Int32) (K : Int32 → St → Prop) : Prop :=
  vp_in a1 600 ∧ (((gA σ 19 (a1).toNatClampNeg) < 10 → (K (-1) σ)) ∧ (¬ (gA σ 19 (a1).toNatClampNeg) < 10 → (vp_in a1 600 ∧ (K ((gA σ 19 (a1).toNatClampNeg) - 10) σ))))

def w_X1_reset (σ : St) (K : St → Prop) : Prop :=
  K (fA (sS (sS σ 15 0) 16 0) 27 (jfill (gA (sS (sS σ 15 0) 16 0) 27) 600 (-1)))

def b_X1_find_10 (L10 : St → Int32 → Int32 → Int32 → Prop) (K : Int32 → St → Prop) (σ : St) (x1 : Int32) (x3 : Int32) (x4 : Int32) : Prop :=
  (80 ≤ x4 → (K (-1) σ)) ∧ (¬ 80 ≤ x4 → ((x3 = (-1) → (K (-1) σ)) ∧ (¬ x3 = (-1) → (vp_in x3 3000 ∧ ((¬ (gA σ 24 (x3).toNatClampNeg) = x1 → (vp_in x3 3000 ∧ (L10 σ x1 (gA σ 28 (x3).toNatClampNeg) (x4 + 1)))) ∧ ((gA σ 24 (x3).toNatClampNeg) = x1 → (K x3 σ)))))))

def w_X1_find_10 (K : Int32 → St → Prop) : Nat → St → Int32 → Int32 → Int32 → Prop
  | 0 => fun _ _ _ _ => False
  | n + 1 => fun σ x1 x3 x4 => b_X1_find_10 (w_X1_find_10 K n) K σ x1 x3 x4

def w_X1_find (σ : St) (a1 : Int32) (a2 : Int32) (K : Int32 → St → Prop) : Prop :=
  vp_in a2 600 ∧ (∃ n : Nat, w_X1_find_10 K n σ a1 (gA σ 27 (a2).toNatClampNeg) 0)

def w_X1_add (σ : St) (a1 : Int32) (a2 : Int32) (K : Int32 → St → Prop) : Prop :=
  ((gS σ 16) < 3000 → (vp_in (gS σ 16) 3000 ∧ (vp_in (gS σ 16) 3000 ∧ (vp_in (gS σ 16) 3000 ∧ (vp_in a2 600 ∧ (vp_in (gS σ 16) 3000 ∧ (vp_in a2 600 ∧ (K (gS σ 16) (sA (sA (sA (sA (sA (sS σ 16 ((gS σ 16) + 1)) 24 ((gS σ 16)).toNatClampNeg a1) 25 ((gS σ 16)).toNatClampNeg a2) 26 ((gS σ 16)).toNatClampNeg 0) 28 ((gS σ 16)).toNatClampNeg (gA σ 27 (a2).toNatClampNeg)) 27 (a2).toNatClampNeg (gS σ 16)))))))))) ∧ (¬ (gS σ 16) < 3000 → (K (-1) σ))

def w_X1_hadToken (σ : St) (a1 : Int32) (a2 : Int32) (K : Int32 → St → Prop) : Prop :=
  vp_in a1 3000 ∧ ((¬ (((gA σ 26 (a1).toNatClampNeg) >>> (a2 &&& 31)) &&& 1) = 1 → (K 0 σ)) ∧ ((((gA σ 26 (a1).toNatClampNeg) >>> (a2 &&& 31)) &&& 1) = 1 → (K 1 σ)))

def b_X1_put_53 (K : Int32 → St → Prop) (σ : St) (x5 : Int32) (t0 : Int32) : Prop :=
  (t0 = 0 → (zb t0 ∧ K t0 σ)) ∧ (¬ t0 = 0 → (zb t0 ∧ K t0 (sS σ 15 ((gS σ 15) - x5))))

def w_X1_put (σ : St) (a1 : Int32) (a2 : Int32) (a3 : Int64) (a4 : Int32) (K : Int32 → St → Prop) : Prop :=
  vp_in a1 3000 ∧ (vp_in a1 3000 ∧ (vp_in ((3 * a1) + a2) 9000 ∧ (vp_in a1 3000 ∧ ((¬ (gA (sA σ 26 (a1).toNatClampNeg ((gA σ 26 (a1).toNatClampNeg) ||| (1 <<< (a2 &&& 31)))) 26 (a1).toNatClampNeg) = ((1 <<< (a4 &&& 31)) - 1) → (b_X1_put_53 K (sS (sL (sA σ 26 (a1).toNatClampNeg ((gA σ 26 (a1).toNatClampNeg) ||| (1 <<< (a2 &&& 31)))) 4 (((3 * a1) + a2)).toNatClampNeg a3) 15 ((gS σ 15) + 1)) a4 0)) ∧ ((gA (sA σ 26 (a1).toNatClampNeg ((gA σ 26 (a1).toNatClampNeg) ||| (1 <<< (a2 &&& 31)))) 26 (a1).toNatClampNeg) = ((1 <<< (a4 &&& 31)) - 1) → (b_X1_put_53 K (sS (sL (sA σ 26 (a1).toNatClampNeg ((gA σ 26 (a1).toNatClampNeg) ||| (1 <<< (a2 &&& 31)))) 4 (((3 * a1) + a2)).toNatClampNeg a3) 15 ((gS σ 15) + 1)) a4 1))))))

def w_X1_cameTo (σ : St) (a1 : Int32) (a2 : Int32) (K : Int64 → St → Prop) : Prop :=
  vp_in ((3 * a1) + a2) 9000 ∧ (K (gL σ 4 (((3 * a1) + a2)).toNatClampNeg) σ)

def w_X2_hasAct (σ : St) (a1 : Int32) (K : Int32 → St → Prop) : Prop :=
  (a1 < 0 → (K 0 σ)) ∧ (¬ a1 < 0 → (((gS σ 1) ≤ a1 → (K 0 σ)) ∧ (¬ (gS σ 1) ≤ a1 → (K 1 σ))))

def w_X2_hasPort (σ : St) (a1 : Int32) (a2 : Int32) (K : Int32 → St → Prop) : Prop :=
  w_X2_hasAct σ a1 (fun (r_2 : Int32) (u_1 : St) => (r_2 = 0 → (K 0 u_1)) ∧ (¬ r_2 = 0 → ((a2 < 0 → (K 0 u_1)) ∧ (¬ a2 < 0 → (vp_in a1 80 ∧ (((gA u_1 2 (a1).toNatClampNeg) ≤ a2 → (K 0 u_1)) ∧ (¬ (gA u_1 2 (a1).toNatClampNeg) ≤ a2 → (K 1 u_1))))))))

def w_X3_exists (σ : St) (a1 : Int32) (K : Int32 → St → Prop) : Prop :=
  (a1 < 0 → (K 0 σ)) ∧ (¬ a1 < 0 → ((21 < a1 → (K 0 σ)) ∧ (¬ 21 < a1 → (K 1 σ))))

def w_X3_allowsNumber (σ : St) (a1 : Int32) (a2 : Int32) (K : Int32 → St → Prop) : Prop :=
  ((a1 = 11 ∨ a1 = 12 ∨ a1 = 13 ∨ a1 = 14 ∨ a1 = 21) → ((a2 < 0 → (K 0 σ)) ∧ (¬ a2 < 0 → ((9 < a2 → (K 0 σ)) ∧ (¬ 9 < a2 → (K 1 σ)))))) ∧ (¬ (a1 = 11 ∨ a1 = 12 ∨ a1 = 13 ∨ a1 = 14 ∨ a1 = 21) → (((a1 = 15) → ((a2 < 0 → (K 0 σ)) ∧ (¬ a2 < 0 → ((99 < a2 → (K 0 σ)) ∧ (¬ 99 < a2 → ((3 ≤ (a2 - a2 / 10 * 10) → (K 0 σ)) ∧ (¬ 3 ≤ (a2 - a2 / 10 * 10) → (K 1 σ)))))))) ∧ (¬ (a1 = 15) → (K 1 σ))))

def w_X3_allowsPorts (σ : St) (a1 : Int32) (a2 : Int32) (K : Int32 → St → Prop) : Prop :=
  (¬ a1 = 14 → (K 1 σ)) ∧ (a1 = 14 → ((a2 < 1 → (K 0 σ)) ∧ (¬ a2 < 1 → ((3 < a2 → (K 0 σ)) ∧ (¬ 3 < a2 → (K 1 σ))))))

def w_X3_portsOf (σ : St) (a1 : Int32) (a2 : Int32) (K : Int32 → St → Prop) : Prop :=
  (a1 = 14 → (K a2 σ)) ∧ (¬ a1 = 14 → (w_X3_exists σ a1 (fun (r_2 : Int32) (u_1 : St) => (¬ r_2 = 0 → (vp_in a1 22 ∧ (K (jports a1.toNatClampNeg) u_1))) ∧ (r_2 = 0 → (K a2 u_1)))))

def b_X2_addAct_28 (K : Int32 → St → Prop) (σ : St) (x1 : Int32) (x2 : Int32) (x3 : Int32) (t0 : Int32) : Prop :=
  (t0 = 0 → (K (-1) σ)) ∧ (¬ t0 = 0 → (((gS σ 1) < 80 → (vp_in (gS σ 1) 80 ∧ (vp_in (gS σ 1) 80 ∧ (w_X3_portsOf (sA (sA (sS σ 1 ((gS σ 1) + 1)) 0 ((gS σ 1)).toNatClampNeg x1) 1 ((gS σ 1)).toNatClampNeg x2) x1 x3 (fun (r_2 : Int32) (u_1 : St) => vp_in (gS σ 1) 80 ∧ ((¬ x1 = 15 → (K (gS σ 1) (sA u_1 2 ((gS σ 1)).toNatClampNeg r_2))) ∧ (x1 = 15 → (vp_in x2 100 ∧ ((¬ (gA u_1 3 (x2).toNatClampNeg) = (-1) → (K (gS σ 1) (sA u_1 2 ((gS σ 1)).toNatClampNeg r_2))) ∧ ((gA u_1 3 (x2).toNatClampNeg) = (-1) → (vp_in x2 100 ∧ (K (gS σ 1) (sA (sA u_1 2 ((gS σ 1)).toNatClampNeg r_2) 3 (x2).toNatClampNeg (gS σ 1)))))))))))))) ∧ (¬ (gS σ 1) < 80 → (K (-1) σ))))

def w_X2_addAct (σ : St) (a1 : Int32) (a2 : Int32) (a3 : Int32) (K : Int32 → St → Prop) : Prop :=
  w_X3_exists σ a1 (fun (r_13 : Int32) (u_12 : St) => (r_13 = 0 → (b_X2_addAct_28 K u_12 a1 a2 a3 0)) ∧ (¬ r_13 = 0 → (w_X3_allowsNumber u_12 a1 a2 (fun (r_15 : Int32) (u_14 : St) => (r_15 = 0 → (b_X2_addAct_28 K u_14 a1 a2 a3 0)) ∧ (¬ r_15 = 0 → (w_X3_allowsPorts u_14 a1 a3 (fun (r_17 : Int32) (u_16 : St) => (r_17 = 0 → (b_X2_addAct_28 K u_16 a1 a2 a3 0)) ∧ (¬ r_17 = 0 → (b_X2_addAct_28 K u_16 a1 a2 a3 1)))))))))

def w_X3_hasSide (σ : St) (a1 : Int32) (a2 : Int32) (K : Int32 → St → Prop) : Prop :=
  (a2 = 0 → (K 1 σ)) ∧ (¬ a2 = 0 → ((¬ a2 = 1 → (K 0 σ)) ∧ (a2 = 1 → ((¬ a1 = 10 → (K 0 σ)) ∧ (a1 = 10 → (K 1 σ))))))

def w_X2_addWay (σ : St) (a1 : Int32) (a2 : Int32) (a3 : Int32) (a4 : Int32) (K : Int32 → St → Prop) : Prop :=
  w_X2_hasAct σ a1 (fun (r_2 : Int32) (u_1 : St) => (r_2 = 0 → (K (-1) u_1)) ∧ (¬ r_2 = 0 → (vp_in a1 80 ∧ (w_X3_hasSide u_1 (gA u_1 0 (a1).toNatClampNeg) a2 (fun (r_4 : Int32) (u_3 : St) => (r_4 = 0 → (K (-1) u_3)) ∧ (¬ r_4 = 0 → (w_X2_hasPort u_3 a3 a4 (fun (r_6 : Int32) (u_5 : St) => (¬ r_6 = 0 → (((gS u_5 2) < 300 → (vp_in (gS u_5 2) 300 ∧ (vp_in (gS u_5 2) 300 ∧ (vp_in (gS u_5 2) 300 ∧ (vp_in ((2 * a1) + a2) 160 ∧ ((¬ (gA u_5 8 (((2 * a1) + a2)).toNatClampNeg) = (-1) → (vp_in (gA u_5 8 (((2 * a1) + a2)).toNatClampNeg) 300 ∧ (vp_in ((2 * a1) + a2) 160 ∧ (K (gS u_5 2) (sA (sA (sA (sA (sA (sS u_5 2 ((gS u_5 2) + 1)) 4 ((gS u_5 2)).toNatClampNeg a3) 5 ((gS u_5 2)).toNatClampNeg a4) 6 ((gS u_5 2)).toNatClampNeg (-1)) 6 ((gA u_5 8 (((2 * a1) + a2)).toNatClampNeg)).toNatClampNeg (gS u_5 2)) 8 (((2 * a1) + a2)).toNatClampNeg (gS u_5 2)))))) ∧ ((gA u_5 8 (((2 * a1) + a2)).toNatClampNeg) = (-1) → (vp_in ((2 * a1) + a2) 160 ∧ (vp_in ((2 * a1) + a2) 160 ∧ (K (gS u_5 2) (sA (sA (sA (sA (sA (sS u_5 2 ((gS u_5 2) + 1)) 4 ((gS u_5 2)).toNatClampNeg a3) 5 ((gS u_5 2)).toNatClampNeg a4) 6 ((gS u_5 2)).toNatClampNeg (-1)) 7 (((2 * a1) + a2)).toNatClampNeg (gS u_5 2)) 8 (((2 * a1) + a2)).toNatClampNeg (gS u_5 2)))))))))))) ∧ (¬ (gS u_5 2) < 300 → (K (-1) u_5)))) ∧ (r_6 = 0 → (K (-1) u_5))))))))))

def w_X2_addToken (σ : St) (a1 : Int32) (a2 : Int32) (a3 : Int32) (K : Int32 → St → Prop) : Prop :=
  w_X2_hasPort σ a1 a2 (fun (r_2 : Int32) (u_1 : St) => (r_2 = 0 → (K (-1) u_1)) ∧ (¬ r_2 = 0 → (((gS u_1 3) < 40 → (vp_in (gS u_1 3) 40 ∧ (vp_in (gS u_1 3) 40 ∧ (vp_in (gS u_1 3) 40 ∧ (K ((gS u_1 3) + 1) (sS (sA (sA (sA u_1 9 ((gS u_1 3)).toNatClampNeg a1) 10 ((gS u_1 3)).toNatClampNeg a2) 11 ((gS u_1 3)).toNatClampNeg a3) 3 ((gS u_1 3) + 1))))))) ∧ (¬ (gS u_1 3) < 40 → (K (-1) u_1)))))

def w_X2_dropTokens (σ : St) (K : St → Prop) : Prop :=
  K (sS σ 3 0)

def w_X2_dropWays (σ : St) (K : St → Prop) : Prop :=
  K (fA (fA (sS σ 2 0) 7 (jfill (gA (sS σ 2 0) 7) 160 (-1))) 8 (jfill (gA (fA (sS σ 2 0) 7 (jfill (gA (sS σ 2 0) 7) 160 (-1))) 8) 160 (-1)))

def w_X2_dropActs (σ : St) (K : St → Prop) : Prop :=
  K (fA (sS σ 1 0) 3 (jfill (gA (sS σ 1 0) 3) 100 (-1)))

def w_X2_firstWayOf (σ : St) (a1 : Int32) (a2 : Int32) (K : Int32 → St → Prop) : Prop :=
  vp_in ((2 * a1) + a2) 160 ∧ (K (gA σ 7 (((2 * a1) + a2)).toNatClampNeg) σ)

def b_X2_countWays_10 (L10 : St → Int32 → Int32 → Prop) (K : Int32 → St → Prop) (σ : St) (x3 : Int32) (x4 : Int32) : Prop :=
  (x4 = (-1) → (K x3 σ)) ∧ (¬ x4 = (-1) → ((300 ≤ x3 → (K x3 σ)) ∧ (¬ 300 ≤ x3 → (vp_in x4 300 ∧ (L10 σ (x3 + 1) (gA σ 6 (x4).toNatClampNeg))))))

def w_X2_countWays_10 (K : Int32 → St → Prop) : Nat → St → Int32 → Int32 → Prop
  | 0 => fun _ _ _ => False
  | n + 1 => fun σ x3 x4 => b_X2_countWays_10 (w_X2_countWays_10 K n) K σ x3 x4

def w_X2_countWays (σ : St) (a1 : Int32) (a2 : Int32) (K : Int32 → St → Prop) : Prop :=
  w_X2_firstWayOf σ a1 a2 (fun (r_5 : Int32) (u_4 : St) => ∃ n : Nat, w_X2_countWays_10 K n u_4 0 r_5)

def b_X2_countTokens_4 (L4 : St → Int32 → Int32 → Int32 → Prop) (K : Int32 → St → Prop) (σ : St) (x1 : Int32) (x2 : Int32) (x3 : Int32) : Prop :=
  ((gS σ 3) ≤ x3 → (K x2 σ)) ∧ (¬ (gS σ 3) ≤ x3 → (vp_in x3 40 ∧ ((¬ (gA σ 9 (x3).toNatClampNeg) = x1 → (L4 σ x1 x2 (x3 + 1))) ∧ ((gA σ 9 (x3).toNatClampNeg) = x1 → (L4 σ x1 (x2 + 1) (x3 + 1))))))

def w_X2_countTokens_4 (K : Int32 → St → Prop) : Nat → St → Int32 → Int32 → Int32 → Prop
  | 0 => fun _ _ _ _ => False
  | n + 1 => fun σ x1 x2 x3 => b_X2_countTokens_4 (w_X2_countTokens_4 K n) K σ x1 x2 x3

def w_X2_countTokens (σ : St) (a1 : Int32) (K : Int32 → St → Prop) : Prop :=
  ∃ n : Nat, w_X2_countTokens_4 K n σ a1 0 0

def w_X2_parameterFor (σ : St) (a1 : Int32) (a2 : Int32) (K : Int32 → St → Prop) : Prop :=
  vp_in a1 80 ∧ ((((10 * (gA σ 1 (a1).toNatClampNeg)) + a2) < 0 → (K (-1) σ)) ∧ (¬ ((10 * (gA σ 1 (a1).toNatClampNeg)) + a2) < 0 → ((100 ≤ ((10 * (gA σ 1 (a1).toNatClampNeg)) + a2) → (K (-1) σ)) ∧ (¬ 100 ≤ ((10 * (gA σ 1 (a1).toNatClampNeg)) + a2) → (vp_in ((10 * (gA σ 1 (a1).toNatClampNeg)) + a2) 100 ∧ (K (gA σ 3 (((10 * (gA σ 1 (a1).toNatClampNeg)) + a2)).toNatClampNeg) σ))))))

def w_X5_reset (σ : St) (K : St → Prop) : Prop :=
  K (sS (sS σ 17 0) 18 0)

def w_X6_reset (σ : St) (K : St → Prop) : Prop :=
  K (fA (sS (sS (sS σ 11 0) 12 0) 13 0) 13 (jfill (gA (sS (sS (sS σ 11 0) 12 0) 13 0) 13) 80 (-1)))

def w_X8_ofNumber (σ : St) (a1 : Int32) (K : Int64 → St → Prop) : Prop :=
  K (1099511627776 ||| ((a1.toInt64) &&& 4294967295)) σ

def w_X4_clashAt (σ : St) (a1 : Int32) (K : St → Prop) : Prop :=
  K (sS (sS σ 4 1) 10 a1)

def w_X5_add (σ : St) (a1 : Int32) (K : St → Prop) : Prop :=
  (3000 ≤ (gS σ 18) → (K σ)) ∧ (¬ 3000 ≤ (gS σ 18) → (vp_in (gS σ 18) 3000 ∧ (K (sS (sA σ 29 ((gS σ 18)).toNatClampNeg a1) 18 ((gS σ 18) + 1)))))

def b_X4_arrive_28 (K : St → Prop) (σ : St) (x1 : Int32) (x2 : Int32) (x4 : Int64) (x6 : Int32) : Prop :=
  (¬ x6 = (-1) → (w_X1_hadToken σ x6 x2 (fun (r_2 : Int32) (u_1 : St) => (r_2 = 0 → (vp_in x1 80 ∧ (w_X1_put u_1 x6 x2 x4 (gA u_1 2 (x1).toNatClampNeg) (fun (r_4 : Int32) (u_3 : St) => (r_4 = 0 → (K u_3)) ∧ (¬ r_4 = 0 → (w_X5_add u_3 x6 (fun u_5 : St => K u_5))))))) ∧ (¬ r_2 = 0 → (w_X4_clashAt u_1 x1 (fun u_9 : St => K u_9)))))) ∧ (x6 = (-1) → (K (sS σ 4 2)))

def w_X4_arrive (σ : St) (a1 : Int32) (a2 : Int32) (a3 : Int32) (a4 : Int64) (K : St → Prop) : Prop :=
  w_X1_find σ a1 a3 (fun (r_14 : Int32) (u_13 : St) => (¬ r_14 = (-1) → (b_X4_arrive_28 K u_13 a1 a2 a4 r_14)) ∧ (r_14 = (-1) → (w_X1_add u_13 a1 a3 (fun (r_16 : Int32) (u_15 : St) => b_X4_arrive_28 K u_15 a1 a2 a4 r_16))))

def b_X4_begin_81 (L81 : St → Int32 → Prop) (K : St → Prop) (σ : St) (x1 : Int32) : Prop :=
  ((gS σ 3) ≤ x1 → (K σ)) ∧ (¬ (gS σ 3) ≤ x1 → ((¬ (gS σ 4) = (-1) → (K σ)) ∧ ((gS σ 4) = (-1) → (vp_in x1 40 ∧ (w_X8_ofNumber σ (gA σ 11 (x1).toNatClampNeg) (fun (r_2 : Int64) (u_1 : St) => vp_in x1 40 ∧ (vp_in x1 40 ∧ (w_X4_arrive u_1 (gA u_1 9 (x1).toNatClampNeg) (gA u_1 10 (x1).toNatClampNeg) 0 r_2 (fun u_3 : St => L81 u_3 (x1 + 1))))))))))

def w_X4_begin_81 (K : St → Prop) : Nat → St → Int32 → Prop
  | 0 => fun _ _ => False
  | n + 1 => fun σ x1 => b_X4_begin_81 (w_X4_begin_81 K n) K σ x1

def w_X4_begin (σ : St) (K : St → Prop) : Prop :=
  w_X0_reset σ (fun u_10 : St => w_X1_reset u_10 (fun u_12 : St => w_X5_reset u_12 (fun u_14 : St => w_X6_reset u_14 (fun u_16 : St => ∃ n : Nat, w_X4_begin_81 K n (sS (sS (sS (sS (sS (sS (sS (fL (fA u_16 12 (jfill (gA u_16 12) 80 0)) 2 (jfill (gL (fA u_16 12 (jfill (gA u_16 12) 80 0)) 2) 10 0)) 4 (-1)) 5 0) 6 0) 7 0) 8 0) 9 0) 10 (-1)) 0))))

def w_X5_size (σ : St) (K : Int32 → St → Prop) : Prop :=
  K ((gS σ 18) - (gS σ 17)) σ

def w_X4_mayStep (σ : St) (a1 : Int32) (K : Int32 → St → Prop) : Prop :=
  (¬ (gS σ 4) = (-1) → ((¬ (gS σ 4) = (-1) → (K 0 σ)) ∧ ((gS σ 4) = (-1) → (K 1 σ)))) ∧ ((gS σ 4) = (-1) → (w_X5_size σ (fun (r_3 : Int32) (u_2 : St) => (¬ r_3 = 0 → (((gS u_2 5) < a1 → ((¬ (gS u_2 4) = (-1) → (K 0 u_2)) ∧ ((gS u_2 4) = (-1) → (K 1 u_2)))) ∧ (¬ (gS u_2 5) < a1 → ((¬ (3 : Int32) = ((-1) : Int32) → (K 0 (sS u_2 4 3))) ∧ ((3 : Int32) = ((-1) : Int32) → (K 1 (sS u_2 4 3))))))) ∧ (r_3 = 0 → ((¬ (0 : Int32) = ((-1) : Int32) → (K 0 (sS u_2 4 0))) ∧ ((0 : Int32) = ((-1) : Int32) → (K 1 (sS u_2 4 0))))))))

def w_X5_take (σ : St) (a1 : Int32) (K : Int32 → St → Prop) : Prop :=
  (a1 < 0 → (K (-1) σ)) ∧ (¬ a1 < 0 → (w_X5_size σ (fun (r_2 : Int32) (u_1 : St) => (a1 < r_2 → (vp_in ((gS u_1 17) + a1) 3000 ∧ ((¬ a1 = 0 → (¬ (((gS u_1 17) + a1) + 1) < 0 ∧ ¬ ((gS u_1 17) + a1) < 0 ∧ ¬ (((gS u_1 18) - ((gS u_1 17) + a1)) - 1) < 0 ∧ (((gS u_1 17) + a1) + 1).toNatClampNeg + (((gS u_1 18) - ((gS u_1 17) + a1)) - 1).toNatClampNeg ≤ 3000 ∧ ((gS u_1 17) + a1).toNatClampNeg + (((gS u_1 18) - ((gS u_1 17) + a1)) - 1).toNatClampNeg ≤ 3000 ∧ (K (gA u_1 29 (((gS u_1 17) + a1)).toNatClampNeg) (sS (fA u_1 29 (va_cpy (gA u_1 29) (gA u_1 29) (((gS u_1 17) + a1) + 1).toNatClampNeg ((gS u_1 17) + a1).toNatClampNeg (((gS u_1 18) - ((gS u_1 17) + a1)) - 1).toNatClampNeg)) 18 ((gS u_1 18) - 1))))) ∧ (a1 = 0 → (K (gA u_1 29 (((gS u_1 17) + a1)).toNatClampNeg) (sS u_1 17 ((gS u_1 17) + 1))))))) ∧ (¬ a1 < r_2 → (K (-1) u_1)))))

def w_X8_sortOf (σ : St) (a1 : Int64) (K : Int32 → St → Prop) : Prop :=
  K (((a1.toUInt64 >>> ((40 : Int32).toInt64.toUInt64 &&& Int64.toUInt64 63)).toInt64).toInt32) σ

def w_X8_contentOf (σ : St) (a1 : Int64) (K : Int32 → St → Prop) : Prop :=
  K (a1.toInt32) σ

def b_X4_give_25 (L25 : St → Int32 → Int64 → Int32 → Int32 → Prop) (K : St → Prop) (σ : St) (x3 : Int32) (x4 : Int64) (x6 : Int32) (x7 : Int32) : Prop :=
  (300 ≤ x7 → (K σ)) ∧ (¬ 300 ≤ x7 → ((x6 = (-1) → (K σ)) ∧ (¬ x6 = (-1) → ((¬ (gS σ 4) = (-1) → (K σ)) ∧ ((gS σ 4) = (-1) → (vp_in x6 300 ∧ (vp_in x6 300 ∧ (w_X4_arrive σ (gA σ 4 (x6).toNatClampNeg) (gA σ 5 (x6).toNatClampNeg) x3 x4 (fun u_1 : St => vp_in x6 300 ∧ (L25 u_1 x3 x4 (gA u_1 6 (x6).toNatClampNeg) (x7 + 1)))))))))))

def w_X4_give_25 (K : St → Prop) : Nat → St → Int32 → Int64 → Int32 → Int32 → Prop
  | 0 => fun _ _ _ _ _ => False
  | n + 1 => fun σ x3 x4 x6 x7 => b_X4_give_25 (w_X4_give_25 K n) K σ x3 x4 x6 x7

def w_X4_give (σ : St) (a1 : Int32) (a2 : Int32) (a3 : Int32) (a4 : Int64) (K : St → Prop) : Prop :=
  (¬ a3 = (-1) → (w_X2_firstWayOf σ a1 a2 (fun (r_10 : Int32) (u_9 : St) => ∃ n : Nat, w_X4_give_25 K n u_9 a3 a4 r_10 0))) ∧ (a3 = (-1) → (K (sS σ 4 2)))

def w_X4_goSwitch (σ : St) (a1 : Int32) (a2 : Int32) (a3 : Int64) (a4 : Int64) (K : St → Prop) : Prop :=
  w_X8_sortOf σ a4 (fun (r_2 : Int32) (u_1 : St) => (r_2 = 1 → (w_X8_contentOf u_1 a4 (fun (r_4 : Int32) (u_3 : St) => (r_4 = 0 → (w_X4_give u_3 a1 1 a2 a3 (fun u_5 : St => K u_5))) ∧ (¬ r_4 = 0 → (w_X4_give u_3 a1 0 a2 a3 (fun u_7 : St => K u_7)))))) ∧ (¬ r_2 = 1 → (K (sS u_1 8 ((gS u_1 8) + 1)))))

def w_X8_ofFault (σ : St) (a1 : Int32) (a2 : Int32) (K : Int64 → St → Prop) : Prop :=
  K ((3298534883328 ||| ((a2.toInt64) <<< ((32 : Int32).toInt64 &&& 63))) ||| ((a1.toInt64) &&& 4294967295)) σ

def w_X4_goTurn (σ : St) (a1 : Int32) (a2 : Int32) (a3 : Int64) (K : St → Prop) : Prop :=
  vp_in a1 80 ∧ (w_X0_isTurnOf σ a2 (gA σ 1 (a1).toNatClampNeg) (fun (r_2 : Int32) (u_1 : St) => (¬ r_2 = 0 → (vp_in a1 80 ∧ ((¬ (gA u_1 0 (a1).toNatClampNeg) = 12 → (w_X0_outerOf u_1 a2 (fun (r_4 : Int32) (u_3 : St) => w_X4_give u_3 a1 0 r_4 a3 (fun u_5 : St => K u_5)))) ∧ ((gA u_1 0 (a1).toNatClampNeg) = 12 → (w_X0_nextTurn u_1 a2 (fun (r_8 : Int32) (u_7 : St) => w_X4_give u_7 a1 0 r_8 a3 (fun u_9 : St => K u_9))))))) ∧ (r_2 = 0 → (w_X8_ofFault u_1 5 a1 (fun (r_14 : Int64) (u_13 : St) => w_X4_give u_13 a1 0 a2 r_14 (fun u_15 : St => K u_15))))))

def b_X4_goCall_26 (L26 : St → Int32 → Int32 → Int32 → Int32 → Prop) (K : St → Prop) (σ : St) (x1 : Int32) (x2 : Int32) (x4 : Int32) (x5 : Int32) : Prop :=
  vp_in x2 80 ∧ (((gA σ 2 (x2).toNatClampNeg) ≤ x5 → (K σ)) ∧ (¬ (gA σ 2 (x2).toNatClampNeg) ≤ x5 → ((¬ (gS σ 4) = (-1) → (K σ)) ∧ ((gS σ 4) = (-1) → (w_X2_parameterFor σ x2 x5 (fun (r_2 : Int32) (u_1 : St) => (r_2 = (-1) → (L26 u_1 x1 x2 x4 (x5 + 1))) ∧ (¬ r_2 = (-1) → (w_X1_cameTo u_1 x1 x5 (fun (r_4 : Int64) (u_3 : St) => w_X4_arrive u_3 r_2 0 x4 r_4 (fun u_5 : St => L26 u_5 x1 x2 x4 (x5 + 1)))))))))))

def w_X4_goCall_26 (K : St → Prop) : Nat → St → Int32 → Int32 → Int32 → Int32 → Prop
  | 0 => fun _ _ _ _ _ => False
  | n + 1 => fun σ x1 x2 x4 x5 => b_X4_goCall_26 (w_X4_goCall_26 K n) K σ x1 x2 x4 x5

def w_X4_goCall (σ : St) (a1 : Int32) (a2 : Int32) (a3 : Int32) (K : St → Prop) : Prop :=
  w_X0_callBy σ a3 a2 (fun (r_12 : Int32) (u_11 : St) => (¬ r_12 = (-1) → (∃ n : Nat, w_X4_goCall_26 K n u_11 a1 a2 r_12 0)) ∧ (r_12 = (-1) → (K (sS u_11 4 2))))

def w_X4_goReturn (σ : St) (a1 : Int32) (a2 : Int64) (K : St → Prop) : Prop :=
  w_X0_callerOf σ a1 (fun (r_2 : Int32) (u_1 : St) => (¬ r_2 = (-1) → (w_X0_outerOf u_1 a1 (fun (r_4 : Int32) (u_3 : St) => w_X4_give u_3 r_2 0 r_4 a2 (fun u_5 : St => K u_5)))) ∧ (r_2 = (-1) → (K (sS u_1 8 ((gS u_1 8) + 1)))))

def w_X8_refuse (σ : St) (a1 : Int32) (a2 : Int64) (a3 : Int32) (K : Int64 → St → Prop) : Prop :=
  w_X8_sortOf σ a2 (fun (r_2 : Int32) (u_1 : St) => (¬ r_2 = 3 → ((¬ r_2 = a3 → (w_X8_ofFault u_1 4 a1 (fun (r_4 : Int64) (u_3 : St) => K r_4 u_3))) ∧ (r_2 = a3 → (K 0 u_1)))) ∧ (r_2 = 3 → (K a2 u_1)))

def b_X6_make_58 (L58 : St → Int32 → Int32 → Int32 → Prop) (K : Int32 → St → Prop) (σ : St) (x1 : Int32) (x2 : Int32) (x3 : Int32) : Prop :=
  (x1 ≤ x3 → (K x2 σ)) ∧ (¬ x1 ≤ x3 → (vp_in (gS σ 13) 2000 ∧ (vp_in (gS σ 13) 2000 ∧ (vp_in (gS σ 13) 2000 ∧ (L58 (sS (sA (sA (sL σ 3 ((gS σ 13)).toNatClampNeg 0) 16 ((gS σ 13)).toNatClampNeg (-1)) 17 ((gS σ 13)).toNatClampNeg (-1)) 13 ((gS σ 13) + 1)) x1 x2 (x3 + 1))))))

def w_X6_make_58 (K : Int32 → St → Prop) : Nat → St → Int32 → Int32 → Int32 → Prop
  | 0 => fun _ _ _ _ => False
  | n + 1 => fun σ x1 x2 x3 => b_X6_make_58 (w_X6_make_58 K n) K σ x1 x2 x3

def w_X6_make (σ : St) (a1 : Int32) (K : Int32 → St → Prop) : Prop :=
  (300 ≤ (gS σ 12) → (K (-1) σ)) ∧ (¬ 300 ≤ (gS σ 12) → ((((gS σ 13) + a1) ≤ 2000 → (vp_in (gS σ 12) 300 ∧ (vp_in (gS σ 12) 300 ∧ (∃ n : Nat, w_X6_make_58 K n (sA (sA (sS σ 12 ((gS σ 12) + 1)) 14 ((gS σ 12)).toNatClampNeg (gS σ 13)) 15 ((gS σ 12)).toNatClampNeg a1) a1 (gS σ 12) 0)))) ∧ (¬ ((gS σ 13) + a1) ≤ 2000 → (K (-1) σ))))

def w_X8_ofRow (σ : St) (a1 : Int32) (K : Int64 → St → Prop) : Prop :=
  K (2199023255552 ||| ((a1.toInt64) &&& 4294967295)) σ

def b_X4_goMake_41 (K : St → Prop) (σ : St) (x1 : Int32) (x2 : Int32) (x5 : Int64) (x7 : Int32) : Prop :=
  ((lg_cmp x5 0) = 0 → (w_X6_make σ x7 (fun (r_2 : Int32) (u_1 : St) => (¬ r_2 = (-1) → ((¬ x2 = 0 → (w_X8_ofRow u_1 r_2 (fun (r_4 : Int64) (u_3 : St) => w_X4_give u_3 x1 0 x2 r_4 (fun u_5 : St => K u_5)))) ∧ (x2 = 0 → (vp_in x1 80 ∧ (w_X8_ofRow (sA u_1 13 (x1).toNatClampNeg r_2) r_2 (fun (r_8 : Int64) (u_7 : St) => w_X4_give u_7 x1 0 x2 r_8 (fun u_9 : St => K u_9))))))) ∧ (r_2 = (-1) → (K (sS u_1 4 2)))))) ∧ (¬ (lg_cmp x5 0) = 0 → (w_X4_give σ x1 0 x2 x5 (fun u_14 : St => K u_14)))

def w_X4_goMake (σ : St) (a1 : Int32) (a2 : Int32) (a3 : Int64) (K : St → Prop) : Prop :=
  w_X8_refuse σ a1 a3 1 (fun (r_18 : Int64) (u_17 : St) => w_X8_contentOf u_17 a3 (fun (r_20 : Int32) (u_19 : St) => (¬ (lg_cmp r_18 0) = 0 → (b_X4_goMake_41 K u_19 a1 a2 r_18 r_20)) ∧ ((lg_cmp r_18 0) = 0 → ((r_20 < 0 → (w_X8_ofFault u_19 3 a1 (fun (r_22 : Int64) (u_21 : St) => b_X4_goMake_41 K u_21 a1 a2 r_22 r_20))) ∧ (¬ r_20 < 0 → ((r_20 ≤ 200 → (b_X4_goMake_41 K u_19 a1 a2 r_18 r_20)) ∧ (¬ r_20 ≤ 200 → (w_X8_ofFault u_19 3 a1 (fun (r_24 : Int64) (u_23 : St) => b_X4_goMake_41 K u_23 a1 a2 r_24 r_20)))))))))

def w_X6_sizeOf (σ : St) (a1 : Int32) (K : Int32 → St → Prop) : Prop :=
  (a1 < 0 → (K 0 σ)) ∧ (¬ a1 < 0 → (((gS σ 12) ≤ a1 → (K 0 σ)) ∧ (¬ (gS σ 12) ≤ a1 → (vp_in a1 300 ∧ (K (gA σ 15 (a1).toNatClampNeg) σ)))))

def w_X6_placeIn (σ : St) (a1 : Int32) (a2 : Int32) (K : Int32 → St → Prop) : Prop :=
  (a2 < 0 → (K (-1) σ)) ∧ (¬ a2 < 0 → (w_X6_sizeOf σ a1 (fun (r_2 : Int32) (u_1 : St) => (r_2 ≤ a2 → (K (-1) u_1)) ∧ (¬ r_2 ≤ a2 → (vp_in a1 300 ∧ (K ((gA u_1 14 (a1).toNatClampNeg) + a2) u_1))))))

def w_X4_placeAsked (σ : St) (a1 : Int32) (K : Int32 → St → Prop) : Prop :=
  w_X1_cameTo σ a1 0 (fun (r_2 : Int64) (u_1 : St) => w_X8_contentOf u_1 r_2 (fun (r_4 : Int32) (u_3 : St) => w_X1_cameTo u_3 a1 1 (fun (r_6 : Int64) (u_5 : St) => w_X8_contentOf u_5 r_6 (fun (r_8 : Int32) (u_7 : St) => w_X6_placeIn u_7 r_4 r_8 (fun (r_10 : Int32) (u_9 : St) => K r_10 u_9)))))

def b_X8_refuseTwo_45 (K : Int64 → St → Prop) (σ : St) (x0 : Int32) (t0 : Int32) : Prop :=
  (t0 = 0 → (w_X8_ofFault σ 4 x0 (fun (r_2 : Int64) (u_1 : St) => K r_2 u_1))) ∧ (¬ t0 = 0 → (K 0 σ))

def w_X8_refuseTwo (σ : St) (a1 : Int32) (a2 : Int64) (a3 : Int32) (a4 : Int64) (a5 : Int32) (K : Int64 → St → Prop) : Prop :=
  w_X8_sortOf σ a2 (fun (r_5 : Int32) (u_4 : St) => (¬ r_5 = 3 → (w_X8_sortOf u_4 a4 (fun (r_7 : Int32) (u_6 : St) => (¬ r_7 = 3 → (w_X8_sortOf u_6 a2 (fun (r_9 : Int32) (u_8 : St) => (¬ r_9 = a3 → (b_X8_refuseTwo_45 K u_8 a1 0)) ∧ (r_9 = a3 → (w_X8_sortOf u_8 a4 (fun (r_11 : Int32) (u_10 : St) => (¬ r_11 = a5 → (b_X8_refuseTwo_45 K u_10 a1 0)) ∧ (r_11 = a5 → (b_X8_refuseTwo_45 K u_10 a1 1)))))))) ∧ (r_7 = 3 → (K a4 u_6))))) ∧ (r_5 = 3 → (K a2 u_4)))

def w_X4_refuseCell (σ : St) (a1 : Int32) (a2 : Int32) (a3 : Int32) (K : Int64 → St → Prop) : Prop :=
  w_X1_cameTo σ a1 0 (fun (r_2 : Int64) (u_1 : St) => w_X1_cameTo u_1 a1 1 (fun (r_4 : Int64) (u_3 : St) => w_X8_refuseTwo u_3 a2 r_2 2 r_4 1 (fun (r_6 : Int64) (u_5 : St) => (¬ (lg_cmp r_6 0) = 0 → (K r_6 u_5)) ∧ ((lg_cmp r_6 0) = 0 → ((¬ a3 = (-1) → (K r_6 u_5)) ∧ (a3 = (-1) → (w_X8_ofFault u_5 2 a2 (fun (r_8 : Int64) (u_7 : St) => K r_8 u_7))))))))

def b_X6_addReader_36 (K : St → Prop) (σ : St) (x1 : Int32) (x2 : Int32) : Prop :=
  vp_in x1 2000 ∧ (K (sS (sA σ 17 (x1).toNatClampNeg x2) 11 ((gS σ 11) + 1)))

def w_X6_addReader (σ : St) (a1 : Int32) (a2 : Int32) (K : St → Prop) : Prop :=
  vp_in a2 3000 ∧ (vp_in a1 2000 ∧ ((¬ (gA σ 17 (a1).toNatClampNeg) = (-1) → (vp_in (gA σ 17 (a1).toNatClampNeg) 3000 ∧ (b_X6_addReader_36 K (sA (sA σ 18 (a2).toNatClampNeg (-1)) 18 ((gA σ 17 (a1).toNatClampNeg)).toNatClampNeg a2) a1 a2))) ∧ ((gA σ 17 (a1).toNatClampNeg) = (-1) → (vp_in a1 2000 ∧ (b_X6_addReader_36 K (sA (sA σ 18 (a2).toNatClampNeg (-1)) 16 (a1).toNatClampNeg a2) a1 a2)))))

def w_X4_goRead (σ : St) (a1 : Int32) (a2 : Int32) (a3 : Int32) (K : St → Prop) : Prop :=
  w_X4_placeAsked σ a1 (fun (r_2 : Int32) (u_1 : St) => w_X4_refuseCell u_1 a1 a2 r_2 (fun (r_4 : Int64) (u_3 : St) => (¬ (lg_cmp r_4 0) = 0 → (w_X4_give u_3 a2 0 a3 r_4 (fun u_5 : St => K u_5))) ∧ ((lg_cmp r_4 0) = 0 → ((¬ r_2 = (-1) → (vp_in r_2 2000 ∧ ((¬ (lg_cmp (gL u_3 3 (r_2).toNatClampNeg) 0) = 0 → (w_X4_give u_3 a2 0 a3 (gL u_3 3 (r_2).toNatClampNeg) (fun u_7 : St => K u_7))) ∧ ((lg_cmp (gL u_3 3 (r_2).toNatClampNeg) 0) = 0 → (w_X6_addReader u_3 r_2 a1 (fun u_9 : St => K u_9)))))) ∧ (r_2 = (-1) → (w_X4_give u_3 a2 0 a3 r_4 (fun u_13 : St => K u_13)))))))

def w_X6_takeReader (σ : St) (a1 : Int32) (K : Int32 → St → Prop) : Prop :=
  vp_in a1 2000 ∧ ((¬ (gA σ 16 (a1).toNatClampNeg) = (-1) → (vp_in (gA σ 16 (a1).toNatClampNeg) 3000 ∧ (vp_in a1 2000 ∧ (K (gA σ 16 (a1).toNatClampNeg) (sS (sA σ 16 (a1).toNatClampNeg (gA σ 18 ((gA σ 16 (a1).toNatClampNeg)).toNatClampNeg)) 11 ((gS σ 11) - 1)))))) ∧ ((gA σ 16 (a1).toNatClampNeg) = (-1) → (K (-1) σ)))

def b_X4_goWrite_98 (L98 : St → Int32 → Int32 → Int32 → Int64 → Int32 → Int32 → Prop) (K : St → Prop) (σ : St) (x2 : Int32) (x3 : Int32) (x4 : Int32) (x7 : Int64) (x9 : Int32) (x10 : Int32) : Prop :=
  (3000 ≤ x10 → (w_X4_give σ x2 0 x3 x7 (fun u_1 : St => K u_1))) ∧ (¬ 3000 ≤ x10 → ((x9 = (-1) → (w_X4_give σ x2 0 x3 x7 (fun u_3 : St => K u_3))) ∧ (¬ x9 = (-1) → (vp_in x9 3000 ∧ (vp_in x9 3000 ∧ (w_X4_give σ (gA σ 24 (x9).toNatClampNeg) 0 (gA σ 25 (x9).toNatClampNeg) x7 (fun u_5 : St => (¬ (gS u_5 4) = (-1) → (L98 u_5 x2 x3 x4 x7 (-1) (x10 + 1))) ∧ ((gS u_5 4) = (-1) → (w_X6_takeReader u_5 x4 (fun (r_8 : Int32) (u_7 : St) => L98 u_7 x2 x3 x4 x7 r_8 (x10 + 1)))))))))))

def w_X4_goWrite_98 (K : St → Prop) : Nat → St → Int32 → Int32 → Int32 → Int64 → Int32 → Int32 → Prop
  | 0 => fun _ _ _ _ _ _ _ => False
  | n + 1 => fun σ x2 x3 x4 x7 x9 x10 => b_X4_goWrite_98 (w_X4_goWrite_98 K n) K σ x2 x3 x4 x7 x9 x10

def w_X4_goWrite (σ : St) (a1 : Int32) (a2 : Int32) (a3 : Int32) (K : St → Prop) : Prop :=
  w_X4_placeAsked σ a1 (fun (r_15 : Int32) (u_14 : St) => w_X4_refuseCell u_14 a1 a2 r_15 (fun (r_17 : Int64) (u_16 : St) => (¬ (lg_cmp r_17 0) = 0 → (w_X4_give u_16 a2 0 a3 r_17 (fun u_18 : St => K u_18))) ∧ ((lg_cmp r_17 0) = 0 → ((¬ r_15 = (-1) → (vp_in r_15 2000 ∧ (((lg_cmp (gL u_16 3 (r_15).toNatClampNeg) 0) = 0 → (w_X1_cameTo u_16 a1 2 (fun (r_21 : Int64) (u_20 : St) => vp_in r_15 2000 ∧ (w_X6_takeReader (sL u_20 3 (r_15).toNatClampNeg r_21) r_15 (fun (r_23 : Int32) (u_22 : St) => ∃ n : Nat, w_X4_goWrite_98 K n u_22 a2 a3 r_15 r_21 r_23 0))))) ∧ (¬ (lg_cmp (gL u_16 3 (r_15).toNatClampNeg) 0) = 0 → (w_X4_clashAt u_16 a2 (fun u_26 : St => K u_26)))))) ∧ (r_15 = (-1) → (w_X4_give u_16 a2 0 a3 r_17 (fun u_30 : St => K u_30)))))))

def w_X4_goEnd (σ : St) (a1 : Int32) (a2 : Int32) (a3 : Int64) (K : St → Prop) : Prop :=
  vp_in a1 80 ∧ ((a2 = 0 → (vp_in (gA σ 1 (a1).toNatClampNeg) 10 ∧ (((lg_cmp (gL σ 2 ((gA σ 1 (a1).toNatClampNeg)).toNatClampNeg) 0) = 0 → (vp_in (gA σ 1 (a1).toNatClampNeg) 10 ∧ (K (sL σ 2 ((gA σ 1 (a1).toNatClampNeg)).toNatClampNeg a3)))) ∧ (¬ (lg_cmp (gL σ 2 ((gA σ 1 (a1).toNatClampNeg)).toNatClampNeg) 0) = 0 → (w_X4_clashAt σ a1 (fun u_2 : St => K u_2)))))) ∧ (¬ a2 = 0 → (K (sS σ 9 ((gS σ 9) + 1)))))

def w_X8_ofTruth (σ : St) (a1 : Int32) (K : Int64 → St → Prop) : Prop :=
  (a1 = 0 → (w_X8_ofNumber σ 0 (fun (r_2 : Int64) (u_1 : St) => K r_2 u_1))) ∧ (¬ a1 = 0 → (w_X8_ofNumber σ 1 (fun (r_4 : Int64) (u_3 : St) => K r_4 u_3)))

def w_X7_not (σ : St) (a1 : Int32) (a2 : Int64) (K : Int64 → St → Prop) : Prop :=
  w_X8_refuse σ a1 a2 1 (fun (r_2 : Int64) (u_1 : St) => ((lg_cmp r_2 0) = 0 → (w_X8_contentOf u_1 a2 (fun (r_4 : Int32) (u_3 : St) => (¬ r_4 = 0 → (w_X8_ofTruth u_3 0 (fun (r_6 : Int64) (u_5 : St) => K r_6 u_5))) ∧ (r_4 = 0 → (w_X8_ofTruth u_3 1 (fun (r_8 : Int64) (u_7 : St) => K r_8 u_7)))))) ∧ (¬ (lg_cmp r_2 0) = 0 → (K r_2 u_1)))

def b_X7_ofTwo_14 (K : Int64 → St → Prop) (σ : St) (x0 : Int32) (x1 : Int32) (x2 : Int64) (x4 : Int64) (t0 : Int32) : Prop :=
  w_X8_refuseTwo σ x1 x2 t0 x4 t0 (fun (r_2 : Int64) (u_1 : St) => ((lg_cmp r_2 0) = 0 → (w_X8_contentOf u_1 x2 (fun (r_4 : Int32) (u_3 : St) => w_X8_contentOf u_3 x4 (fun (r_6 : Int32) (u_5 : St) => ((x0 = 2) → (w_X8_ofNumber u_5 (r_4 + r_6) (fun (r_9 : Int64) (u_8 : St) => K r_9 u_8))) ∧ (¬ (x0 = 2) → (((x0 = 3) → (w_X8_ofNumber u_5 (r_4 - r_6) (fun (r_12 : Int64) (u_11 : St) => K r_12 u_11))) ∧ (¬ (x0 = 3) → (((x0 = 4) → (w_X8_ofNumber u_5 (r_4 * r_6) (fun (r_15 : Int64) (u_14 : St) => K r_15 u_14))) ∧ (¬ (x0 = 4) → (((x0 = 5) → ((¬ r_6 = 0 → (¬ r_6 = 0 ∧ (w_X8_ofNumber u_5 (r_4 / r_6) (fun (r_18 : Int64) (u_17 : St) => K r_18 u_17)))) ∧ (r_6 = 0 → (w_X8_ofFault u_5 1 x1 (fun (r_21 : Int64) (u_20 : St) => K r_21 u_20))))) ∧ (¬ (x0 = 5) → (((x0 = 6) → ((¬ r_6 = 0 → (¬ r_6 = 0 ∧ (w_X8_ofNumber u_5 (r_4 - r_4 / r_6 * r_6) (fun (r_25 : Int64) (u_24 : St) => K r_25 u_24)))) ∧ (r_6 = 0 → (w_X8_ofFault u_5 1 x1 (fun (r_28 : Int64) (u_27 : St) => K r_28 u_27))))) ∧ (¬ (x0 = 6) → (((x0 = 7) → ((r_6 ≤ r_4 → (w_X8_ofTruth u_5 0 (fun (r_32 : Int64) (u_31 : St) => K r_32 u_31))) ∧ (¬ r_6 ≤ r_4 → (w_X8_ofTruth u_5 1 (fun (r_34 : Int64) (u_33 : St) => K r_34 u_33))))) ∧ (¬ (x0 = 7) → ((¬ r_4 = r_6 → (w_X8_ofTruth u_5 0 (fun (r_37 : Int64) (u_36 : St) => K r_37 u_36))) ∧ (r_4 = r_6 → (w_X8_ofTruth u_5 1 (fun (r_39 : Int64) (u_38 : St) => K r_39 u_38))))))))))))))))))) ∧ (¬ (lg_cmp r_2 0) = 0 → (K r_2 u_1)))

def w_X7_ofTwo (σ : St) (a1 : Int32) (a2 : Int32) (a3 : Int64) (a4 : Int64) (K : Int64 → St → Prop) : Prop :=
  (¬ a1 = 8 → (b_X7_ofTwo_14 K σ a1 a2 a3 a4 1)) ∧ (a1 = 8 → (w_X8_sortOf σ a3 (fun (r_56 : Int32) (u_55 : St) => b_X7_ofTwo_14 K u_55 a1 a2 a3 a4 r_56)))

def w_X4_plainResult (σ : St) (a1 : Int32) (a2 : Int32) (a3 : Int64) (K : Int64 → St → Prop) : Prop :=
  vp_in a2 80 ∧ ((((gA σ 0 (a2).toNatClampNeg) = 0 ∨ (gA σ 0 (a2).toNatClampNeg) = 15) → (K a3 σ)) ∧ (¬ ((gA σ 0 (a2).toNatClampNeg) = 0 ∨ (gA σ 0 (a2).toNatClampNeg) = 15) → ((((gA σ 0 (a2).toNatClampNeg) = 1) → (vp_in a2 80 ∧ (w_X8_ofNumber σ (gA σ 1 (a2).toNatClampNeg) (fun (r_4 : Int64) (u_3 : St) => K r_4 u_3)))) ∧ (¬ ((gA σ 0 (a2).toNatClampNeg) = 1) → ((((gA σ 0 (a2).toNatClampNeg) = 9) → (w_X7_not σ a2 a3 (fun (r_8 : Int64) (u_7 : St) => K r_8 u_7))) ∧ (¬ ((gA σ 0 (a2).toNatClampNeg) = 9) → ((((gA σ 0 (a2).toNatClampNeg) = 20) → (w_X8_refuse σ a2 a3 2 (fun (r_11 : Int64) (u_10 : St) => w_X8_contentOf u_10 a3 (fun (r_13 : Int32) (u_12 : St) => ((lg_cmp r_11 0) = 0 → (w_X6_sizeOf u_12 r_13 (fun (r_15 : Int32) (u_14 : St) => w_X8_ofNumber u_14 r_15 (fun (r_17 : Int64) (u_16 : St) => K r_17 u_16)))) ∧ (¬ (lg_cmp r_11 0) = 0 → (K r_11 u_12)))))) ∧ (¬ ((gA σ 0 (a2).toNatClampNeg) = 20) → (w_X1_cameTo σ a1 1 (fun (r_20 : Int64) (u_19 : St) => w_X7_ofTwo u_19 (gA σ 0 (a2).toNatClampNeg) a2 a3 r_20 (fun (r_22 : Int64) (u_21 : St) => K r_22 u_21)))))))))))

def w_X4_goOff (σ : St) (a1 : Int32) (K : St → Prop) : Prop :=
  (¬ a1 = (-1) → (vp_in a1 3000 ∧ (vp_in a1 3000 ∧ (w_X1_cameTo σ a1 0 (fun (r_2 : Int64) (u_1 : St) => vp_in (gA σ 24 (a1).toNatClampNeg) 80 ∧ (vp_in (gA σ 24 (a1).toNatClampNeg) 80 ∧ (vp_in (gA σ 24 (a1).toNatClampNeg) 80 ∧ ((((gA u_1 0 ((gA σ 24 (a1).toNatClampNeg)).toNatClampNeg) = 10) → (w_X1_cameTo (sA (sS u_1 5 ((gS u_1 5) + 1)) 12 ((gA σ 24 (a1).toNatClampNeg)).toNatClampNeg ((gA u_1 12 ((gA σ 24 (a1).toNatClampNeg)).toNatClampNeg) + 1)) a1 1 (fun (r_5 : Int64) (u_4 : St) => w_X4_goSwitch u_4 (gA σ 24 (a1).toNatClampNeg) (gA σ 25 (a1).toNatClampNeg) r_2 r_5 (fun u_6 : St => K u_6)))) ∧ (¬ ((gA u_1 0 ((gA σ 24 (a1).toNatClampNeg)).toNatClampNeg) = 10) → ((((gA u_1 0 ((gA σ 24 (a1).toNatClampNeg)).toNatClampNeg) = 11) → (vp_in (gA σ 24 (a1).toNatClampNeg) 80 ∧ (w_X0_enter (sA (sS u_1 5 ((gS u_1 5) + 1)) 12 ((gA σ 24 (a1).toNatClampNeg)).toNatClampNeg ((gA u_1 12 ((gA σ 24 (a1).toNatClampNeg)).toNatClampNeg) + 1)) (gA σ 25 (a1).toNatClampNeg) (gA u_1 1 ((gA σ 24 (a1).toNatClampNeg)).toNatClampNeg) (fun (r_10 : Int32) (u_9 : St) => w_X4_give u_9 (gA σ 24 (a1).toNatClampNeg) 0 r_10 r_2 (fun u_11 : St => K u_11))))) ∧ (¬ ((gA u_1 0 ((gA σ 24 (a1).toNatClampNeg)).toNatClampNeg) = 11) → ((((gA u_1 0 ((gA σ 24 (a1).toNatClampNeg)).toNatClampNeg) = 12 ∨ (gA u_1 0 ((gA σ 24 (a1).toNatClampNeg)).toNatClampNeg) = 13) → (w_X4_goTurn (sA (sS u_1 5 ((gS u_1 5) + 1)) 12 ((gA σ 24 (a1).toNatClampNeg)).toNatClampNeg ((gA u_1 12 ((gA σ 24 (a1).toNatClampNeg)).toNatClampNeg) + 1)) (gA σ 24 (a1).toNatClampNeg) (gA σ 25 (a1).toNatClampNeg) r_2 (fun u_15 : St => K u_15))) ∧ (¬ ((gA u_1 0 ((gA σ 24 (a1).toNatClampNeg)).toNatClampNeg) = 12 ∨ (gA u_1 0 ((gA σ 24 (a1).toNatClampNeg)).toNatClampNeg) = 13) → ((((gA u_1 0 ((gA σ 24 (a1).toNatClampNeg)).toNatClampNeg) = 14) → (w_X4_goCall (sA (sS u_1 5 ((gS u_1 5) + 1)) 12 ((gA σ 24 (a1).toNatClampNeg)).toNatClampNeg ((gA u_1 12 ((gA σ 24 (a1).toNatClampNeg)).toNatClampNeg) + 1)) a1 (gA σ 24 (a1).toNatClampNeg) (gA σ 25 (a1).toNatClampNeg) (fun u_18 : St => K u_18))) ∧ (¬ ((gA u_1 0 ((gA σ 24 (a1).toNatClampNeg)).toNatClampNeg) = 14) → ((((gA u_1 0 ((gA σ 24 (a1).toNatClampNeg)).toNatClampNeg) = 16) → (w_X4_goReturn (sA (sS u_1 5 ((gS u_1 5) + 1)) 12 ((gA σ 24 (a1).toNatClampNeg)).toNatClampNeg ((gA u_1 12 ((gA σ 24 (a1).toNatClampNeg)).toNatClampNeg) + 1)) (gA σ 25 (a1).toNatClampNeg) r_2 (fun u_21 : St => K u_21))) ∧ (¬ ((gA u_1 0 ((gA σ 24 (a1).toNatClampNeg)).toNatClampNeg) = 16) → ((((gA u_1 0 ((gA σ 24 (a1).toNatClampNeg)).toNatClampNeg) = 17) → (w_X4_goMake (sA (sS u_1 5 ((gS u_1 5) + 1)) 12 ((gA σ 24 (a1).toNatClampNeg)).toNatClampNeg ((gA u_1 12 ((gA σ 24 (a1).toNatClampNeg)).toNatClampNeg) + 1)) (gA σ 24 (a1).toNatClampNeg) (gA σ 25 (a1).toNatClampNeg) r_2 (fun u_24 : St => K u_24))) ∧ (¬ ((gA u_1 0 ((gA σ 24 (a1).toNatClampNeg)).toNatClampNeg) = 17) → ((((gA u_1 0 ((gA σ 24 (a1).toNatClampNeg)).toNatClampNeg) = 18) → (w_X4_goRead (sA (sS u_1 5 ((gS u_1 5) + 1)) 12 ((gA σ 24 (a1).toNatClampNeg)).toNatClampNeg ((gA u_1 12 ((gA σ 24 (a1).toNatClampNeg)).toNatClampNeg) + 1)) a1 (gA σ 24 (a1).toNatClampNeg) (gA σ 25 (a1).toNatClampNeg) (fun u_27 : St => K u_27))) ∧ (¬ ((gA u_1 0 ((gA σ 24 (a1).toNatClampNeg)).toNatClampNeg) = 18) → ((((gA u_1 0 ((gA σ 24 (a1).toNatClampNeg)).toNatClampNeg) = 19) → (w_X4_goWrite (sA (sS u_1 5 ((gS u_1 5) + 1)) 12 ((gA σ 24 (a1).toNatClampNeg)).toNatClampNeg ((gA u_1 12 ((gA σ 24 (a1).toNatClampNeg)).toNatClampNeg) + 1)) a1 (gA σ 24 (a1).toNatClampNeg) (gA σ 25 (a1).toNatClampNeg) (fun u_30 : St => K u_30))) ∧ (¬ ((gA u_1 0 ((gA σ 24 (a1).toNatClampNeg)).toNatClampNeg) = 19) → ((((gA u_1 0 ((gA σ 24 (a1).toNatClampNeg)).toNatClampNeg) = 21) → (w_X4_goEnd (sA (sS u_1 5 ((gS u_1 5) + 1)) 12 ((gA σ 24 (a1).toNatClampNeg)).toNatClampNeg ((gA u_1 12 ((gA σ 24 (a1).toNatClampNeg)).toNatClampNeg) + 1)) (gA σ 24 (a1).toNatClampNeg) (gA σ 25 (a1).toNatClampNeg) r_2 (fun u_33 : St => K u_33))) ∧ (¬ ((gA u_1 0 ((gA σ 24 (a1).toNatClampNeg)).toNatClampNeg) = 21) → (w_X4_plainResult (sA (sS u_1 5 ((gS u_1 5) + 1)) 12 ((gA σ 24 (a1).toNatClampNeg)).toNatClampNeg ((gA u_1 12 ((gA σ 24 (a1).toNatClampNeg)).toNatClampNeg) + 1)) a1 (gA σ 24 (a1).toNatClampNeg) r_2 (fun (r_36 : Int64) (u_35 : St) => w_X4_give u_35 (gA σ 24 (a1).toNatClampNeg) 0 (gA σ 25 (a1).toNatClampNeg) r_36 (fun u_37 : St => K u_37)))))))))))))))))))))))))))) ∧ (a1 = (-1) → (K σ))

def b_X4_goBySeed_74 (K : Int32 → St → Prop) (σ : St) : Prop :=
  ((gS σ 5) ≤ 0 → (K (gS σ 4) (sS σ 7 0))) ∧ (¬ (gS σ 5) ≤ 0 → (K (gS σ 4) (sS σ 7 1)))

def b_X4_goBySeed_9 (L9 : St → Int32 → Int32 → Int32 → Prop) (K : Int32 → St → Prop) (σ : St) (x2 : Int32) (x3 : Int32) (x4 : Int32) : Prop :=
  (x2 < x4 → (b_X4_goBySeed_74 K σ)) ∧ (¬ x2 < x4 → (w_X4_mayStep σ x2 (fun (r_3 : Int32) (u_2 : St) => (r_3 = 0 → (b_X4_goBySeed_74 K u_2)) ∧ (¬ r_3 = 0 → (w_X5_size u_2 (fun (r_5 : Int32) (u_4 : St) => (¬ r_5 = 0 → (¬ r_5 = 0 ∧ (w_X5_take u_4 (((((1103515245 * x3) + 12345).toUInt32 >>> ((16 : Int32).toUInt32 &&& Int32.toUInt32 31)).toInt32) - ((((1103515245 * x3) + 12345).toUInt32 >>> ((16 : Int32).toUInt32 &&& Int32.toUInt32 31)).toInt32) / r_5 * r_5) (fun (r_7 : Int32) (u_6 : St) => w_X4_goOff u_6 r_7 (fun u_8 : St => L9 u_8 x2 ((1103515245 * x3) + 12345) (x4 + 1)))))) ∧ (r_5 = 0 → (w_X5_take u_4 0 (fun (r_12 : Int32) (u_11 : St) => w_X4_goOff u_11 r_12 (fun u_13 : St => L9 u_13 x2 ((1103515245 * x3) + 12345) (x4 + 1)))))))))))

def w_X4_goBySeed_9 (K : Int32 → St → Prop) : Nat → St → Int32 → Int32 → Int32 → Prop
  | 0 => fun _ _ _ _ => False
  | n + 1 => fun σ x2 x3 x4 => b_X4_goBySeed_9 (w_X4_goBySeed_9 K n) K σ x2 x3 x4

def w_X4_goBySeed (σ : St) (a1 : Int32) (a2 : Int32) (K : Int32 → St → Prop) : Prop :=
  w_X4_begin σ (fun u_18 : St => ∃ n : Nat, w_X4_goBySeed_9 K n u_18 a2 a1 0)

def b_X4_goTick_41 (K : St → Prop) (σ : St) (x3 : Int32) : Prop :=
  K (sS (sS σ 6 ((gS σ 6) + 1)) 7 (if (gS σ 7) < x3 then x3 else (gS σ 7)))

def b_X4_goTick_10 (L10 : St → Int32 → Int32 → Int32 → Prop) (K : St → Prop) (σ : St) (x1 : Int32) (x2 : Int32) (x3 : Int32) : Prop :=
  (x2 ≤ x3 → (b_X4_goTick_41 K σ x3)) ∧ (¬ x2 ≤ x3 → (w_X4_mayStep σ x1 (fun (r_2 : Int32) (u_1 : St) => (r_2 = 0 → (b_X4_goTick_41 K u_1 x3)) ∧ (¬ r_2 = 0 → (w_X5_take u_1 0 (fun (r_4 : Int32) (u_3 : St) => w_X4_goOff u_3 r_4 (fun u_5 : St => L10 u_5 x1 x2 (x3 + 1))))))))

def w_X4_goTick_10 (K : St → Prop) : Nat → St → Int32 → Int32 → Int32 → Prop
  | 0 => fun _ _ _ _ => False
  | n + 1 => fun σ x1 x2 x3 => b_X4_goTick_10 (w_X4_goTick_10 K n) K σ x1 x2 x3

def w_X4_goTick (σ : St) (a1 : Int32) (K : St → Prop) : Prop :=
  w_X5_size σ (fun (r_10 : Int32) (u_9 : St) => ∃ n : Nat, w_X4_goTick_10 K n u_9 a1 r_10 0)

def b_X4_goByTicks_6 (L6 : St → Int32 → Int32 → Prop) (K : Int32 → St → Prop) (σ : St) (x1 : Int32) (x2 : Int32) : Prop :=
  (x1 < x2 → (K (gS σ 4) σ)) ∧ (¬ x1 < x2 → (w_X4_mayStep σ x1 (fun (r_2 : Int32) (u_1 : St) => (r_2 = 0 → (K (gS u_1 4) u_1)) ∧ (¬ r_2 = 0 → (w_X4_goTick u_1 x1 (fun u_3 : St => L6 u_3 x1 (x2 + 1)))))))

def w_X4_goByTicks_6 (K : Int32 → St → Prop) : Nat → St → Int32 → Int32 → Prop
  | 0 => fun _ _ _ => False
  | n + 1 => fun σ x1 x2 => b_X4_goByTicks_6 (w_X4_goByTicks_6 K n) K σ x1 x2

def w_X4_goByTicks (σ : St) (a1 : Int32) (K : Int32 → St → Prop) : Prop :=
  w_X4_begin σ (fun u_7 : St => ∃ n : Nat, w_X4_goByTicks_6 K n u_7 a1 0)

def w_X4_figure (σ : St) (a1 : Int32) (K : Int32 → St → Prop) : Prop :=
  ((a1 = 0) → (K (gS σ 4) σ)) ∧ (¬ (a1 = 0) → (((a1 = 1) → (K (gS σ 5) σ)) ∧ (¬ (a1 = 1) → (((a1 = 2) → (K (gS σ 6) σ)) ∧ (¬ (a1 = 2) → (((a1 = 3) → (K (gS σ 7) σ)) ∧ (¬ (a1 = 3) → (((a1 = 4) → (K (gS σ 15) σ)) ∧ (¬ (a1 = 4) → (((a1 = 5) → (K (gS σ 11) σ)) ∧ (¬ (a1 = 5) → (((a1 = 6) → (K (gS σ 8) σ)) ∧ (¬ (a1 = 6) → (((a1 = 7) → (K (gS σ 9) σ)) ∧ (¬ (a1 = 7) → (((a1 = 8) → (K (gS σ 14) σ)) ∧ (¬ (a1 = 8) → (((a1 = 9) → (K (gS σ 10) σ)) ∧ (¬ (a1 = 9) → (((a1 = 10) → (w_X5_size σ (fun (r_13 : Int32) (u_12 : St) => K r_13 u_12))) ∧ (¬ (a1 = 10) → (K (-1) σ))))))))))))))))))))))

def w_X8_actOf (σ : St) (a1 : Int64) (K : Int32 → St → Prop) : Prop :=
  K ((((a1.toUInt64 >>> ((32 : Int32).toInt64.toUInt64 &&& Int64.toUInt64 63)).toInt64).toInt32) &&& 255) σ

def w_X4_describe (σ : St) (a1 : Int64) (a2 : Int32) (K : Int32 → St → Prop) : Prop :=
  w_X8_sortOf σ a1 (fun (r_2 : Int32) (u_1 : St) => ((a2 = 0) → (K r_2 u_1)) ∧ (¬ (a2 = 0) → (((a2 = 1) → ((¬ (lg_cmp a1 0) = 0 → (w_X8_contentOf u_1 a1 (fun (r_6 : Int32) (u_5 : St) => (¬ r_2 = 2 → (K r_6 u_5)) ∧ (r_2 = 2 → (w_X6_sizeOf u_5 r_6 (fun (r_8 : Int32) (u_7 : St) => K r_8 u_7)))))) ∧ ((lg_cmp a1 0) = 0 → (K (-1) u_1)))) ∧ (¬ (a2 = 1) → (((a2 = 2) → ((¬ r_2 = 3 → (K (-1) u_1)) ∧ (r_2 = 3 → (w_X8_actOf u_1 a1 (fun (r_13 : Int32) (u_12 : St) => K r_13 u_12))))) ∧ (¬ (a2 = 2) → (K (-1) u_1)))))))

def w_X4_comparable (σ : St) (a1 : Int64) (K : Int64 → St → Prop) : Prop :=
  w_X8_sortOf σ a1 (fun (r_2 : Int32) (u_1 : St) => (r_2 = 2 → (w_X8_contentOf u_1 a1 (fun (r_4 : Int32) (u_3 : St) => w_X6_sizeOf u_3 r_4 (fun (r_6 : Int32) (u_5 : St) => w_X8_ofRow u_5 r_6 (fun (r_8 : Int64) (u_7 : St) => K r_8 u_7))))) ∧ (¬ r_2 = 2 → (K a1 u_1)))

def b_X4_copyFigures_figuresA_86 (L86 : St → Int32 → Prop) (K : St → Prop) (σ : St) (x2 : Int32) : Prop :=
  (80 ≤ x2 → (K σ)) ∧ (¬ 80 ≤ x2 → (vp_in x2 80 ∧ (vp_in (20 + x2) 100 ∧ (L86 (sL σ 0 ((20 + x2)).toNatClampNeg ((gA σ 12 (x2).toNatClampNeg).toInt64)) (x2 + 1)))))

def w_X4_copyFigures_figuresA_86 (K : St → Prop) : Nat → St → Int32 → Prop
  | 0 => fun _ _ => False
  | n + 1 => fun σ x2 => b_X4_copyFigures_figuresA_86 (w_X4_copyFigures_figuresA_86 K n) K σ x2

def b_X4_copyFigures_figuresA_56 (L56 : St → Int32 → Prop) (K : St → Prop) (σ : St) (x2 : Int32) : Prop :=
  (10 ≤ x2 → (∃ n : Nat, w_X4_copyFigures_figuresA_86 K n σ 0)) ∧ (¬ 10 ≤ x2 → (vp_in x2 10 ∧ (w_X4_comparable σ (gL σ 2 (x2).toNatClampNeg) (fun (r_6 : Int64) (u_5 : St) => vp_in (10 + x2) 100 ∧ (L56 (sL u_5 0 ((10 + x2)).toNatClampNeg r_6) (x2 + 1))))))

def w_X4_copyFigures_figuresA_56 (K : St → Prop) : Nat → St → Int32 → Prop
  | 0 => fun _ _ => False
  | n + 1 => fun σ x2 => b_X4_copyFigures_figuresA_56 (w_X4_copyFigures_figuresA_56 K n) K σ x2

def w_X4_copyFigures_figuresA (σ : St) (K : St → Prop) : Prop :=
  ∃ n : Nat, w_X4_copyFigures_figuresA_56 K n (sL (sL (sL (sL (sL (sL σ 0 ((0 : Int32)).toNatClampNeg ((gS σ 4).toInt64)) 0 ((1 : Int32)).toNatClampNeg ((gS σ 5).toInt64)) 0 ((2 : Int32)).toNatClampNeg ((gS σ 15).toInt64)) 0 ((3 : Int32)).toNatClampNeg ((gS σ 11).toInt64)) 0 ((4 : Int32)).toNatClampNeg ((gS σ 8).toInt64)) 0 ((5 : Int32)).toNatClampNeg ((gS σ 9).toInt64)) 0

def b_X4_copyFigures_figuresB_86 (L86 : St → Int32 → Prop) (K : St → Prop) (σ : St) (x2 : Int32) : Prop :=
  (80 ≤ x2 → (K σ)) ∧ (¬ 80 ≤ x2 → (vp_in x2 80 ∧ (vp_in (20 + x2) 100 ∧ (L86 (sL σ 1 ((20 + x2)).toNatClampNeg ((gA σ 12 (x2).toNatClampNeg).toInt64)) (x2 + 1)))))

def w_X4_copyFigures_figuresB_86 (K : St → Prop) : Nat → St → Int32 → Prop
  | 0 => fun _ _ => False
  | n + 1 => fun σ x2 => b_X4_copyFigures_figuresB_86 (w_X4_copyFigures_figuresB_86 K n) K σ x2

def b_X4_copyFigures_figuresB_56 (L56 : St → Int32 → Prop) (K : St → Prop) (σ : St) (x2 : Int32) : Prop :=
  (10 ≤ x2 → (∃ n : Nat, w_X4_copyFigures_figuresB_86 K n σ 0)) ∧ (¬ 10 ≤ x2 → (vp_in x2 10 ∧ (w_X4_comparable σ (gL σ 2 (x2).toNatClampNeg) (fun (r_6 : Int64) (u_5 : St) => vp_in (10 + x2) 100 ∧ (L56 (sL u_5 1 ((10 + x2)).toNatClampNeg r_6) (x2 + 1))))))

def w_X4_copyFigures_figuresB_56 (K : St → Prop) : Nat → St → Int32 → Prop
  | 0 => fun _ _ => False
  | n + 1 => fun σ x2 => b_X4_copyFigures_figuresB_56 (w_X4_copyFigures_figuresB_56 K n) K σ x2

def w_X4_copyFigures_figuresB (σ : St) (K : St → Prop) : Prop :=
  ∃ n : Nat, w_X4_copyFigures_figuresB_56 K n (sL (sL (sL (sL (sL (sL σ 1 ((0 : Int32)).toNatClampNeg ((gS σ 4).toInt64)) 1 ((1 : Int32)).toNatClampNeg ((gS σ 5).toInt64)) 1 ((2 : Int32)).toNatClampNeg ((gS σ 15).toInt64)) 1 ((3 : Int32)).toNatClampNeg ((gS σ 11).toInt64)) 1 ((4 : Int32)).toNatClampNeg ((gS σ 8).toInt64)) 1 ((5 : Int32)).toNatClampNeg ((gS σ 9).toInt64)) 0

def w_X9_act (σ : St) (a1 : Int32) (a2 : Int32) (a3 : Int32) (K : Int32 → St → Prop) : Prop :=
  w_X2_addAct σ a1 a2 a3 (fun (r_2 : Int32) (u_1 : St) => K r_2 u_1)

def w_X9_way (σ : St) (a1 : Int32) (a2 : Int32) (a3 : Int32) (a4 : Int32) (K : Int32 → St → Prop) : Prop :=
  w_X2_addWay σ a1 a2 a3 a4 (fun (r_2 : Int32) (u_1 : St) => K r_2 u_1)

def w_X9_token (σ : St) (a1 : Int32) (a2 : Int32) (a3 : Int32) (K : Int32 → St → Prop) : Prop :=
  w_X2_addToken σ a1 a2 a3 (fun (r_2 : Int32) (u_1 : St) => K r_2 u_1)

def b_X9_clear_30 (K : Int32 → St → Prop) (σ : St) (x1 : Int32) : Prop :=
  (¬ x1 = 2 → (K 1 (sS σ 0 0))) ∧ (x1 = 2 → (w_X2_dropActs σ (fun u_1 : St => K 1 (sS u_1 0 0))))

def w_X9_clear (σ : St) (a1 : Int32) (K : Int32 → St → Prop) : Prop :=
  (a1 < 0 → (K 0 σ)) ∧ (¬ a1 < 0 → ((a1 ≤ 2 → (w_X2_dropTokens σ (fun u_4 : St => (a1 < 1 → (b_X9_clear_30 K u_4 a1)) ∧ (¬ a1 < 1 → (w_X2_dropWays u_4 (fun u_6 : St => b_X9_clear_30 K u_6 a1)))))) ∧ (¬ a1 ≤ 2 → (K 0 σ))))

def w_X9_isFuel (σ : St) (a1 : Int32) (K : Int32 → St → Prop) : Prop :=
  (a1 < 0 → (K 0 σ)) ∧ (¬ a1 < 0 → ((4000 < a1 → (K 0 σ)) ∧ (¬ 4000 < a1 → (K 1 σ))))

def w_X9_run (σ : St) (a1 : Int32) (a2 : Int32) (K : Int32 → St → Prop) : Prop :=
  w_X9_isFuel σ a2 (fun (r_2 : Int32) (u_1 : St) => (¬ r_2 = 0 → (w_X4_goBySeed (sS u_1 0 1) a1 a2 (fun (r_4 : Int32) (u_3 : St) => K r_4 u_3))) ∧ (r_2 = 0 → (K (-1) u_1)))

def w_X9_ticks (σ : St) (a1 : Int32) (K : Int32 → St → Prop) : Prop :=
  w_X9_isFuel σ a1 (fun (r_2 : Int32) (u_1 : St) => (¬ r_2 = 0 → (w_X4_goByTicks (sS u_1 0 1) a1 (fun (r_4 : Int32) (u_3 : St) => K r_4 u_3))) ∧ (r_2 = 0 → (K (-1) u_1)))

def w_X9_about (σ : St) (a1 : Int32) (K : Int32 → St → Prop) : Prop :=
  ((gS σ 0) = 0 → (K (-1) σ)) ∧ (¬ (gS σ 0) = 0 → (w_X4_figure σ a1 (fun (r_2 : Int32) (u_1 : St) => K r_2 u_1)))

def w_X9_end (σ : St) (a1 : Int32) (a2 : Int32) (K : Int32 → St → Prop) : Prop :=
  ((gS σ 0) = 0 → (K (-1) σ)) ∧ (¬ (gS σ 0) = 0 → ((a1 < 0 → (K (-1) σ)) ∧ (¬ a1 < 0 → ((a1 < 10 → (vp_in a1 10 ∧ (w_X4_describe σ (gL σ 2 (a1).toNatClampNeg) a2 (fun (r_2 : Int32) (u_1 : St) => K r_2 u_1)))) ∧ (¬ a1 < 10 → (K (-1) σ))))))

def w_X9_fired (σ : St) (a1 : Int32) (K : Int32 → St → Prop) : Prop :=
  ((gS σ 0) = 0 → (K (-1) σ)) ∧ (¬ (gS σ 0) = 0 → (w_X2_hasAct σ a1 (fun (r_2 : Int32) (u_1 : St) => (r_2 = 0 → (K (-1) u_1)) ∧ (¬ r_2 = 0 → (vp_in a1 80 ∧ (K (gA u_1 12 (a1).toNatClampNeg) u_1))))))

def w_X9_cell (σ : St) (a1 : Int32) (a2 : Int32) (a3 : Int32) (K : Int32 → St → Prop) : Prop :=
  ((gS σ 0) = 0 → (K (-1) σ)) ∧ (¬ (gS σ 0) = 0 → (w_X2_hasAct σ a1 (fun (r_2 : Int32) (u_1 : St) => (¬ r_2 = 0 → (vp_in a1 80 ∧ (w_X6_placeIn u_1 (gA u_1 13 (a1).toNatClampNeg) a2 (fun (r_4 : Int32) (u_3 : St) => (¬ r_4 = (-1) → (vp_in r_4 2000 ∧ (w_X4_describe u_3 (gL u_3 3 (r_4).toNatClampNeg) a3 (fun (r_6 : Int32) (u_5 : St) => K r_6 u_5)))) ∧ (r_4 = (-1) → (K (-1) u_3)))))) ∧ (r_2 = 0 → (K (-1) u_1)))))

def w_X9_told (σ : St) (a1 : Int32) (a2 : Int32) (K : Int32 → St → Prop) : Prop :=
  w_X2_hasAct σ a1 (fun (r_2 : Int32) (u_1 : St) => (¬ r_2 = 0 → (((a2 = 0) → (vp_in a1 80 ∧ (K (gA u_1 0 (a1).toNatClampNeg) u_1))) ∧ (¬ (a2 = 0) → (((a2 = 1) → (vp_in a1 80 ∧ (K (gA u_1 1 (a1).toNatClampNeg) u_1))) ∧ (¬ (a2 = 1) → (((a2 = 2) → (vp_in a1 80 ∧ (K (gA u_1 2 (a1).toNatClampNeg) u_1))) ∧ (¬ (a2 = 2) → (((a2 = 3) → (w_X2_countWays u_1 a1 0 (fun (r_11 : Int32) (u_10 : St) => K r_11 u_10))) ∧ (¬ (a2 = 3) → (((a2 = 4) → (w_X2_countWays u_1 a1 1 (fun (r_14 : Int32) (u_13 : St) => K r_14 u_13))) ∧ (¬ (a2 = 4) → (((a2 = 5) → (w_X2_countTokens u_1 a1 (fun (r_17 : Int32) (u_16 : St) => K r_17 u_16))) ∧ (¬ (a2 = 5) → (K (-1) u_1)))))))))))))) ∧ (r_2 = 0 → (K (-1) u_1)))

def b_X9_firstDifference_41 (L41 : St → Int32 → Int32 → Prop) (K : Int32 → St → Prop) (σ : St) (x2 : Int32) (x3 : Int32) : Prop :=
  (x2 ≤ x3 → (K (-1) σ)) ∧ (¬ x2 ≤ x3 → (vp_in x3 100 ∧ (vp_in x3 100 ∧ (((lg_cmp (gL σ 0 (x3).toNatClampNeg) (gL σ 1 (x3).toNatClampNeg)) = 0 → (L41 σ x2 (x3 + 1))) ∧ (¬ (lg_cmp (gL σ 0 (x3).toNatClampNeg) (gL σ 1 (x3).toNatClampNeg)) = 0 → (K x3 σ))))))

def w_X9_firstDifference_41 (K : Int32 → St → Prop) : Nat → St → Int32 → Int32 → Prop
  | 0 => fun _ _ _ => False
  | n + 1 => fun σ x2 x3 => b_X9_firstDifference_41 (w_X9_firstDifference_41 K n) K σ x2 x3

def b_X9_firstDifference_27 (K : Int32 → St → Prop) (σ : St) (t0 : Int32) : Prop :=
  (t0 = 0 → (∃ n : Nat, w_X9_firstDifference_41 K n σ 1 0)) ∧ (¬ t0 = 0 → (∃ n : Nat, w_X9_firstDifference_41 K n σ 100 0))

def w_X9_firstDifference (σ : St) (K : Int32 → St → Prop) : Prop :=
  (¬ (lg_cmp (gL σ 0 ((0 : Int32)).toNatClampNeg) 0) = 0 → (b_X9_firstDifference_27 K σ 0)) ∧ ((lg_cmp (gL σ 0 ((0 : Int32)).toNatClampNeg) 0) = 0 → ((¬ (lg_cmp (gL σ 1 ((0 : Int32)).toNatClampNeg) 0) = 0 → (b_X9_firstDifference_27 K σ 0)) ∧ ((lg_cmp (gL σ 1 ((0 : Int32)).toNatClampNeg) 0) = 0 → (b_X9_firstDifference_27 K σ 1))))

def w_X9_beside (σ : St) (a1 : Int32) (a2 : Int32) (a3 : Int32) (K : Int32 → St → Prop) : Prop :=
  w_X9_isFuel σ a3 (fun (r_2 : Int32) (u_1 : St) => (¬ r_2 = 0 → (w_X4_goBySeed (sS u_1 0 1) a1 a3 (fun (r_4 : Int32) (u_3 : St) => w_X4_copyFigures_figuresA u_3 (fun u_5 : St => w_X4_goBySeed u_5 a2 a3 (fun (r_8 : Int32) (u_7 : St) => w_X4_copyFigures_figuresB u_7 (fun u_9 : St => w_X9_firstDifference u_9 (fun (r_12 : Int32) (u_11 : St) => K r_12 u_11))))))) ∧ (r_2 = 0 → (K (-2) u_1)))

def w_X10_in (σ : St) (a1 : Int32) (a2 : Int32) (a3 : Int32) (K : Int32 → St → Prop) : Prop :=
  (a1 < a2 → (K 0 σ)) ∧ (¬ a1 < a2 → ((a3 < a1 → (K 0 σ)) ∧ (¬ a3 < a1 → (K 1 σ))))

def w_X10_isAct (σ : St) (a1 : Int32) (K : Int32 → St → Prop) : Prop :=
  w_X10_in σ a1 0 ((gS σ 0) - 1) (fun (r_2 : Int32) (u_1 : St) => K r_2 u_1)

def w_X10_portsOf (σ : St) (a1 : Int32) (a2 : Int32) (K : Int32 → St → Prop) : Prop :=
  (¬ a1 = 14 → ((¬ a1 = 19 → (w_X10_in σ a1 2 8 (fun (r_2 : Int32) (u_1 : St) => (¬ r_2 = 0 → (K 2 u_1)) ∧ (r_2 = 0 → ((a1 = 10 → (K 2 u_1)) ∧ (¬ a1 = 10 → ((¬ a1 = 18 → (K 1 u_1)) ∧ (a1 = 18 → (K 2 u_1))))))))) ∧ (a1 = 19 → (K 3 σ)))) ∧ (a1 = 14 → (K a2 σ))

def b_X10_act_93 (K : Int32 → St → Prop) (σ : St) (x1 : Int32) (x2 : Int32) (x3 : Int32) : Prop :=
  vp_in (gS σ 0) 80 ∧ (vp_in (gS σ 0) 80 ∧ (w_X10_portsOf (sA (sA σ 0 ((gS σ 0)).toNatClampNeg x1) 1 ((gS σ 0)).toNatClampNeg x2) x1 x3 (fun (r_2 : Int32) (u_1 : St) => vp_in (gS σ 0) 80 ∧ (K (((gS u_1 0) + 1) - 1) (sS (sA u_1 2 ((gS σ 0)).toNatClampNeg r_2) 0 ((gS u_1 0) + 1))))))

def b_X10_act_76 (K : Int32 → St → Prop) (σ : St) (x1 : Int32) (x2 : Int32) (x3 : Int32) : Prop :=
  (¬ x1 = 14 → (b_X10_act_93 K σ x1 x2 x3)) ∧ (x1 = 14 → (w_X10_in σ x3 1 3 (fun (r_7 : Int32) (u_6 : St) => (¬ r_7 = 0 → (b_X10_act_93 K u_6 x1 x2 x3)) ∧ (r_7 = 0 → (K (-1) u_6)))))

def b_X10_act_50 (K : Int32 → St → Prop) (σ : St) (x1 : Int32) (x2 : Int32) (x3 : Int32) : Prop :=
  (¬ x1 = 15 → (b_X10_act_76 K σ x1 x2 x3)) ∧ (x1 = 15 → (w_X10_in σ x2 0 99 (fun (r_11 : Int32) (u_10 : St) => (r_11 = 0 → (K (-1) u_10)) ∧ (¬ r_11 = 0 → (((x2 - x2 / 10 * 10) ≤ 2 → (b_X10_act_76 K u_10 x1 x2 x3)) ∧ (¬ (x2 - x2 / 10 * 10) ≤ 2 → (K (-1) u_10)))))))

def w_X10_act (σ : St) (a1 : Int32) (a2 : Int32) (a3 : Int32) (K : Int32 → St → Prop) : Prop :=
  w_X10_in σ a1 0 21 (fun (r_16 : Int32) (u_15 : St) => (r_16 = 0 → (K (-1) u_15)) ∧ (¬ r_16 = 0 → ((¬ (gS u_15 0) = 80 → (w_X10_in u_15 a1 11 14 (fun (r_18 : Int32) (u_17 : St) => (¬ r_18 = 0 → (w_X10_in u_17 a2 0 9 (fun (r_20 : Int32) (u_19 : St) => (¬ r_20 = 0 → (b_X10_act_50 K u_19 a1 a2 a3)) ∧ (r_20 = 0 → (K (-1) u_19))))) ∧ (r_18 = 0 → ((¬ a1 = 21 → (b_X10_act_50 K u_17 a1 a2 a3)) ∧ (a1 = 21 → (w_X10_in u_17 a2 0 9 (fun (r_23 : Int32) (u_22 : St) => (¬ r_23 = 0 → (b_X10_act_50 K u_22 a1 a2 a3)) ∧ (r_23 = 0 → (K (-1) u_22)))))))))) ∧ ((gS u_15 0) = 80 → (K (-1) u_15)))))

def b_X10_way_34 (K : Int32 → St → Prop) (σ : St) (x1 : Int32) (x2 : Int32) (x3 : Int32) (x4 : Int32) (t0 : Int32) (t1 : Int32) (t2 : Int32) : Prop :=
  w_X10_in σ t0 t1 t2 (fun (r_2 : Int32) (u_1 : St) => (r_2 = 0 → (K (-1) u_1)) ∧ (¬ r_2 = 0 → (vp_in x3 80 ∧ (w_X10_in u_1 x4 0 ((gA u_1 2 (x3).toNatClampNeg) - 1) (fun (r_4 : Int32) (u_3 : St) => (r_4 = 0 → (K (-1) u_3)) ∧ (¬ r_4 = 0 → ((¬ (gS u_3 1) = 300 → (vp_in (gS u_3 1) 300 ∧ (vp_in (gS u_3 1) 300 ∧ (vp_in (gS u_3 1) 300 ∧ (vp_in (gS u_3 1) 300 ∧ (K (((gS u_3 1) + 1) - 1) (sS (sA (sA (sA (sA u_3 3 ((gS u_3 1)).toNatClampNeg x1) 4 ((gS u_3 1)).toNatClampNeg x2) 5 ((gS u_3 1)).toNatClampNeg x3) 6 ((gS u_3 1)).toNatClampNeg x4) 1 ((gS u_3 1) + 1)))))))) ∧ ((gS u_3 1) = 300 → (K (-1) u_3)))))))))

def w_X10_way (σ : St) (a1 : Int32) (a2 : Int32) (a3 : Int32) (a4 : Int32) (K : Int32 → St → Prop) : Prop :=
  w_X10_isAct σ a1 (fun (r_14 : Int32) (u_13 : St) => (r_14 = 0 → (K (-1) u_13)) ∧ (¬ r_14 = 0 → (w_X10_isAct u_13 a3 (fun (r_16 : Int32) (u_15 : St) => (r_16 = 0 → (K (-1) u_15)) ∧ (¬ r_16 = 0 → (vp_in a1 80 ∧ ((¬ (gA u_15 0 (a1).toNatClampNeg) = 10 → (b_X10_way_34 K u_15 a1 a2 a3 a4 a2 0 0)) ∧ ((gA u_15 0 (a1).toNatClampNeg) = 10 → (b_X10_way_34 K u_15 a1 a2 a3 a4 a2 0 1)))))))))

def w_X10_token (σ : St) (a1 : Int32) (a2 : Int32) (a3 : Int32) (K : Int32 → St → Prop) : Prop :=
  w_X10_isAct σ a1 (fun (r_2 : Int32) (u_1 : St) => (r_2 = 0 → (K (-1) u_1)) ∧ (¬ r_2 = 0 → (vp_in a1 80 ∧ (w_X10_in u_1 a2 0 ((gA u_1 2 (a1).toNatClampNeg) - 1) (fun (r_4 : Int32) (u_3 : St) => (r_4 = 0 → (K (-1) u_3)) ∧ (¬ r_4 = 0 → ((¬ (gS u_3 2) = 40 → (vp_in (gS u_3 2) 40 ∧ (vp_in (gS u_3 2) 40 ∧ (vp_in (gS u_3 2) 40 ∧ (K ((gS u_3 2) + 1) (sS (sA (sA (sA u_3 7 ((gS u_3 2)).toNatClampNeg a1) 8 ((gS u_3 2)).toNatClampNeg a2) 9 ((gS u_3 2)).toNatClampNeg a3) 2 ((gS u_3 2) + 1))))))) ∧ ((gS u_3 2) = 40 → (K (-1) u_3)))))))))

def b_X10_clear_25 (K : Int32 → St → Prop) (σ : St) (x1 : Int32) : Prop :=
  (x1 ≤ 1 → (K 1 (sS σ 3 0))) ∧ (¬ x1 ≤ 1 → (K 1 (sS (sS σ 0 0) 3 0)))

def w_X10_clear (σ : St) (a1 : Int32) (K : Int32 → St → Prop) : Prop :=
  w_X10_in σ a1 0 2 (fun (r_3 : Int32) (u_2 : St) => (¬ r_3 = 0 → ((a1 ≤ 0 → (b_X10_clear_25 K (sS u_2 2 0) a1)) ∧ (¬ a1 ≤ 0 → (b_X10_clear_25 K (sS (sS u_2 2 0) 1 0) a1)))) ∧ (r_3 = 0 → (K 0 u_2)))

def w_X10_stops (σ : St) (a1 : Int32) (a2 : Int32) (K : Int32 → St → Prop) : Prop :=
  K 0 (sS (sS (sS σ 5 a1) 11 a2) 4 1)

def b_X10_colour_3 (L3 : St → Int32 → Int32 → Int32 → Int32 → Int32 → Prop) (K : Int32 → St → Prop) (σ : St) (x1 : Int32) (x2 : Int32) (x3 : Int32) (x4 : Int32) (x5 : Int32) : Prop :=
  ((gS σ 12) ≤ x5 → ((¬ (gS σ 12) = 600 → (vp_in (gS σ 12) 600 ∧ (vp_in (gS σ 12) 600 ∧ (vp_in (gS σ 12) 600 ∧ (vp_in (gS σ 12) 600 ∧ (K (((gS σ 12) + 1) - 1) (sS (sA (sA (sA (sA σ 10 ((gS σ 12)).toNatClampNeg x1) 11 ((gS σ 12)).toNatClampNeg x2) 12 ((gS σ 12)).toNatClampNeg x3) 13 ((gS σ 12)).toNatClampNeg x4) 12 ((gS σ 12) + 1)))))))) ∧ ((gS σ 12) = 600 → (w_X10_stops σ 2 (-1) (fun (r_6 : Int32) (u_5 : St) => K (-1) u_5))))) ∧ (¬ (gS σ 12) ≤ x5 → (vp_in x5 600 ∧ ((¬ (gA σ 10 (x5).toNatClampNeg) = x1 → (L3 σ x1 x2 x3 x4 (x5 + 1))) ∧ ((gA σ 10 (x5).toNatClampNeg) = x1 → (vp_in x5 600 ∧ ((¬ (gA σ 11 (x5).toNatClampNeg) = x2 → (L3 σ x1 x2 x3 x4 (x5 + 1))) ∧ ((gA σ 11 (x5).toNatClampNeg) = x2 → (vp_in x5 600 ∧ ((¬ (gA σ 12 (x5).toNatClampNeg) = x3 → (L3 σ x1 x2 x3 x4 (x5 + 1))) ∧ ((gA σ 12 (x5).toNatClampNeg) = x3 → (vp_in x5 600 ∧ ((¬ (gA σ 13 (x5).toNatClampNeg) = x4 → (L3 σ x1 x2 x3 x4 (x5 + 1))) ∧ ((gA σ 13 (x5).toNatClampNeg) = x4 → (K x5 σ))))))))))))))

def w_X10_colour_3 (K : Int32 → St → Prop) : Nat → St → Int32 → Int32 → Int32 → Int32 → Int32 → Prop
  | 0 => fun _ _ _ _ _ _ => False
  | n + 1 => fun σ x1 x2 x3 x4 x5 => b_X10_colour_3 (w_X10_colour_3 K n) K σ x1 x2 x3 x4 x5

def w_X10_colour (σ : St) (a1 : Int32) (a2 : Int32) (a3 : Int32) (a4 : Int32) (K : Int32 → St → Prop) : Prop :=
  ∃ n : Nat, w_X10_colour_3 K n σ a1 a2 a3 a4 0

def b_X10_pair_7 (L7 : St → Int32 → Int32 → Int32 → Prop) (K : Int32 → St → Prop) (σ : St) (x1 : Int32) (x2 : Int32) (x3 : Int32) : Prop :=
  (x3 < 0 → ((¬ (gS σ 13) = 3000 → (vp_in (gS σ 13) 3000 ∧ (vp_in (gS σ 13) 3000 ∧ (vp_in (gS σ 13) 3000 ∧ (vp_in (gS σ 13) 3000 ∧ (vp_in x1 80 ∧ (vp_in (gS σ 13) 3000 ∧ (vp_in x1 80 ∧ (K (gS σ 13) (sS (sA (sA (sA (sA (sA (sA σ 14 ((gS σ 13)).toNatClampNeg x1) 15 ((gS σ 13)).toNatClampNeg x2) 16 ((gS σ 13)).toNatClampNeg 0) 17 ((gS σ 13)).toNatClampNeg 0) 18 ((gS σ 13)).toNatClampNeg (gA σ 22 (x1).toNatClampNeg)) 22 (x1).toNatClampNeg (gS σ 13)) 13 ((gS σ 13) + 1))))))))))) ∧ ((gS σ 13) = 3000 → (w_X10_stops σ 2 (-1) (fun (r_9 : Int32) (u_8 : St) => K (-1) u_8))))) ∧ (¬ x3 < 0 → (vp_in x3 3000 ∧ ((¬ (gA σ 15 (x3).toNatClampNeg) = x2 → (vp_in x3 3000 ∧ (L7 σ x1 x2 (gA σ 18 (x3).toNatClampNeg)))) ∧ ((gA σ 15 (x3).toNatClampNeg) = x2 → (K x3 σ)))))

def w_X10_pair_7 (K : Int32 → St → Prop) : Nat → St → Int32 → Int32 → Int32 → Prop
  | 0 => fun _ _ _ _ => False
  | n + 1 => fun σ x1 x2 x3 => b_X10_pair_7 (w_X10_pair_7 K n) K σ x1 x2 x3

def w_X10_pair (σ : St) (a1 : Int32) (a2 : Int32) (K : Int32 → St → Prop) : Prop :=
  vp_in a1 80 ∧ (∃ n : Nat, w_X10_pair_7 K n σ a1 a2 (gA σ 22 (a1).toNatClampNeg))

def w_X10_comes (σ : St) (a1 : Int32) (a2 : Int32) (a3 : Int32) (a4 : Int32) (a5 : Int32) (a6 : Int32) (K : Int32 → St → Prop) : Prop :=
  w_X10_pair σ a1 a3 (fun (r_2 : Int32) (u_1 : St) => (0 ≤ r_2 → (vp_in r_2 3000 ∧ ((¬ (((gA u_1 16 (r_2).toNatClampNeg) >>> (a2 &&& 31)) &&& 1) = 1 → (vp_in r_2 3000 ∧ (vp_in r_2 3000 ∧ (vp_in ((3 * r_2) + a2) 9000 ∧ (vp_in ((3 * r_2) + a2) 9000 ∧ (vp_in ((3 * r_2) + a2) 9000 ∧ (vp_in r_2 3000 ∧ (vp_in a1 80 ∧ (((gA (sA u_1 16 (r_2).toNatClampNeg ((gA u_1 16 (r_2).toNatClampNeg) ||| (1 <<< (a2 &&& 31)))) 16 (r_2).toNatClampNeg) = ((1 <<< ((gA u_1 2 (a1).toNatClampNeg) &&& 31)) - 1) → (vp_in r_2 3000 ∧ (vp_in (gS u_1 14) 3000 ∧ (K 1 (sS (sA (sA (sA (sA (sA (sA u_1 16 (r_2).toNatClampNeg ((gA u_1 16 (r_2).toNatClampNeg) ||| (1 <<< (a2 &&& 31)))) 19 (((3 * r_2) + a2)).toNatClampNeg a4) 20 (((3 * r_2) + a2)).toNatClampNeg a5) 21 (((3 * r_2) + a2)).toNatClampNeg a6) 17 (r_2).toNatClampNeg 1) 24 ((gS u_1 14)).toNatClampNeg r_2) 14 ((gS u_1 14) + 1)))))) ∧ (¬ (gA (sA u_1 16 (r_2).toNatClampNeg ((gA u_1 16 (r_2).toNatClampNeg) ||| (1 <<< (a2 &&& 31)))) 16 (r_2).toNatClampNeg) = ((1 <<< ((gA u_1 2 (a1).toNatClampNeg) &&& 31)) - 1) → (K 1 (sA (sA (sA (sA u_1 16 (r_2).toNatClampNeg ((gA u_1 16 (r_2).toNatClampNeg) ||| (1 <<< (a2 &&& 31)))) 19 (((3 * r_2) + a2)).toNatClampNeg a4) 20 (((3 * r_2) + a2)).toNatClampNeg a5) 21 (((3 * r_2) + a2)).toNatClampNeg a6)))))))))))) ∧ ((((gA u_1 16 (r_2).toNatClampNeg) >>> (a2 &&& 31)) &&& 1) = 1 → (w_X10_stops u_1 1 a1 (fun (r_14 : Int32) (u_13 : St) => K r_14 u_13)))))) ∧ (¬ 0 ≤ r_2 → (K 0 u_1)))

def b_X10_gives_3 (L3 : St → Int32 → Int32 → Int32 → Int32 → Int32 → Int32 → Int32 → Prop) (K : Int32 → St → Prop) (σ : St) (x1 : Int32) (x2 : Int32) (x3 : Int32) (x4 : Int32) (x5 : Int32) (x6 : Int32) (x7 : Int32) : Prop :=
  ((gS σ 1) ≤ x7 → (K 1 σ)) ∧ (¬ (gS σ 1) ≤ x7 → (vp_in x7 300 ∧ ((¬ (gA σ 3 (x7).toNatClampNeg) = x1 → (L3 σ x1 x2 x3 x4 x5 x6 (x7 + 1))) ∧ ((gA σ 3 (x7).toNatClampNeg) = x1 → (vp_in x7 300 ∧ ((¬ (gA σ 4 (x7).toNatClampNeg) = x2 → (L3 σ x1 x2 x3 x4 x5 x6 (x7 + 1))) ∧ ((gA σ 4 (x7).toNatClampNeg) = x2 → (vp_in x7 300 ∧ (vp_in x7 300 ∧ (w_X10_comes σ (gA σ 5 (x7).toNatClampNeg) (gA σ 6 (x7).toNatClampNeg) x3 x4 x5 x6 (fun (r_2 : Int32) (u_1 : St) => (¬ r_2 = 0 → (L3 u_1 x1 x2 x3 x4 x5 x6 (x7 + 1))) ∧ (r_2 = 0 → (K 0 u_1)))))))))))))

def w_X10_gives_3 (K : Int32 → St → Prop) : Nat → St → Int32 → Int32 → Int32 → Int32 → Int32 → Int32 → Int32 → Prop
  | 0 => fun _ _ _ _ _ _ _ _ => False
  | n + 1 => fun σ x1 x2 x3 x4 x5 x6 x7 => b_X10_gives_3 (w_X10_gives_3 K n) K σ x1 x2 x3 x4 x5 x6 x7

def w_X10_gives (σ : St) (a1 : Int32) (a2 : Int32) (a3 : Int32) (a4 : Int32) (a5 : Int32) (a6 : Int32) (K : Int32 → St → Prop) : Prop :=
  ∃ n : Nat, w_X10_gives_3 K n σ a1 a2 a3 a4 a5 a6 0

def w_X10_faults (σ : St) (a1 : Int32) (a2 : Int32) (a3 : Int32) (K : Int32 → St → Prop) : Prop :=
  w_X10_gives σ a1 0 a2 3 a3 a1 (fun (r_2 : Int32) (u_1 : St) => K r_2 u_1)

def w_X10_kindAt (σ : St) (a1 : Int32) (a2 : Int32) (K : Int32 → St → Prop) : Prop :=
  vp_in ((3 * a1) + a2) 9000 ∧ (K (gA σ 19 (((3 * a1) + a2)).toNatClampNeg) σ)

def w_X10_valueAt (σ : St) (a1 : Int32) (a2 : Int32) (K : Int32 → St → Prop) : Prop :=
  vp_in ((3 * a1) + a2) 9000 ∧ (K (gA σ 20 (((3 * a1) + a2)).toNatClampNeg) σ)

def w_X10_passes (σ : St) (a1 : Int32) (a2 : Int32) (a3 : Int32) (K : Int32 → St → Prop) : Prop :=
  vp_in a1 3000 ∧ (vp_in (3 * a1) 9000 ∧ (vp_in (3 * a1) 9000 ∧ (vp_in (3 * a1) 9000 ∧ (w_X10_gives σ (gA σ 14 (a1).toNatClampNeg) a2 a3 (gA σ 19 ((3 * a1)).toNatClampNeg) (gA σ 20 ((3 * a1)).toNatClampNeg) (gA σ 21 ((3 * a1)).toNatClampNeg) (fun (r_2 : Int32) (u_1 : St) => K r_2 u_1)))))

def b_X10_faultOf_2 (L2 : St → Int32 → Int32 → Int32 → Prop) (K : Int32 → St → Prop) (σ : St) (x1 : Int32) (x2 : Int32) (x3 : Int32) : Prop :=
  (x2 ≤ x3 → (K (-1) σ)) ∧ (¬ x2 ≤ x3 → (w_X10_kindAt σ x1 x3 (fun (r_2 : Int32) (u_1 : St) => (¬ r_2 = 3 → (L2 u_1 x1 x2 (x3 + 1))) ∧ (r_2 = 3 → (K x3 u_1)))))

def w_X10_faultOf_2 (K : Int32 → St → Prop) : Nat → St → Int32 → Int32 → Int32 → Prop
  | 0 => fun _ _ _ _ => False
  | n + 1 => fun σ x1 x2 x3 => b_X10_faultOf_2 (w_X10_faultOf_2 K n) K σ x1 x2 x3

def w_X10_faultOf (σ : St) (a1 : Int32) (a2 : Int32) (K : Int32 → St → Prop) : Prop :=
  ∃ n : Nat, w_X10_faultOf_2 K n σ a1 a2 0

def w_X10_number (σ : St) (a1 : Int32) (a2 : Int32) (K : Int32 → St → Prop) : Prop :=
  vp_in a1 3000 ∧ (vp_in a1 3000 ∧ (w_X10_gives σ (gA σ 14 (a1).toNatClampNeg) 0 (gA σ 15 (a1).toNatClampNeg) 1 a2 (-1) (fun (r_2 : Int32) (u_1 : St) => K r_2 u_1)))

def w_X10_switches (σ : St) (a1 : Int32) (K : Int32 → St → Prop) : Prop :=
  w_X10_kindAt σ a1 1 (fun (r_2 : Int32) (u_1 : St) => (r_2 = 1 → (w_X10_valueAt u_1 a1 1 (fun (r_4 : Int32) (u_3 : St) => (r_4 = 0 → (vp_in a1 3000 ∧ (w_X10_passes u_3 a1 1 (gA u_3 15 (a1).toNatClampNeg) (fun (r_6 : Int32) (u_5 : St) => K r_6 u_5)))) ∧ (¬ r_4 = 0 → (vp_in a1 3000 ∧ (w_X10_passes u_3 a1 0 (gA u_3 15 (a1).toNatClampNeg) (fun (r_9 : Int32) (u_8 : St) => K r_9 u_8))))))) ∧ (¬ r_2 = 1 → (K 1 (sS u_1 9 ((gS u_1 9) + 1)))))

def w_X10_loops (σ : St) (a1 : Int32) (K : Int32 → St → Prop) : Prop :=
  vp_in a1 3000 ∧ (vp_in a1 3000 ∧ (vp_in (gA σ 14 (a1).toNatClampNeg) 80 ∧ (vp_in (gA σ 14 (a1).toNatClampNeg) 80 ∧ ((¬ (gA σ 0 ((gA σ 14 (a1).toNatClampNeg)).toNatClampNeg) = 11 → (vp_in (gA σ 15 (a1).toNatClampNeg) 600 ∧ ((¬ (gA σ 10 ((gA σ 15 (a1).toNatClampNeg)).toNatClampNeg) = 1 → (w_X10_faults σ (gA σ 14 (a1).toNatClampNeg) (gA σ 15 (a1).toNatClampNeg) 5 (fun (r_2 : Int32) (u_1 : St) => K r_2 u_1))) ∧ ((gA σ 10 ((gA σ 15 (a1).toNatClampNeg)).toNatClampNeg) = 1 → (vp_in (gA σ 15 (a1).toNatClampNeg) 600 ∧ (((gA σ 11 ((gA σ 15 (a1).toNatClampNeg)).toNatClampNeg) = (gA σ 1 ((gA σ 14 (a1).toNatClampNeg)).toNatClampNeg) → (vp_in (gA σ 14 (a1).toNatClampNeg) 80 ∧ ((¬ (gA σ 0 ((gA σ 14 (a1).toNatClampNeg)).toNatClampNeg) = 13 → (vp_in (gA σ 15 (a1).toNatClampNeg) 600 ∧ (vp_in (gA σ 15 (a1).toNatClampNeg) 600 ∧ (w_X10_colour σ 1 (gA σ 1 ((gA σ 14 (a1).toNatClampNeg)).toNatClampNeg) ((gA σ 12 ((gA σ 15 (a1).toNatClampNeg)).toNatClampNeg) + 1) (gA σ 13 ((gA σ 15 (a1).toNatClampNeg)).toNatClampNeg) (fun (r_4 : Int32) (u_3 : St) => (r_4 < 0 → (K 0 u_3)) ∧ (¬ r_4 < 0 → (w_X10_passes u_3 a1 0 r_4 (fun (r_6 : Int32) (u_5 : St) => (r_6 = 0 → (K 0 u_5)) ∧ (¬ r_6 = 0 → (K 1 u_5)))))))))) ∧ ((gA σ 0 ((gA σ 14 (a1).toNatClampNeg)).toNatClampNeg) = 13 → (vp_in (gA σ 15 (a1).toNatClampNeg) 600 ∧ (w_X10_passes σ a1 0 (gA σ 13 ((gA σ 15 (a1).toNatClampNeg)).toNatClampNeg) (fun (r_12 : Int32) (u_11 : St) => K r_12 u_11))))))) ∧ (¬ (gA σ 11 ((gA σ 15 (a1).toNatClampNeg)).toNatClampNeg) = (gA σ 1 ((gA σ 14 (a1).toNatClampNeg)).toNatClampNeg) → (w_X10_faults σ (gA σ 14 (a1).toNatClampNeg) (gA σ 15 (a1).toNatClampNeg) 5 (fun (r_17 : Int32) (u_16 : St) => K r_17 u_16))))))))) ∧ ((gA σ 0 ((gA σ 14 (a1).toNatClampNeg)).toNatClampNeg) = 11 → (w_X10_colour σ 1 (gA σ 1 ((gA σ 14 (a1).toNatClampNeg)).toNatClampNeg) 0 (gA σ 15 (a1).toNatClampNeg) (fun (r_23 : Int32) (u_22 : St) => (r_23 < 0 → (K 0 u_22)) ∧ (¬ r_23 < 0 → (w_X10_passes u_22 a1 0 r_23 (fun (r_25 : Int32) (u_24 : St) => (r_25 = 0 → (K 0 u_24)) ∧ (¬ r_25 = 0 → (K 1 u_24))))))))))))

def b_X10_calls_93 (L30 : St → Int32 → Int32 → Int32 → Int32 → Prop) (K : Int32 → St → Prop) (σ : St) (x1 : Int32) (x2 : Int32) (x3 : Int32) (x4 : Int32) (x5 : Int32) : Prop :=
  ((gS σ 0) ≤ x5 → (L30 σ x1 x2 x3 (x4 + 1))) ∧ (¬ (gS σ 0) ≤ x5 → (vp_in ((3 * x1) + x4) 9000 ∧ (vp_in ((3 * x1) + x4) 9000 ∧ (vp_in ((3 * x1) + x4) 9000 ∧ (w_X10_comes σ x5 0 x3 (gA σ 19 (((3 * x1) + x4)).toNatClampNeg) (gA σ 20 (((3 * x1) + x4)).toNatClampNeg) (gA σ 21 (((3 * x1) + x4)).toNatClampNeg) (fun (r_2 : Int32) (u_1 : St) => (¬ r_2 = 0 → (L30 u_1 x1 x2 x3 (x4 + 1))) ∧ (r_2 = 0 → (K 0 u_1))))))))

def b_X10_calls_44 (L30 : St → Int32 → Int32 → Int32 → Int32 → Prop) (L44 : St → Int32 → Int32 → Int32 → Int32 → Int32 → Prop) (K : Int32 → St → Prop) (σ : St) (x1 : Int32) (x2 : Int32) (x3 : Int32) (x4 : Int32) (x5 : Int32) : Prop :=
  ((gS σ 0) ≤ x5 → (b_X10_calls_93 L30 K σ x1 x2 x3 x4 x5)) ∧ (¬ (gS σ 0) ≤ x5 → (vp_in x5 80 ∧ ((¬ (gA σ 0 (x5).toNatClampNeg) = 15 → (L44 σ x1 x2 x3 x4 (x5 + 1))) ∧ ((gA σ 0 (x5).toNatClampNeg) = 15 → (vp_in x5 80 ∧ (vp_in x2 80 ∧ (((gA σ 1 (x5).toNatClampNeg) = ((10 * (gA σ 1 (x2).toNatClampNeg)) + x4) → (b_X10_calls_93 L30 K σ x1 x2 x3 x4 x5)) ∧ (¬ (gA σ 1 (x5).toNatClampNeg) = ((10 * (gA σ 1 (x2).toNatClampNeg)) + x4) → (L44 σ x1 x2 x3 x4 (x5 + 1))))))))))

def w_X10_calls_44 (L30 : St → Int32 → Int32 → Int32 → Int32 → Prop) (K : Int32 → St → Prop) : Nat → St → Int32 → Int32 → Int32 → Int32 → Int32 → Prop
  | 0 => fun _ _ _ _ _ _ => False
  | n + 1 => fun σ x1 x2 x3 x4 x5 => b_X10_calls_44 L30 (w_X10_calls_44 L30 K n) K σ x1 x2 x3 x4 x5

def b_X10_calls_30 (L30 : St → Int32 → Int32 → Int32 → Int32 → Prop) (K : Int32 → St → Prop) (σ : St) (x1 : Int32) (x2 : Int32) (x3 : Int32) (x4 : Int32) : Prop :=
  vp_in x2 80 ∧ (((gA σ 2 (x2).toNatClampNeg) ≤ x4 → (K 1 σ)) ∧ (¬ (gA σ 2 (x2).toNatClampNeg) ≤ x4 → (∃ n : Nat, w_X10_calls_44 L30 K n σ x1 x2 x3 x4 0)))

def w_X10_calls_30 (K : Int32 → St → Prop) : Nat → St → Int32 → Int32 → Int32 → Int32 → Prop
  | 0 => fun _ _ _ _ _ => False
  | n + 1 => fun σ x1 x2 x3 x4 => b_X10_calls_30 (w_X10_calls_30 K n) K σ x1 x2 x3 x4

def w_X10_calls (σ : St) (a1 : Int32) (K : Int32 → St → Prop) : Prop :=
  vp_in a1 3000 ∧ (vp_in a1 3000 ∧ (w_X10_colour σ 2 (gA σ 14 (a1).toNatClampNeg) 0 (gA σ 15 (a1).toNatClampNeg) (fun (r_18 : Int32) (u_17 : St) => (0 ≤ r_18 → (∃ n : Nat, w_X10_calls_30 K n u_17 a1 (gA σ 14 (a1).toNatClampNeg) r_18 0)) ∧ (¬ 0 ≤ r_18 → (K 0 u_17)))))

def w_X10_returns (σ : St) (a1 : Int32) (K : Int32 → St → Prop) : Prop :=
  vp_in a1 3000 ∧ (vp_in (gA σ 15 (a1).toNatClampNeg) 600 ∧ (((gA σ 10 ((gA σ 15 (a1).toNatClampNeg)).toNatClampNeg) = 2 → (vp_in (gA σ 15 (a1).toNatClampNeg) 600 ∧ (vp_in (gA σ 15 (a1).toNatClampNeg) 600 ∧ (vp_in (3 * a1) 9000 ∧ (vp_in (3 * a1) 9000 ∧ (vp_in (3 * a1) 9000 ∧ (w_X10_gives σ (gA σ 11 ((gA σ 15 (a1).toNatClampNeg)).toNatClampNeg) 0 (gA σ 13 ((gA σ 15 (a1).toNatClampNeg)).toNatClampNeg) (gA σ 19 ((3 * a1)).toNatClampNeg) (gA σ 20 ((3 * a1)).toNatClampNeg) (gA σ 21 ((3 * a1)).toNatClampNeg) (fun (r_2 : Int32) (u_1 : St) => K r_2 u_1)))))))) ∧ (¬ (gA σ 10 ((gA σ 15 (a1).toNatClampNeg)).toNatClampNeg) = 2 → (K 1 (sS σ 9 ((gS σ 9) + 1))))))

def w_X10_ends (σ : St) (a1 : Int32) (K : Int32 → St → Prop) : Prop :=
  vp_in a1 3000 ∧ (vp_in (gA σ 14 (a1).toNatClampNeg) 80 ∧ (vp_in a1 3000 ∧ (((gA σ 15 (a1).toNatClampNeg) = 0 → (vp_in (gA σ 1 ((gA σ 14 (a1).toNatClampNeg)).toNatClampNeg) 10 ∧ (((gA σ 34 ((gA σ 1 ((gA σ 14 (a1).toNatClampNeg)).toNatClampNeg)).toNatClampNeg) ≤ 0 → (vp_in (3 * a1) 9000 ∧ (vp_in (gA σ 1 ((gA σ 14 (a1).toNatClampNeg)).toNatClampNeg) 10 ∧ (vp_in (3 * a1) 9000 ∧ (vp_in (gA σ 1 ((gA σ 14 (a1).toNatClampNeg)).toNatClampNeg) 10 ∧ (vp_in (3 * a1) 9000 ∧ (vp_in (gA σ 1 ((gA σ 14 (a1).toNatClampNeg)).toNatClampNeg) 10 ∧ (K 1 (sA (sA (sA σ 34 ((gA σ 1 ((gA σ 14 (a1).toNatClampNeg)).toNatClampNeg)).toNatClampNeg (gA σ 19 ((3 * a1)).toNatClampNeg)) 35 ((gA σ 1 ((gA σ 14 (a1).toNatClampNeg)).toNatClampNeg)).toNatClampNeg (gA σ 20 ((3 * a1)).toNatClampNeg)) 36 ((gA σ 1 ((gA σ 14 (a1).toNatClampNeg)).toNatClampNeg)).toNatClampNeg (gA σ 21 ((3 * a1)).toNatClampNeg)))))))))) ∧ (¬ (gA σ 34 ((gA σ 1 ((gA σ 14 (a1).toNatClampNeg)).toNatClampNeg)).toNatClampNeg) ≤ 0 → (vp_in a1 3000 ∧ (w_X10_stops σ 1 (gA σ 14 (a1).toNatClampNeg) (fun (r_8 : Int32) (u_7 : St) => K r_8 u_7))))))) ∧ (¬ (gA σ 15 (a1).toNatClampNeg) = 0 → (K 1 (sS σ 10 ((gS σ 10) + 1)))))))

def b_X10_makes_113 (L113 : St → Int32 → Int32 → Int32 → Prop) (K : Int32 → St → Prop) (σ : St) (x1 : Int32) (x2 : Int32) (x3 : Int32) : Prop :=
  (x2 ≤ x3 → (vp_in x1 3000 ∧ (vp_in x1 3000 ∧ (w_X10_gives (sS (sS σ 16 ((gS σ 16) + x2)) 15 ((gS σ 15) + 1)) (gA σ 14 (x1).toNatClampNeg) 0 (gA σ 15 (x1).toNatClampNeg) 2 (((gS σ 15) + 1) - 1) (-1) (fun (r_2 : Int32) (u_1 : St) => K r_2 u_1))))) ∧ (¬ x2 ≤ x3 → (vp_in ((gS σ 16) + x3) 2000 ∧ (L113 (sA σ 29 (((gS σ 16) + x3)).toNatClampNeg 0) x1 x2 (x3 + 1))))

def w_X10_makes_113 (K : Int32 → St → Prop) : Nat → St → Int32 → Int32 → Int32 → Prop
  | 0 => fun _ _ _ _ => False
  | n + 1 => fun σ x1 x2 x3 => b_X10_makes_113 (w_X10_makes_113 K n) K σ x1 x2 x3

def w_X10_makes (σ : St) (a1 : Int32) (a2 : Int32) (K : Int32 → St → Prop) : Prop :=
  w_X10_in σ a2 0 200 (fun (r_8 : Int32) (u_7 : St) => (¬ r_8 = 0 → (((gS u_7 15) = 300 → (w_X10_stops u_7 2 (-1) (fun (r_10 : Int32) (u_9 : St) => K r_10 u_9))) ∧ (¬ (gS u_7 15) = 300 → ((((gS u_7 16) + a2) ≤ 2000 → (vp_in (gS u_7 15) 300 ∧ (vp_in (gS u_7 15) 300 ∧ (vp_in a1 3000 ∧ (vp_in (gS u_7 15) 300 ∧ (vp_in a1 3000 ∧ (vp_in (gS u_7 15) 300 ∧ (∃ n : Nat, w_X10_makes_113 K n (sA (sA (sA (sA u_7 25 ((gS u_7 15)).toNatClampNeg (gS u_7 16)) 26 ((gS u_7 15)).toNatClampNeg a2) 27 ((gS u_7 15)).toNatClampNeg (gA u_7 14 (a1).toNatClampNeg)) 28 ((gS u_7 15)).toNatClampNeg (gA u_7 15 (a1).toNatClampNeg)) a1 a2 0)))))))) ∧ (¬ ((gS u_7 16) + a2) ≤ 2000 → (w_X10_stops u_7 2 (-1) (fun (r_19 : Int32) (u_18 : St) => K r_19 u_18))))))) ∧ (r_8 = 0 → (vp_in a1 3000 ∧ (vp_in a1 3000 ∧ (w_X10_faults u_7 (gA u_7 14 (a1).toNatClampNeg) (gA u_7 15 (a1).toNatClampNeg) 3 (fun (r_23 : Int32) (u_22 : St) => K r_23 u_22))))))

def b_X10_reckons_82 (L82 : St → Int32 → Int32 → Int32 → Int32 → Int32 → Int32 → Int32 → Prop) (K : Int32 → St → Prop) (σ : St) (x1 : Int32) (x2 : Int32) (x3 : Int32) (x4 : Int32) (x5 : Int32) (x6 : Int32) (x7 : Int32) : Prop :=
  vp_in x3 80 ∧ (((gA σ 2 (x3).toNatClampNeg) ≤ x7 → (((x2 = 2) → (w_X10_number σ x1 (x5 + x6) (fun (r_3 : Int32) (u_2 : St) => K r_3 u_2))) ∧ (¬ (x2 = 2) → (((x2 = 3) → (w_X10_number σ x1 (x5 - x6) (fun (r_6 : Int32) (u_5 : St) => K r_6 u_5))) ∧ (¬ (x2 = 3) → (((x2 = 4) → (w_X10_number σ x1 (x5 * x6) (fun (r_9 : Int32) (u_8 : St) => K r_9 u_8))) ∧ (¬ (x2 = 4) → (((x2 = 5) → ((¬ x6 = 0 → (¬ x6 = 0 ∧ (w_X10_number σ x1 (x5 / x6) (fun (r_12 : Int32) (u_11 : St) => K r_12 u_11)))) ∧ (x6 = 0 → (w_X10_faults σ x3 x4 1 (fun (r_15 : Int32) (u_14 : St) => K r_15 u_14))))) ∧ (¬ (x2 = 5) → (((x2 = 6) → ((¬ x6 = 0 → (¬ x6 = 0 ∧ (w_X10_number σ x1 (x5 - x5 / x6 * x6) (fun (r_19 : Int32) (u_18 : St) => K r_19 u_18)))) ∧ (x6 = 0 → (w_X10_faults σ x3 x4 1 (fun (r_22 : Int32) (u_21 : St) => K r_22 u_21))))) ∧ (¬ (x2 = 6) → (((x2 = 7) → ((x6 ≤ x5 → (w_X10_number σ x1 0 (fun (r_26 : Int32) (u_25 : St) => K r_26 u_25))) ∧ (¬ x6 ≤ x5 → (w_X10_number σ x1 1 (fun (r_28 : Int32) (u_27 : St) => K r_28 u_27))))) ∧ (¬ (x2 = 7) → (((x2 = 9) → ((¬ x5 = 0 → (w_X10_number σ x1 0 (fun (r_32 : Int32) (u_31 : St) => K r_32 u_31))) ∧ (x5 = 0 → (w_X10_number σ x1 1 (fun (r_34 : Int32) (u_33 : St) => K r_34 u_33))))) ∧ (¬ (x2 = 9) → (w_X10_makes σ x1 x5 (fun (r_37 : Int32) (u_36 : St) => K r_37 u_36))))))))))))))))) ∧ (¬ (gA σ 2 (x3).toNatClampNeg) ≤ x7 → (w_X10_kindAt σ x1 x7 (fun (r_54 : Int32) (u_53 : St) => (r_54 = 1 → (L82 u_53 x1 x2 x3 x4 x5 x6 (x7 + 1))) ∧ (¬ r_54 = 1 → (w_X10_faults u_53 x3 x4 4 (fun (r_56 : Int32) (u_55 : St) => K r_56 u_55)))))))

def w_X10_reckons_82 (K : Int32 → St → Prop) : Nat → St → Int32 → Int32 → Int32 → Int32 → Int32 → Int32 → Int32 → Prop
  | 0 => fun _ _ _ _ _ _ _ _ => False
  | n + 1 => fun σ x1 x2 x3 x4 x5 x6 x7 => b_X10_reckons_82 (w_X10_reckons_82 K n) K σ x1 x2 x3 x4 x5 x6 x7

def w_X10_reckons (σ : St) (a1 : Int32) (a2 : Int32) (K : Int32 → St → Prop) : Prop :=
  vp_in a1 3000 ∧ (vp_in a1 3000 ∧ (w_X10_valueAt σ a1 0 (fun (r_61 : Int32) (u_60 : St) => w_X10_valueAt u_60 a1 1 (fun (r_63 : Int32) (u_62 : St) => (¬ a2 = 8 → (∃ n : Nat, w_X10_reckons_82 K n u_62 a1 a2 (gA σ 14 (a1).toNatClampNeg) (gA σ 15 (a1).toNatClampNeg) r_61 r_63 0)) ∧ (a2 = 8 → (w_X10_kindAt u_62 a1 0 (fun (r_66 : Int32) (u_65 : St) => w_X10_kindAt u_65 a1 1 (fun (r_68 : Int32) (u_67 : St) => (r_66 = r_68 → ((¬ r_61 = r_63 → (w_X10_number u_67 a1 0 (fun (r_70 : Int32) (u_69 : St) => K r_70 u_69))) ∧ (r_61 = r_63 → (w_X10_number u_67 a1 1 (fun (r_72 : Int32) (u_71 : St) => K r_72 u_71))))) ∧ (¬ r_66 = r_68 → (w_X10_faults u_67 (gA σ 14 (a1).toNatClampNeg) (gA σ 15 (a1).toNatClampNeg) 4 (fun (r_75 : Int32) (u_74 : St) => K r_75 u_74)))))))))))

def b_X10_cells_266 (L266 : St → Int32 → Int32 → Int32 → Int32 → Prop) (K : Int32 → St → Prop) (σ : St) (x3 : Int32) (x4 : Int32) (x7 : Int32) (x8 : Int32) : Prop :=
  ((gS σ 17) ≤ x8 → (vp_in x7 2000 ∧ (vp_in x7 2000 ∧ (vp_in x7 2000 ∧ (w_X10_gives σ x3 0 x4 (gA σ 29 (x7).toNatClampNeg) (gA σ 30 (x7).toNatClampNeg) (gA σ 31 (x7).toNatClampNeg) (fun (r_2 : Int32) (u_1 : St) => K r_2 u_1)))))) ∧ (¬ (gS σ 17) ≤ x8 → (vp_in x8 3000 ∧ (((gA σ 32 (x8).toNatClampNeg) = x7 → (vp_in x8 3000 ∧ (vp_in x8 3000 ∧ (vp_in (gA σ 33 (x8).toNatClampNeg) 3000 ∧ (vp_in (gA σ 33 (x8).toNatClampNeg) 3000 ∧ (vp_in x7 2000 ∧ (vp_in x7 2000 ∧ (vp_in x7 2000 ∧ (w_X10_gives (sA σ 32 (x8).toNatClampNeg (-1)) (gA σ 14 ((gA σ 33 (x8).toNatClampNeg)).toNatClampNeg) 0 (gA σ 15 ((gA σ 33 (x8).toNatClampNeg)).toNatClampNeg) (gA σ 29 (x7).toNatClampNeg) (gA σ 30 (x7).toNatClampNeg) (gA σ 31 (x7).toNatClampNeg) (fun (r_7 : Int32) (u_6 : St) => (¬ r_7 = 0 → (L266 u_6 x3 x4 x7 (x8 + 1))) ∧ (r_7 = 0 → (K 0 u_6)))))))))))) ∧ (¬ (gA σ 32 (x8).toNatClampNeg) = x7 → (L266 σ x3 x4 x7 (x8 + 1))))))

def w_X10_cells_266 (K : Int32 → St → Prop) : Nat → St → Int32 → Int32 → Int32 → Int32 → Prop
  | 0 => fun _ _ _ _ _ => False
  | n + 1 => fun σ x3 x4 x7 x8 => b_X10_cells_266 (w_X10_cells_266 K n) K σ x3 x4 x7 x8

def b_X10_cells_50 (K : Int32 → St → Prop) (σ : St) (x1 : Int32) (x2 : Int32) (x3 : Int32) (x4 : Int32) : Prop :=
  w_X10_valueAt σ x1 0 (fun (r_20 : Int32) (u_19 : St) => (¬ x2 = 20 → (w_X10_valueAt u_19 x1 1 (fun (r_22 : Int32) (u_21 : St) => vp_in r_20 300 ∧ (w_X10_in u_21 r_22 0 ((gA u_21 26 (r_20).toNatClampNeg) - 1) (fun (r_24 : Int32) (u_23 : St) => (¬ r_24 = 0 → (vp_in r_20 300 ∧ ((¬ x2 = 18 → (vp_in ((gA u_23 25 (r_20).toNatClampNeg) + r_22) 2000 ∧ (((gA u_23 29 (((gA u_23 25 (r_20).toNatClampNeg) + r_22)).toNatClampNeg) ≤ 0 → (w_X10_kindAt u_23 x1 2 (fun (r_26 : Int32) (u_25 : St) => vp_in ((gA u_23 25 (r_20).toNatClampNeg) + r_22) 2000 ∧ (w_X10_valueAt (sA u_25 29 (((gA u_23 25 (r_20).toNatClampNeg) + r_22)).toNatClampNeg r_26) x1 2 (fun (r_28 : Int32) (u_27 : St) => vp_in ((gA u_23 25 (r_20).toNatClampNeg) + r_22) 2000 ∧ (vp_in ((3 * x1) + 2) 9000 ∧ (vp_in ((gA u_23 25 (r_20).toNatClampNeg) + r_22) 2000 ∧ (∃ n : Nat, w_X10_cells_266 K n (sA (sA u_27 30 (((gA u_23 25 (r_20).toNatClampNeg) + r_22)).toNatClampNeg r_28) 31 (((gA u_23 25 (r_20).toNatClampNeg) + r_22)).toNatClampNeg (gA u_27 21 (((3 * x1) + 2)).toNatClampNeg)) x3 x4 ((gA u_23 25 (r_20).toNatClampNeg) + r_22) 0)))))))) ∧ (¬ (gA u_23 29 (((gA u_23 25 (r_20).toNatClampNeg) + r_22)).toNatClampNeg) ≤ 0 → (w_X10_stops u_23 1 x3 (fun (r_35 : Int32) (u_34 : St) => K r_35 u_34)))))) ∧ (x2 = 18 → (vp_in ((gA u_23 25 (r_20).toNatClampNeg) + r_22) 2000 ∧ (((gA u_23 29 (((gA u_23 25 (r_20).toNatClampNeg) + r_22)).toNatClampNeg) ≤ 0 → (vp_in (gS u_23 17) 3000 ∧ (vp_in (gS u_23 17) 3000 ∧ (K 1 (sS (sA (sA u_23 32 ((gS u_23 17)).toNatClampNeg ((gA u_23 25 (r_20).toNatClampNeg) + r_22)) 33 ((gS u_23 17)).toNatClampNeg x1) 17 ((gS u_23 17) + 1)))))) ∧ (¬ (gA u_23 29 (((gA u_23 25 (r_20).toNatClampNeg) + r_22)).toNatClampNeg) ≤ 0 → (vp_in ((gA u_23 25 (r_20).toNatClampNeg) + r_22) 2000 ∧ (vp_in ((gA u_23 25 (r_20).toNatClampNeg) + r_22) 2000 ∧ (vp_in ((gA u_23 25 (r_20).toNatClampNeg) + r_22) 2000 ∧ (w_X10_gives u_23 x3 0 x4 (gA u_23 29 (((gA u_23 25 (r_20).toNatClampNeg) + r_22)).toNatClampNeg) (gA u_23 30 (((gA u_23 25 (r_20).toNatClampNeg) + r_22)).toNatClampNeg) (gA u_23 31 (((gA u_23 25 (r_20).toNatClampNeg) + r_22)).toNatClampNeg) (fun (r_41 : Int32) (u_40 : St) => K r_41 u_40)))))))))))) ∧ (r_24 = 0 → (w_X10_faults u_23 x3 x4 2 (fun (r_50 : Int32) (u_49 : St) => K r_50 u_49)))))))) ∧ (x2 = 20 → (vp_in r_20 300 ∧ (w_X10_number u_19 x1 (gA u_19 26 (r_20).toNatClampNeg) (fun (r_54 : Int32) (u_53 : St) => K r_54 u_53)))))

def w_X10_cells (σ : St) (a1 : Int32) (a2 : Int32) (K : Int32 → St → Prop) : Prop :=
  vp_in a1 3000 ∧ (vp_in a1 3000 ∧ (w_X10_kindAt σ a1 0 (fun (r_58 : Int32) (u_57 : St) => (¬ r_58 = 2 → (w_X10_faults u_57 (gA σ 14 (a1).toNatClampNeg) (gA σ 15 (a1).toNatClampNeg) 4 (fun (r_60 : Int32) (u_59 : St) => K r_60 u_59))) ∧ (r_58 = 2 → ((a2 = 20 → (b_X10_cells_50 K u_57 a1 a2 (gA σ 14 (a1).toNatClampNeg) (gA σ 15 (a1).toNatClampNeg))) ∧ (¬ a2 = 20 → (w_X10_kindAt u_57 a1 1 (fun (r_62 : Int32) (u_61 : St) => (r_62 = 1 → (b_X10_cells_50 K u_61 a1 a2 (gA σ 14 (a1).toNatClampNeg) (gA σ 15 (a1).toNatClampNeg))) ∧ (¬ r_62 = 1 → (w_X10_faults u_61 (gA σ 14 (a1).toNatClampNeg) (gA σ 15 (a1).toNatClampNeg) 4 (fun (r_64 : Int32) (u_63 : St) => K r_64 u_63)))))))))))

def b_X10_goesOff_197 (K : Int32 → St → Prop) (σ : St) (x1 : Int32) (x2 : Int32) (x3 : Int32) (x4 : Int32) (t1 : Int32) (t2 : Int32) : Prop :=
  w_X10_faultOf σ t1 t2 (fun (r_2 : Int32) (u_1 : St) => (r_2 < 0 → ((x4 ≤ 9 → (w_X10_reckons u_1 x1 x4 (fun (r_4 : Int32) (u_3 : St) => K r_4 u_3))) ∧ (¬ x4 ≤ 9 → ((¬ x4 = 17 → (w_X10_cells u_1 x1 x4 (fun (r_6 : Int32) (u_5 : St) => K r_6 u_5))) ∧ (x4 = 17 → (w_X10_reckons u_1 x1 x4 (fun (r_8 : Int32) (u_7 : St) => K r_8 u_7))))))) ∧ (¬ r_2 < 0 → (vp_in ((3 * x1) + r_2) 9000 ∧ (vp_in ((3 * x1) + r_2) 9000 ∧ (w_X10_gives u_1 x2 0 x3 3 (gA u_1 20 (((3 * x1) + r_2)).toNatClampNeg) (gA u_1 21 (((3 * x1) + r_2)).toNatClampNeg) (fun (r_12 : Int32) (u_11 : St) => K r_12 u_11))))))

def w_X10_goesOff (σ : St) (a1 : Int32) (K : Int32 → St → Prop) : Prop :=
  vp_in a1 3000 ∧ (vp_in a1 3000 ∧ (vp_in (gA σ 14 (a1).toNatClampNeg) 80 ∧ ((((gA σ 0 ((gA σ 14 (a1).toNatClampNeg)).toNatClampNeg) = 0 ∨ (gA σ 0 ((gA σ 14 (a1).toNatClampNeg)).toNatClampNeg) = 15) → (w_X10_passes σ a1 0 (gA σ 15 (a1).toNatClampNeg) (fun (r_18 : Int32) (u_17 : St) => K r_18 u_17))) ∧ (¬ ((gA σ 0 ((gA σ 14 (a1).toNatClampNeg)).toNatClampNeg) = 0 ∨ (gA σ 0 ((gA σ 14 (a1).toNatClampNeg)).toNatClampNeg) = 15) → ((((gA σ 0 ((gA σ 14 (a1).toNatClampNeg)).toNatClampNeg) = 1) → (vp_in (gA σ 14 (a1).toNatClampNeg) 80 ∧ (w_X10_number σ a1 (gA σ 1 ((gA σ 14 (a1).toNatClampNeg)).toNatClampNeg) (fun (r_21 : Int32) (u_20 : St) => K r_21 u_20)))) ∧ (¬ ((gA σ 0 ((gA σ 14 (a1).toNatClampNeg)).toNatClampNeg) = 1) → ((((gA σ 0 ((gA σ 14 (a1).toNatClampNeg)).toNatClampNeg) = 10) → (w_X10_switches σ a1 (fun (r_25 : Int32) (u_24 : St) => K r_25 u_24))) ∧ (¬ ((gA σ 0 ((gA σ 14 (a1).toNatClampNeg)).toNatClampNeg) = 10) → ((((gA σ 0 ((gA σ 14 (a1).toNatClampNeg)).toNatClampNeg) = 11 ∨ (gA σ 0 ((gA σ 14 (a1).toNatClampNeg)).toNatClampNeg) = 12 ∨ (gA σ 0 ((gA σ 14 (a1).toNatClampNeg)).toNatClampNeg) = 13) → (w_X10_loops σ a1 (fun (r_28 : Int32) (u_27 : St) => K r_28 u_27))) ∧ (¬ ((gA σ 0 ((gA σ 14 (a1).toNatClampNeg)).toNatClampNeg) = 11 ∨ (gA σ 0 ((gA σ 14 (a1).toNatClampNeg)).toNatClampNeg) = 12 ∨ (gA σ 0 ((gA σ 14 (a1).toNatClampNeg)).toNatClampNeg) = 13) → ((((gA σ 0 ((gA σ 14 (a1).toNatClampNeg)).toNatClampNeg) = 14) → (w_X10_calls σ a1 (fun (r_31 : Int32) (u_30 : St) => K r_31 u_30))) ∧ (¬ ((gA σ 0 ((gA σ 14 (a1).toNatClampNeg)).toNatClampNeg) = 14) → ((((gA σ 0 ((gA σ 14 (a1).toNatClampNeg)).toNatClampNeg) = 16) → (w_X10_returns σ a1 (fun (r_34 : Int32) (u_33 : St) => K r_34 u_33))) ∧ (¬ ((gA σ 0 ((gA σ 14 (a1).toNatClampNeg)).toNatClampNeg) = 16) → ((((gA σ 0 ((gA σ 14 (a1).toNatClampNeg)).toNatClampNeg) = 21) → (w_X10_ends σ a1 (fun (r_37 : Int32) (u_36 : St) => K r_37 u_36))) ∧ (¬ ((gA σ 0 ((gA σ 14 (a1).toNatClampNeg)).toNatClampNeg) = 21) → ((¬ (gA σ 0 ((gA σ 14 (a1).toNatClampNeg)).toNatClampNeg) = 19 → (vp_in (gA σ 14 (a1).toNatClampNeg) 80 ∧ (b_X10_goesOff_197 K σ a1 (gA σ 14 (a1).toNatClampNeg) (gA σ 15 (a1).toNatClampNeg) (gA σ 0 ((gA σ 14 (a1).toNatClampNeg)).toNatClampNeg) a1 (gA σ 2 ((gA σ 14 (a1).toNatClampNeg)).toNatClampNeg)))) ∧ ((gA σ 0 ((gA σ 14 (a1).toNatClampNeg)).toNatClampNeg) = 19 → (b_X10_goesOff_197 K σ a1 (gA σ 14 (a1).toNatClampNeg) (gA σ 15 (a1).toNatClampNeg) (gA σ 0 ((gA σ 14 (a1).toNatClampNeg)).toNatClampNeg) a1 2)))))))))))))))))))

def b_X10_begins_135 (L135 : St → Int32 → Int32 → Prop) (K : St → Prop) (σ : St) (x1 : Int32) (x2 : Int32) : Prop :=
  ((gS σ 2) ≤ x2 → (K σ)) ∧ (¬ (gS σ 2) ≤ x2 → ((¬ (gS σ 4) = 0 → (K σ)) ∧ ((gS σ 4) = 0 → (vp_in x2 40 ∧ (vp_in x2 40 ∧ (vp_in x2 40 ∧ (w_X10_comes σ (gA σ 7 (x2).toNatClampNeg) (gA σ 8 (x2).toNatClampNeg) x1 1 (gA σ 9 (x2).toNatClampNeg) (-1) (fun (r_2 : Int32) (u_1 : St) => L135 u_1 x1 (x2 + 1)))))))))

def w_X10_begins_135 (K : St → Prop) : Nat → St → Int32 → Int32 → Prop
  | 0 => fun _ _ _ => False
  | n + 1 => fun σ x1 x2 => b_X10_begins_135 (w_X10_begins_135 K n) K σ x1 x2

def b_X10_begins_105 (L105 : St → Int32 → Prop) (K : St → Prop) (σ : St) (x1 : Int32) : Prop :=
  (10 ≤ x1 → (w_X10_colour σ 0 0 0 0 (fun (r_9 : Int32) (u_8 : St) => ∃ n : Nat, w_X10_begins_135 K n u_8 r_9 0))) ∧ (¬ 10 ≤ x1 → (vp_in x1 10 ∧ (L105 (sA σ 34 (x1).toNatClampNeg 0) (x1 + 1))))

def w_X10_begins_105 (K : St → Prop) : Nat → St → Int32 → Prop
  | 0 => fun _ _ => False
  | n + 1 => fun σ x1 => b_X10_begins_105 (w_X10_begins_105 K n) K σ x1

def b_X10_begins_77 (L77 : St → Int32 → Prop) (K : St → Prop) (σ : St) (x1 : Int32) : Prop :=
  (80 ≤ x1 → (∃ n : Nat, w_X10_begins_105 K n σ 0)) ∧ (¬ 80 ≤ x1 → (vp_in x1 80 ∧ (vp_in x1 80 ∧ (L77 (sA (sA σ 22 (x1).toNatClampNeg (-1)) 23 (x1).toNatClampNeg 0) (x1 + 1)))))

def w_X10_begins_77 (K : St → Prop) : Nat → St → Int32 → Prop
  | 0 => fun _ _ => False
  | n + 1 => fun σ x1 => b_X10_begins_77 (w_X10_begins_77 K n) K σ x1

def w_X10_begins (σ : St) (K : St → Prop) : Prop :=
  ∃ n : Nat, w_X10_begins_77 K n (sS (sS (sS (sS (sS (sS (sS (sS (sS (sS (sS (sS (sS (sS (sS σ 3 1) 4 0) 5 0) 6 0) 7 0) 8 0) 9 0) 10 0) 11 (-1)) 12 0) 13 0) 14 0) 15 0) 16 0) 17 0) 0

def b_X10_stepped_11 (L11 : St → Int32 → Int32 → Prop) (K : St → Prop) (σ : St) (x2 : Int32) (x3 : Int32) : Prop :=
  ((gS σ 14) ≤ x3 → (vp_in x2 3000 ∧ (vp_in x2 3000 ∧ (vp_in (gA σ 14 (x2).toNatClampNeg) 80 ∧ (vp_in (gA σ 14 (x2).toNatClampNeg) 80 ∧ (w_X10_goesOff (sA (sS (sA (sS σ 14 ((gS σ 14) - 1)) 17 (x2).toNatClampNeg 2) 6 ((gS σ 6) + 1)) 23 ((gA σ 14 (x2).toNatClampNeg)).toNatClampNeg ((gA σ 23 ((gA σ 14 (x2).toNatClampNeg)).toNatClampNeg) + 1)) x2 (fun (r_2 : Int32) (u_1 : St) => K u_1))))))) ∧ (¬ (gS σ 14) ≤ x3 → (vp_in x3 3000 ∧ (vp_in (x3 - 1) 3000 ∧ (L11 (sA σ 24 ((x3 - 1)).toNatClampNeg (gA σ 24 (x3).toNatClampNeg)) x2 (x3 + 1)))))

def w_X10_stepped_11 (K : St → Prop) : Nat → St → Int32 → Int32 → Prop
  | 0 => fun _ _ _ => False
  | n + 1 => fun σ x2 x3 => b_X10_stepped_11 (w_X10_stepped_11 K n) K σ x2 x3

def w_X10_stepped (σ : St) (a1 : Int32) (K : St → Prop) : Prop :=
  vp_in a1 3000 ∧ (∃ n : Nat, w_X10_stepped_11 K n σ (gA σ 24 (a1).toNatClampNeg) (a1 + 1))

def b_X10_run_19 (L19 : St → Int32 → Int32 → Prop) (K : Int32 → St → Prop) (σ : St) (x2 : Int32) (x3 : Int32) : Prop :=
  (¬ (gS σ 4) = 0 → (K (gS σ 5) σ)) ∧ ((gS σ 4) = 0 → (((gS σ 14) ≤ 0 → (K (gS σ 5) σ)) ∧ (¬ (gS σ 14) ≤ 0 → ((¬ (gS σ 6) = x2 → (¬ (gS σ 14) = 0 ∧ (w_X10_stepped (sS σ 8 1) (((((1103515245 * x3) + 12345).toUInt32 >>> ((16 : Int32).toUInt32 &&& Int32.toUInt32 31)).toInt32) - ((((1103515245 * x3) + 12345).toUInt32 >>> ((16 : Int32).toUInt32 &&& Int32.toUInt32 31)).toInt32) / (gS σ 14) * (gS σ 14)) (fun u_1 : St => L19 u_1 x2 ((1103515245 * x3) + 12345))))) ∧ ((gS σ 6) = x2 → (w_X10_stops σ 3 (-1) (fun (r_5 : Int32) (u_4 : St) => L19 u_4 x2 x3)))))))

def w_X10_run_19 (K : Int32 → St → Prop) : Nat → St → Int32 → Int32 → Prop
  | 0 => fun _ _ _ => False
  | n + 1 => fun σ x2 x3 => b_X10_run_19 (w_X10_run_19 K n) K σ x2 x3

def w_X10_run (σ : St) (a1 : Int32) (a2 : Int32) (K : Int32 → St → Prop) : Prop :=
  w_X10_in σ a2 0 4000 (fun (r_10 : Int32) (u_9 : St) => (¬ r_10 = 0 → (w_X10_begins u_9 (fun u_11 : St => ∃ n : Nat, w_X10_run_19 K n u_11 a2 a1))) ∧ (r_10 = 0 → (K (-1) u_9)))

def b_X10_ticks_114 (L17 : St → Int32 → Prop) (K : Int32 → St → Prop) (σ : St) (x1 : Int32) (x3 : Int32) : Prop :=
  (x3 ≤ (gS σ 8) → (L17 (sS σ 8 (gS σ 8)) x1)) ∧ (¬ x3 ≤ (gS σ 8) → (L17 (sS σ 8 x3) x1))

def b_X10_ticks_69 (L17 : St → Int32 → Prop) (L69 : St → Int32 → Int32 → Int32 → Int32 → Prop) (K : Int32 → St → Prop) (σ : St) (x1 : Int32) (x2 : Int32) (x3 : Int32) (x4 : Int32) : Prop :=
  (x2 ≤ x4 → (b_X10_ticks_114 L17 K σ x1 x3)) ∧ (¬ x2 ≤ x4 → ((¬ (gS σ 4) = 0 → (b_X10_ticks_114 L17 K σ x1 x3)) ∧ ((gS σ 4) = 0 → ((¬ (gS σ 6) = x1 → (w_X10_stepped σ 0 (fun u_2 : St => L69 u_2 x1 x2 (x3 + 1) (x4 + 1)))) ∧ ((gS σ 6) = x1 → (w_X10_stops σ 3 (-1) (fun (r_5 : Int32) (u_4 : St) => L69 u_4 x1 x2 x3 (x4 + 1))))))))

def w_X10_ticks_69 (L17 : St → Int32 → Prop) (K : Int32 → St → Prop) : Nat → St → Int32 → Int32 → Int32 → Int32 → Prop
  | 0 => fun _ _ _ _ _ => False
  | n + 1 => fun σ x1 x2 x3 x4 => b_X10_ticks_69 L17 (w_X10_ticks_69 L17 K n) K σ x1 x2 x3 x4

def b_X10_ticks_17 (L17 : St → Int32 → Prop) (K : Int32 → St → Prop) (σ : St) (x1 : Int32) : Prop :=
  (¬ (gS σ 4) = 0 → (K (gS σ 5) σ)) ∧ ((gS σ 4) = 0 → (((gS σ 14) ≤ 0 → (K (gS σ 5) σ)) ∧ (¬ (gS σ 14) ≤ 0 → ((¬ (gS σ 6) = x1 → (∃ n : Nat, w_X10_ticks_69 L17 K n (sS σ 7 ((gS σ 7) + 1)) x1 (gS σ 14) 0 0)) ∧ ((gS σ 6) = x1 → (w_X10_stops σ 3 (-1) (fun (r_11 : Int32) (u_10 : St) => L17 u_10 x1)))))))

def w_X10_ticks_17 (K : Int32 → St → Prop) : Nat → St → Int32 → Prop
  | 0 => fun _ _ => False
  | n + 1 => fun σ x1 => b_X10_ticks_17 (w_X10_ticks_17 K n) K σ x1

def w_X10_ticks (σ : St) (a1 : Int32) (K : Int32 → St → Prop) : Prop :=
  w_X10_in σ a1 0 4000 (fun (r_16 : Int32) (u_15 : St) => (¬ r_16 = 0 → (w_X10_begins u_15 (fun u_17 : St => ∃ n : Nat, w_X10_ticks_17 K n u_17 a1))) ∧ (r_16 = 0 → (K (-1) u_15)))

def b_X10_left_14 (L4 : St → Int32 → Int32 → Prop) (L14 : St → Int32 → Int32 → Int32 → Prop) (K : Int32 → St → Prop) (σ : St) (x1 : Int32) (x2 : Int32) (x3 : Int32) : Prop :=
  (3 ≤ x3 → (L4 σ x1 (x2 + 1))) ∧ (¬ 3 ≤ x3 → (vp_in x2 3000 ∧ ((¬ (gA σ 17 (x2).toNatClampNeg) = 0 → (L4 σ x1 (x2 + 1))) ∧ ((gA σ 17 (x2).toNatClampNeg) = 0 → (vp_in x2 3000 ∧ (∀ x_1 : Int32, x_1 = (x1 + (((gA σ 16 (x2).toNatClampNeg) >>> (x3 &&& 31)) &&& 1)) → (L14 σ x_1 x2 (x3 + 1))))))))

def w_X10_left_14 (L4 : St → Int32 → Int32 → Prop) (K : Int32 → St → Prop) : Nat → St → Int32 → Int32 → Int32 → Prop
  | 0 => fun _ _ _ _ => False
  | n + 1 => fun σ x1 x2 x3 => b_X10_left_14 L4 (w_X10_left_14 L4 K n) K σ x1 x2 x3

def b_X10_left_4 (L4 : St → Int32 → Int32 → Prop) (K : Int32 → St → Prop) (σ : St) (x1 : Int32) (x2 : Int32) : Prop :=
  ((gS σ 13) ≤ x2 → (K x1 σ)) ∧ (¬ (gS σ 13) ≤ x2 → (∃ n : Nat, w_X10_left_14 L4 K n σ x1 x2 0))

def w_X10_left_4 (K : Int32 → St → Prop) : Nat → St → Int32 → Int32 → Prop
  | 0 => fun _ _ _ => False
  | n + 1 => fun σ x1 x2 => b_X10_left_4 (w_X10_left_4 K n) K σ x1 x2

def w_X10_left (σ : St) (K : Int32 → St → Prop) : Prop :=
  ∃ n : Nat, w_X10_left_4 K n σ 0 0

def b_X10_waiting_4 (L4 : St → Int32 → Int32 → Prop) (K : Int32 → St → Prop) (σ : St) (x1 : Int32) (x2 : Int32) : Prop :=
  ((gS σ 17) ≤ x2 → (K x1 σ)) ∧ (¬ (gS σ 17) ≤ x2 → (vp_in x2 3000 ∧ (((gA σ 32 (x2).toNatClampNeg) < 0 → (L4 σ (x1 + 0) (x2 + 1))) ∧ (¬ (gA σ 32 (x2).toNatClampNeg) < 0 → (L4 σ (x1 + 1) (x2 + 1))))))

def w_X10_waiting_4 (K : Int32 → St → Prop) : Nat → St → Int32 → Int32 → Prop
  | 0 => fun _ _ _ => False
  | n + 1 => fun σ x1 x2 => b_X10_waiting_4 (w_X10_waiting_4 K n) K σ x1 x2

def w_X10_waiting (σ : St) (K : Int32 → St → Prop) : Prop :=
  ∃ n : Nat, w_X10_waiting_4 K n σ 0 0

def w_X10_about (σ : St) (a1 : Int32) (K : Int32 → St → Prop) : Prop :=
  (¬ (gS σ 3) = 0 → (((a1 = 0) → (K (gS σ 5) σ)) ∧ (¬ (a1 = 0) → (((a1 = 1) → (K (gS σ 6) σ)) ∧ (¬ (a1 = 1) → (((a1 = 2) → (K (gS σ 7) σ)) ∧ (¬ (a1 = 2) → (((a1 = 3) → (K (gS σ 8) σ)) ∧ (¬ (a1 = 3) → (((a1 = 4) → (w_X10_left σ (fun (r_7 : Int32) (u_6 : St) => K r_7 u_6))) ∧ (¬ (a1 = 4) → (((a1 = 5) → (w_X10_waiting σ (fun (r_10 : Int32) (u_9 : St) => K r_10 u_9))) ∧ (¬ (a1 = 5) → (((a1 = 6) → (K (gS σ 9) σ)) ∧ (¬ (a1 = 6) → (((a1 = 7) → (K (gS σ 10) σ)) ∧ (¬ (a1 = 7) → (((a1 = 8) → (K (gS σ 12) σ)) ∧ (¬ (a1 = 8) → (((a1 = 9) → (K (gS σ 11) σ)) ∧ (¬ (a1 = 9) → (((a1 = 10) → (K (gS σ 14) σ)) ∧ (¬ (a1 = 10) → (K (-1) σ)))))))))))))))))))))))) ∧ ((gS σ 3) = 0 → (K (-1) σ))

def w_X10_told1 (σ : St) (a1 : Int32) (a2 : Int32) (a3 : Int32) (a4 : Int32) (K : Int32 → St → Prop) : Prop :=
  (¬ a4 = 0 → ((¬ a4 = 1 → ((¬ a1 = 3 → (K (-1) σ)) ∧ (a1 = 3 → (K a3 σ)))) ∧ (a4 = 1 → ((¬ a1 = 0 → ((¬ a1 = 2 → (K a2 σ)) ∧ (a1 = 2 → (vp_in a2 300 ∧ (K (gA σ 26 (a2).toNatClampNeg) σ))))) ∧ (a1 = 0 → (K (-1) σ)))))) ∧ (a4 = 0 → (K a1 σ))

def w_X10_end (σ : St) (a1 : Int32) (a2 : Int32) (K : Int32 → St → Prop) : Prop :=
  ((gS σ 3) = 0 → (K (-1) σ)) ∧ (¬ (gS σ 3) = 0 → (w_X10_in σ a1 0 9 (fun (r_2 : Int32) (u_1 : St) => (r_2 = 0 → (K (-1) u_1)) ∧ (¬ r_2 = 0 → (w_X10_in u_1 a2 0 2 (fun (r_4 : Int32) (u_3 : St) => (r_4 = 0 → (K (-1) u_3)) ∧ (¬ r_4 = 0 → (vp_in a1 10 ∧ (vp_in a1 10 ∧ (vp_in a1 10 ∧ (w_X10_told1 u_3 (gA u_3 34 (a1).toNatClampNeg) (gA u_3 35 (a1).toNatClampNeg) (gA u_3 36 (a1).toNatClampNeg) a2 (fun (r_6 : Int32) (u_5 : St) => K r_6 u_5))))))))))))

def w_X10_fired (σ : St) (a1 : Int32) (K : Int32 → St → Prop) : Prop :=
  ((gS σ 3) = 0 → (K (-1) σ)) ∧ (¬ (gS σ 3) = 0 → (w_X10_isAct σ a1 (fun (r_2 : Int32) (u_1 : St) => (r_2 = 0 → (K (-1) u_1)) ∧ (¬ r_2 = 0 → (vp_in a1 80 ∧ (K (gA u_1 23 (a1).toNatClampNeg) u_1))))))

def b_X10_cell_21 (L21 : St → Int32 → Int32 → Int32 → Int32 → Prop) (K : Int32 → St → Prop) (σ : St) (x1 : Int32) (x2 : Int32) (x3 : Int32) (x4 : Int32) : Prop :=
  ((gS σ 15) ≤ x4 → (K (-1) σ)) ∧ (¬ (gS σ 15) ≤ x4 → (vp_in x4 300 ∧ ((¬ (gA σ 27 (x4).toNatClampNeg) = x1 → (L21 σ x1 x2 x3 (x4 + 1))) ∧ ((gA σ 27 (x4).toNatClampNeg) = x1 → (vp_in x4 300 ∧ (((gA σ 28 (x4).toNatClampNeg) = 0 → (vp_in x4 300 ∧ (w_X10_in σ x2 0 ((gA σ 26 (x4).toNatClampNeg) - 1) (fun (r_2 : Int32) (u_1 : St) => (¬ r_2 = 0 → (vp_in x4 300 ∧ (vp_in ((gA u_1 25 (x4).toNatClampNeg) + x2) 2000 ∧ (vp_in ((gA u_1 25 (x4).toNatClampNeg) + x2) 2000 ∧ (vp_in ((gA u_1 25 (x4).toNatClampNeg) + x2) 2000 ∧ (w_X10_told1 u_1 (gA u_1 29 (((gA u_1 25 (x4).toNatClampNeg) + x2)).toNatClampNeg) (gA u_1 30 (((gA u_1 25 (x4).toNatClampNeg) + x2)).toNatClampNeg) (gA u_1 31 (((gA u_1 25 (x4).toNatClampNeg) + x2)).toNatClampNeg) x3 (fun (r_4 : Int32) (u_3 : St) => K r_4 u_3))))))) ∧ (r_2 = 0 → (K (-1) u_1)))))) ∧ (¬ (gA σ 28 (x4).toNatClampNeg) = 0 → (L21 σ x1 x2 x3 (x4 + 1)))))))))

def w_X10_cell_21 (K : Int32 → St → Prop) : Nat → St → Int32 → Int32 → Int32 → Int32 → Prop
  | 0 => fun _ _ _ _ _ => False
  | n + 1 => fun σ x1 x2 x3 x4 => b_X10_cell_21 (w_X10_cell_21 K n) K σ x1 x2 x3 x4

def w_X10_cell (σ : St) (a1 : Int32) (a2 : Int32) (a3 : Int32) (K : Int32 → St → Prop) : Prop :=
  ((gS σ 3) = 0 → (K (-1) σ)) ∧ (¬ (gS σ 3) = 0 → (w_X10_in σ a3 0 2 (fun (r_17 : Int32) (u_16 : St) => (¬ r_17 = 0 → (∃ n : Nat, w_X10_cell_21 K n u_16 a1 a2 a3 0)) ∧ (r_17 = 0 → (K (-1) u_16)))))

def b_X10_told_128 (L128 : St → Int32 → Int32 → Int32 → Prop) (K : Int32 → St → Prop) (σ : St) (x1 : Int32) (x3 : Int32) (x4 : Int32) : Prop :=
  ((gS σ 2) ≤ x4 → (K x3 σ)) ∧ (¬ (gS σ 2) ≤ x4 → (vp_in x4 40 ∧ ((¬ (gA σ 7 (x4).toNatClampNeg) = x1 → (L128 σ x1 (x3 + 0) (x4 + 1))) ∧ ((gA σ 7 (x4).toNatClampNeg) = x1 → (L128 σ x1 (x3 + 1) (x4 + 1))))))

def w_X10_told_128 (K : Int32 → St → Prop) : Nat → St → Int32 → Int32 → Int32 → Prop
  | 0 => fun _ _ _ _ => False
  | n + 1 => fun σ x1 x3 x4 => b_X10_told_128 (w_X10_told_128 K n) K σ x1 x3 x4

def b_X10_told_76 (L76 : St → Int32 → Int32 → Int32 → Int32 → Prop) (K : Int32 → St → Prop) (σ : St) (x1 : Int32) (x2 : Int32) (x3 : Int32) (x4 : Int32) : Prop :=
  ((gS σ 1) ≤ x4 → (K x3 σ)) ∧ (¬ (gS σ 1) ≤ x4 → (vp_in x4 300 ∧ ((¬ (gA σ 3 (x4).toNatClampNeg) = x1 → (L76 σ x1 x2 (x3 + 0) (x4 + 1))) ∧ ((gA σ 3 (x4).toNatClampNeg) = x1 → (vp_in x4 300 ∧ ((¬ (gA σ 4 (x4).toNatClampNeg) = (x2 - 3) → (L76 σ x1 x2 (x3 + 0) (x4 + 1))) ∧ ((gA σ 4 (x4).toNatClampNeg) = (x2 - 3) → (L76 σ x1 x2 (x3 + 1) (x4 + 1)))))))))

def w_X10_told_76 (K : Int32 → St → Prop) : Nat → St → Int32 → Int32 → Int32 → Int32 → Prop
  | 0 => fun _ _ _ _ _ => False
  | n + 1 => fun σ x1 x2 x3 x4 => b_X10_told_76 (w_X10_told_76 K n) K σ x1 x2 x3 x4

def w_X10_told (σ : St) (a1 : Int32) (a2 : Int32) (K : Int32 → St → Prop) : Prop :=
  w_X10_isAct σ a1 (fun (r_10 : Int32) (u_9 : St) => (¬ r_10 = 0 → (((a2 = 0) → (vp_in a1 80 ∧ (K (gA u_9 0 (a1).toNatClampNeg) u_9))) ∧ (¬ (a2 = 0) → (((a2 = 1) → (vp_in a1 80 ∧ (K (gA u_9 1 (a1).toNatClampNeg) u_9))) ∧ (¬ (a2 = 1) → (((a2 = 2) → (vp_in a1 80 ∧ (K (gA u_9 2 (a1).toNatClampNeg) u_9))) ∧ (¬ (a2 = 2) → (((a2 = 3 ∨ a2 = 4) → (∃ n : Nat, w_X10_told_76 K n u_9 a1 a2 0 0)) ∧ (¬ (a2 = 3 ∨ a2 = 4) → (((a2 = 5) → (∃ n : Nat, w_X10_told_128 K n u_9 a1 0 0)) ∧ (¬ (a2 = 5) → (K (-1) u_9)))))))))))) ∧ (r_10 = 0 → (K (-1) u_9)))

def b_X10_notes_was_87 (L87 : St → Int32 → Prop) (K : St → Prop) (σ : St) (x2 : Int32) : Prop :=
  (80 ≤ x2 → (K σ)) ∧ (¬ 80 ≤ x2 → (vp_in x2 80 ∧ (vp_in (36 + x2) 116 ∧ (L87 (sA σ 37 ((36 + x2)).toNatClampNeg (gA σ 23 (x2).toNatClampNeg)) (x2 + 1)))))

def w_X10_notes_was_87 (K : St → Prop) : Nat → St → Int32 → Prop
  | 0 => fun _ _ => False
  | n + 1 => fun σ x2 => b_X10_notes_was_87 (w_X10_notes_was_87 K n) K σ x2

def b_X10_notes_was_52 (L44 : St → Int32 → Prop) (L52 : St → Int32 → Int32 → Prop) (K : St → Prop) (σ : St) (x2 : Int32) (x3 : Int32) : Prop :=
  (3 ≤ x3 → (L44 σ (x2 + 1))) ∧ (¬ 3 ≤ x3 → (w_X10_end σ x2 x3 (fun (r_5 : Int32) (u_4 : St) => vp_in ((6 + (3 * x2)) + x3) 116 ∧ (L52 (sA u_4 37 (((6 + (3 * x2)) + x3)).toNatClampNeg r_5) x2 (x3 + 1)))))

def w_X10_notes_was_52 (L44 : St → Int32 → Prop) (K : St → Prop) : Nat → St → Int32 → Int32 → Prop
  | 0 => fun _ _ _ => False
  | n + 1 => fun σ x2 x3 => b_X10_notes_was_52 L44 (w_X10_notes_was_52 L44 K n) K σ x2 x3

def b_X10_notes_was_44 (L44 : St → Int32 → Prop) (K : St → Prop) (σ : St) (x2 : Int32) : Prop :=
  (10 ≤ x2 → (∃ n : Nat, w_X10_notes_was_87 K n σ 0)) ∧ (¬ 10 ≤ x2 → (∃ n : Nat, w_X10_notes_was_52 L44 K n σ x2 0))

def w_X10_notes_was_44 (K : St → Prop) : Nat → St → Int32 → Prop
  | 0 => fun _ _ => False
  | n + 1 => fun σ x2 => b_X10_notes_was_44 (w_X10_notes_was_44 K n) K σ x2

def w_X10_notes_was (σ : St) (K : St → Prop) : Prop :=
  w_X10_left (sA (sA σ 37 ((0 : Int32)).toNatClampNeg (gS σ 5)) 37 ((1 : Int32)).toNatClampNeg (gS σ 6)) (fun (r_12 : Int32) (u_11 : St) => w_X10_waiting (sA u_11 37 ((2 : Int32)).toNatClampNeg r_12) (fun (r_14 : Int32) (u_13 : St) => ∃ n : Nat, w_X10_notes_was_44 K n (sA (sA (sA u_13 37 ((3 : Int32)).toNatClampNeg r_14) 37 ((4 : Int32)).toNatClampNeg (gS u_13 9)) 37 ((5 : Int32)).toNatClampNeg (gS u_13 10)) 0))

def b_X10_notes_is_87 (L87 : St → Int32 → Prop) (K : St → Prop) (σ : St) (x2 : Int32) : Prop :=
  (80 ≤ x2 → (K σ)) ∧ (¬ 80 ≤ x2 → (vp_in x2 80 ∧ (vp_in (36 + x2) 116 ∧ (L87 (sA σ 38 ((36 + x2)).toNatClampNeg (gA σ 23 (x2).toNatClampNeg)) (x2 + 1)))))

def w_X10_notes_is_87 (K : St → Prop) : Nat → St → Int32 → Prop
  | 0 => fun _ _ => False
  | n + 1 => fun σ x2 => b_X10_notes_is_87 (w_X10_notes_is_87 K n) K σ x2

def b_X10_notes_is_52 (L44 : St → Int32 → Prop) (L52 : St → Int32 → Int32 → Prop) (K : St → Prop) (σ : St) (x2 : Int32) (x3 : Int32) : Prop :=
  (3 ≤ x3 → (L44 σ (x2 + 1))) ∧ (¬ 3 ≤ x3 → (w_X10_end σ x2 x3 (fun (r_5 : Int32) (u_4 : St) => vp_in ((6 + (3 * x2)) + x3) 116 ∧ (L52 (sA u_4 38 (((6 + (3 * x2)) + x3)).toNatClampNeg r_5) x2 (x3 + 1)))))

def w_X10_notes_is_52 (L44 : St → Int32 → Prop) (K : St → Prop) : Nat → St → Int32 → Int32 → Prop
  | 0 => fun _ _ _ => False
  | n + 1 => fun σ x2 x3 => b_X10_notes_is_52 L44 (w_X10_notes_is_52 L44 K n) K σ x2 x3

def b_X10_notes_is_44 (L44 : St → Int32 → Prop) (K : St → Prop) (σ : St) (x2 : Int32) : Prop :=
  (10 ≤ x2 → (∃ n : Nat, w_X10_notes_is_87 K n σ 0)) ∧ (¬ 10 ≤ x2 → (∃ n : Nat, w_X10_notes_is_52 L44 K n σ x2 0))

def w_X10_notes_is_44 (K : St → Prop) : Nat → St → Int32 → Prop
  | 0 => fun _ _ => False
  | n + 1 => fun σ x2 => b_X10_notes_is_44 (w_X10_notes_is_44 K n) K σ x2

def w_X10_notes_is (σ : St) (K : St → Prop) : Prop :=
  w_X10_left (sA (sA σ 38 ((0 : Int32)).toNatClampNeg (gS σ 5)) 38 ((1 : Int32)).toNatClampNeg (gS σ 6)) (fun (r_12 : Int32) (u_11 : St) => w_X10_waiting (sA u_11 38 ((2 : Int32)).toNatClampNeg r_12) (fun (r_14 : Int32) (u_13 : St) => ∃ n : Nat, w_X10_notes_is_44 K n (sA (sA (sA u_13 38 ((3 : Int32)).toNatClampNeg r_14) 38 ((4 : Int32)).toNatClampNeg (gS u_13 9)) 38 ((5 : Int32)).toNatClampNeg (gS u_13 10)) 0))

def b_X10_beside_156 (L156 : St → Int32 → Prop) (K : Int32 → St → Prop) (σ : St) (x4 : Int32) : Prop :=
  ((gS σ 0) ≤ x4 → (K (-1) σ)) ∧ (¬ (gS σ 0) ≤ x4 → (vp_in (36 + x4) 116 ∧ (vp_in (36 + x4) 116 ∧ (((gA σ 37 ((36 + x4)).toNatClampNeg) = (gA σ 38 ((36 + x4)).toNatClampNeg) → (L156 σ (x4 + 1))) ∧ (¬ (gA σ 37 ((36 + x4)).toNatClampNeg) = (gA σ 38 ((36 + x4)).toNatClampNeg) → (K (20 + x4) σ))))))

def w_X10_beside_156 (K : Int32 → St → Prop) : Nat → St → Int32 → Prop
  | 0 => fun _ _ => False
  | n + 1 => fun σ x4 => b_X10_beside_156 (w_X10_beside_156 K n) K σ x4

def b_X10_beside_112 (L112 : St → Int32 → Prop) (K : Int32 → St → Prop) (σ : St) (x4 : Int32) : Prop :=
  (36 ≤ x4 → (∃ n : Nat, w_X10_beside_156 K n σ 0)) ∧ (¬ 36 ≤ x4 → (vp_in x4 116 ∧ (vp_in x4 116 ∧ (((gA σ 37 (x4).toNatClampNeg) = (gA σ 38 (x4).toNatClampNeg) → (L112 σ (x4 + 1))) ∧ (¬ (gA σ 37 (x4).toNatClampNeg) = (gA σ 38 (x4).toNatClampNeg) → (K (10 + ((x4 - 6) / 3)) σ))))))

def w_X10_beside_112 (K : Int32 → St → Prop) : Nat → St → Int32 → Prop
  | 0 => fun _ _ => False
  | n + 1 => fun σ x4 => b_X10_beside_112 (w_X10_beside_112 K n) K σ x4

def b_X10_beside_75 (L75 : St → Int32 → Prop) (K : Int32 → St → Prop) (σ : St) (x4 : Int32) : Prop :=
  (6 ≤ x4 → (∃ n : Nat, w_X10_beside_112 K n σ 6)) ∧ (¬ 6 ≤ x4 → (vp_in x4 116 ∧ (vp_in x4 116 ∧ (((gA σ 37 (x4).toNatClampNeg) = (gA σ 38 (x4).toNatClampNeg) → (L75 σ (x4 + 1))) ∧ (¬ (gA σ 37 (x4).toNatClampNeg) = (gA σ 38 (x4).toNatClampNeg) → (K x4 σ))))))

def w_X10_beside_75 (K : Int32 → St → Prop) : Nat → St → Int32 → Prop
  | 0 => fun _ _ => False
  | n + 1 => fun σ x4 => b_X10_beside_75 (w_X10_beside_75 K n) K σ x4

def w_X10_beside (σ : St) (a1 : Int32) (a2 : Int32) (a3 : Int32) (K : Int32 → St → Prop) : Prop :=
  w_X10_in σ a3 0 4000 (fun (r_16 : Int32) (u_15 : St) => (¬ r_16 = 0 → (w_X10_run u_15 a1 a3 (fun (r_18 : Int32) (u_17 : St) => w_X10_notes_was u_17 (fun u_19 : St => w_X10_run u_19 a2 a3 (fun (r_22 : Int32) (u_21 : St) => w_X10_notes_is u_21 (fun u_23 : St => ((gA u_23 37 ((0 : Int32)).toNatClampNeg) = (gA u_23 38 ((0 : Int32)).toNatClampNeg) → (((gA u_23 38 ((0 : Int32)).toNatClampNeg) = 0 → (∃ n : Nat, w_X10_beside_75 K n u_23 1)) ∧ (¬ (gA u_23 38 ((0 : Int32)).toNatClampNeg) = 0 → (K (-1) u_23)))) ∧ (¬ (gA u_23 37 ((0 : Int32)).toNatClampNeg) = (gA u_23 38 ((0 : Int32)).toNatClampNeg) → (K 0 u_23)))))))) ∧ (r_16 = 0 → (K (-2) u_15)))

def JSteps (Rel : St → St → Prop) : Prop :=
  (∀ (σ τ : St) (a1 a2 a3 : Int32), Rel σ τ → w_X9_act σ a1 a2 a3 (fun r σ2 => w_X10_act τ a1 a2 a3 (fun r2 τ2 => r = r2 ∧ Rel σ2 τ2))) ∧
  (∀ (σ τ : St) (a1 a2 a3 a4 : Int32), Rel σ τ → w_X9_way σ a1 a2 a3 a4 (fun r σ2 => w_X10_way τ a1 a2 a3 a4 (fun r2 τ2 => r = r2 ∧ Rel σ2 τ2))) ∧
  (∀ (σ τ : St) (a1 a2 a3 : Int32), Rel σ τ → w_X9_token σ a1 a2 a3 (fun r σ2 => w_X10_token τ a1 a2 a3 (fun r2 τ2 => r = r2 ∧ Rel σ2 τ2))) ∧
  (∀ (σ τ : St) (a1 : Int32), Rel σ τ → w_X9_clear σ a1 (fun r σ2 => w_X10_clear τ a1 (fun r2 τ2 => r = r2 ∧ Rel σ2 τ2))) ∧
  (∀ (σ τ : St) (a1 a2 : Int32), Rel σ τ → w_X9_run σ a1 a2 (fun r σ2 => w_X10_run τ a1 a2 (fun r2 τ2 => r = r2 ∧ Rel σ2 τ2))) ∧
  (∀ (σ τ : St) (a1 : Int32), Rel σ τ → w_X9_ticks σ a1 (fun r σ2 => w_X10_ticks τ a1 (fun r2 τ2 => r = r2 ∧ Rel σ2 τ2))) ∧
  (∀ (σ τ : St) (a1 : Int32), Rel σ τ → w_X9_about σ a1 (fun r σ2 => w_X10_about τ a1 (fun r2 τ2 => r = r2 ∧ Rel σ2 τ2))) ∧
  (∀ (σ τ : St) (a1 a2 : Int32), Rel σ τ → w_X9_end σ a1 a2 (fun r σ2 => w_X10_end τ a1 a2 (fun r2 τ2 => r = r2 ∧ Rel σ2 τ2))) ∧
  (∀ (σ τ : St) (a1 : Int32), Rel σ τ → w_X9_fired σ a1 (fun r σ2 => w_X10_fired τ a1 (fun r2 τ2 => r = r2 ∧ Rel σ2 τ2))) ∧
  (∀ (σ τ : St) (a1 a2 a3 : Int32), Rel σ τ → w_X9_cell σ a1 a2 a3 (fun r σ2 => w_X10_cell τ a1 a2 a3 (fun r2 τ2 => r = r2 ∧ Rel σ2 τ2))) ∧
  (∀ (σ τ : St) (a1 a2 : Int32), Rel σ τ → w_X9_told σ a1 a2 (fun r σ2 => w_X10_told τ a1 a2 (fun r2 τ2 => r = r2 ∧ Rel σ2 τ2))) ∧
  (∀ (σ τ : St) (a1 a2 a3 : Int32), Rel σ τ → w_X9_beside σ a1 a2 a3 (fun r σ2 => w_X10_beside τ a1 a2 a3 (fun r2 τ2 => r = r2 ∧ Rel σ2 τ2)))
/-- the state of a new object of the class, and of the reference -/
def jC0 : St := (fun _ => 0, fun k => if k = 3 then jfill (fun _ => 0) 100 (-1) else if k = 7 then jfill (fun _ => 0) 160 (-1) else if k = 8 then jfill (fun _ => 0) 160 (-1) else fun _ => 0, fun _ _ => 0)
def jM0 : St := (fun _ => 0, fun _ _ => 0, fun _ _ => 0)
