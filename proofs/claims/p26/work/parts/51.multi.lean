/-! multianewarray of two dimensions, 24 and 12 -/
/-- how far the loop is: the outer array is the first new cell, its rows follow -/
def maH (H0 : Heap) (cA cB : ClassId) (i : Nat) (U : Heap) : Prop :=
  U.size = H0.size + 1 + i ∧ (∀ q : Nat, q < H0.size → U[q]? = H0[q]?) ∧ U[H0.size]? = some (arrV cA 24 fun j => if j < i then .ref (H0.size + 1 + j) else .null) ∧ ∀ j : Nat, j < i → U[H0.size + 1 + j]? = some (arrV cB 12 fun _ => .null)
theorem ma_one {e : Env} {d : Bool} {acts : List Action} {S : State} {E : CtlPost} {cB cC : ClassId} {kB : Class} {Q : Addr → Jvm.Pre} (hk : S.vm.classes[cB]? = some kB) (hkind : kB.kind = .array cC (.array .int))
    (hlimit : ¬ 12 > e.platform.arrayLengthLimit) (hheap : ¬ 12 * componentBytes (.array .int) > e.platform.maxHeapBytes) (hcells : S.heap.size < e.platform.maxCells) (hslots : S.slotsUsed + 12 ≤ e.platform.maxSlots)
    (hq : ∀ acts', Q S.heap.size d acts' (S.pushCell { cls := cB, slots := Array.replicate 12 .null, vm := .none })) : wp (Op.multianewarray.make cB [12]) Q E e d acts S := by
  have h12 : ¬ (12 : Int32) < 0 := by decide
  have hc : (12 : Int32).toNatClampNeg = 12 := by decide
  rw [Op.multianewarray.make]
  simp only [wp_bind', W.ite, h12, if_false, wp_pure', W.theClass, hk, Option.some.injEq, exists_eq_left', hkind, hc]
  exact W.newArray_of hk hkind hlimit hheap hcells hslots rfl hq
theorem ma_two {e : Env} {d : Bool} {acts : List Action} {S : State} {E : CtlPost} {cA cB cC : ClassId} {Q : Addr → Jvm.Pre} (P : Nat → State → Prop) (hP : P 0 S)
    (hvm : ∀ i U, P i U → (∃ kA, U.vm.classes[cA]? = some kA ∧ kA.kind = .array cB (.array (.array .int))) ∧ ∃ kB, U.vm.classes[cB]? = some kB ∧ kB.kind = .array cC (.array .int)) (hfree : ∀ i U, i < 25 → P i U → U.heap.size < e.platform.maxCells ∧ U.slotsUsed + (if i = 0 then 24 else 12) ≤ e.platform.maxSlots)
    (hlimit : ¬ 24 > e.platform.arrayLengthLimit) (hheap : ¬ 24 * 4 > e.platform.maxHeapBytes)
    (hp0 : P 1 (S.pushCell { cls := cA, slots := Array.replicate 24 .null, vm := .none }))
    (hat : ∀ i U, i < 24 → P (i + 1) U → U.heap.size = S.heap.size + 1 + i ∧ ∃ f, U.heap[S.heap.size]? = some (arrV cA 24 f) ∧ P (i + 2) ((U.pushCell { cls := cB, slots := Array.replicate 12 .null, vm := .none }).setCell S.heap.size ((arrV cA 24 f).setSlot i (.ref U.heap.size))))
    (hq : ∀ U d' acts', P 25 U → Q S.heap.size d' acts' U) : wp (Op.multianewarray.make cA [24, 12]) Q E e d acts S := by
  have h24 : ¬ (24 : Int32) < 0 := by decide
  have hz : ((24 : Int32) == 0) = false := by decide
  have hc : (24 : Int32).toNatClampNeg = 24 := by decide
  obtain ⟨⟨kA, v1, hkA⟩, -⟩ := hvm 0 S hP
  obtain ⟨f1, f2⟩ := hfree 0 S (by omega) hP
  rw [Op.multianewarray.make]
  simp only [wp_bind', W.ite, h24, if_false, wp_pure', W.theClass, v1, Option.some.injEq, exists_eq_left', hkA, hc, hz, Bool.false_eq_true]
  refine W.newArray_of v1 hkA hlimit hheap f1 f2 rfl fun acts' => ?_
  rw [Std.Legacy.Range.forIn_eq_forIn_range', wp_bind']
  refine wp_forIn_inv (fun l U => ∃ i, i ≤ 24 ∧ l = List.range' i (24 - i) ∧ P (i + 1) U) _ _ ⟨0, by omega, rfl, hp0⟩ (fun x rest U d' acts'' Q' hI hk => ?_) (fun U d' acts'' hI => ?_)
  · obtain ⟨i, hi, hl, hU⟩ := hI
    have hi2 : i < 24 := by
      refine Nat.lt_of_not_le fun h => ?_
      rw [show 24 - i = 0 by omega] at hl
      cases hl
    rw [show 24 - i = (23 - i) + 1 by omega, List.range'_succ] at hl
    obtain ⟨rfl, hl2⟩ := List.cons.inj hl
    obtain ⟨⟨kA1, w1, hkA1⟩, kB, w2, hkB⟩ := hvm _ U hU
    obtain ⟨g1, g2⟩ := hfree _ U (by omega) hU
    rw [if_neg (by omega)] at g2
    obtain ⟨z, f, hf, hP2⟩ := hat x U hi2 hU
    simp only [wp_bind', wp_pure']
    refine ma_one w2 hkB (by omega) (by show ¬ 12 * 4 > _; omega) g1 g2 fun acts3 => ?_
    have hf2 : (U.pushCell { cls := cB, slots := Array.replicate 12 .null, vm := .none }).heap[S.heap.size]? = some (arrV cA 24 f) := by
      show (U.heap.push _)[S.heap.size]? = _
      rw [Array.getElem?_push, if_neg (by omega)]
      exact hf
    rw [wp_bind', W.writeLoc]
    refine ⟨_, hf2, (fun h => by cases h), (by rw [arrV_size]; exact hi2), ?_, ?_⟩
    · show State.fitsSlot _ cA .none x _ = true
      simp [State.fitsSlot, State.slotType?, w1, hkA1, fits]
    · rw [wp_pure']
      exact hk _ _ _ ⟨x + 1, by omega, by rw [hl2]; congr 1; omega, hP2⟩
  · rw [wp_pure']
    obtain ⟨i, hi, hl, hU⟩ := hI
    have hi2 : i = 24 := by
      by_cases h : i = 24
      · exact h
      · rw [show 24 - i = (23 - i) + 1 by omega, List.range'_succ] at hl
        cases hl
    subst hi2
    exact hq _ _ _ hU
def sqM : Nat → Nat
  | 0 => 0
  | j + 1 => 24 + 12 * j
/-- a step whose end state is told by a property -/
theorem st_instrE {tb : Tables} [Ours tb] {e : Env} {below : List Frame} {s : State} {f : JFrame} {c : Code} {i : Instr} {len : Nat} {P : State → Prop} (h : At s f.method c below) (hd : decode c.code f.pc = .ok (i, len))
    (hw : (tb.exec i).wpRun (fun _ s1 _ => ∃ V f1, s1 = State.setTop V f1 ∧ ∃ t, Steps tb e below (State.setTop V { f1 with pc := f1.pc + len }) t ∧ P t) (fun _ _ _ => False) e (s.setTop f)) : ∃ t, Steps tb e below (s.setTop f) t ∧ P t := by
  have hw2 := (Sem.wpRun_iff_run _ _ _ _ _).mp hw
  cases hr : (tb.exec i).run e (s.setTop f) with
  | ok a s1 acts =>
    rw [hr] at hw2
    obtain ⟨V, f1, h1, t, a1, b1⟩ := hw2
    refine ⟨t, Steps.instr h ?_, b1⟩
    rw [hd]
    refine (Sem.wpRun_iff_run _ _ _ _ _).mpr ?_
    rw [hr]
    intro acts2
    rw [h1, afterInstr_ok]
    exact a1
  | ctl x s1 acts =>
    rw [hr] at hw2
    cases x <;> exact hw2.elim
theorem va_multi {p : Program} {l : Launch} {e : Env} {R : Room} {s : State} {m : MethodId} {args : Array Value} {below : List Frame} {meth : Method} {c : Code} {H : Heap} {locs : List Loc} {cells slots : Nat} {Q : State → Prop} {cc : ByteArray} (hexec : p.tables.exec = Jvm.exec) (hb : c.code = cc) {own : String} {index : Nat} (hown : s.vm.findClass own = some m.cls) (hclink : (Cond.classLink own index "[[[I").before args s = true)
    {cA cB cC : ClassId} {kA kB : Class} (hnA : s.vm.findClass "[[[I" = some cA) (hkA : s.vm.classes[cA]? = some kA) (hkindA : kA.kind = .array cB (.array (.array .int))) (hkB : s.vm.classes[cB]? = some kB) (hkindB : kB.kind = .array cC (.array .int))
    {g : JFrame} (hg : g.method = m) (hdg : decode cc g.pc = .ok (.multianewarray index 2, 4)) {rest : List Value} (hstack : g.stack = .int 12 :: .int 24 :: rest) (hcells : cells + 25 ≤ R.cells) (hslots : slots + 312 ≤ R.slots)
    (kk : ∀ (H' : Heap) (L : List Loc), maH H cA cB 24 H' → (∀ q ∈ L, q.base = H.size) → W p l e R s m args below meth c H' (locs ++ L) (cells + 25) (slots + 312) Q { g with pc := g.pc + 4, stack := .ref H.size :: rest }) : W p l e R s m args below meth c H locs cells slots Q g := by
  intro T hT X
  subst hT
  subst hb
  subst hg
  have hpl : e.platform.magicAccessors = ({} : Platform).magicAccessors := by rw [X.admits.platform]
  obtain ⟨cc', hfcc, hcl⟩ := Cond.classLink_spec hown hclink e.platform hpl
  cases hnA.symm.trans hfcc
  obtain ⟨hg1, hwarm1, hready1⟩ := State.classEntry (e := e) X.warmed hcl
  generalize T.vm.noted g.method.cls index (.cls cA) = vm1 at hg1 hwarm1 hready1
  have X1 := X.noted hwarm1
  refine st_instrE X.here hdg ?_
  rw [hexec]
  show wp (Op.multianewarray.sem index 2) _ _ e false [] (T.setTop g)
  rw [Op.multianewarray.sem, wp_bind', W.resolveClassAt_links (State.method?_setTop g X.here.top) hg1]
  rw [wp_bind', W.popN, if_neg (by decide)]
  refine ⟨g, State.topJava?_setTop' g (show (T.setVm vm1).topJava?.isSome from X1.here.top), [.int 24, .int 12], rest, rfl, hstack, ?_⟩
  simp only [List.mapM_cons, List.mapM_nil, wp_bind', wp_pure']
  rw [show ((T.setTop g).setVm vm1).setTop { g with stack := rest } = (T.setVm vm1).setTop { g with stack := rest } from (State.setTop_setTop (s := T.setVm vm1) ..)]
  have hcA : ∀ V : State, s.WarmedH V.vm → (∃ k, V.vm.classes[cA]? = some k ∧ k.kind = .array cB (.array (.array .int))) ∧ ∃ k, V.vm.classes[cB]? = some k ∧ k.kind = .array cC (.array .int) := by
    intro V hV
    obtain ⟨k1, h1, h2⟩ := hV.alike.2.2 _ _ hkA
    obtain ⟨k2, h3, h4⟩ := hV.alike.2.2 _ _ hkB
    exact ⟨⟨k1, h1, by rw [h2]; exact hkindA⟩, k2, h3, by rw [h4]; exact hkindB⟩
  have hlim := Launch.admits_arrayLengthLimit X.admits
  have hhp := Launch.admits_maxHeapBytes X.admits
  refine ma_two (cB := cB) (cC := cC) (fun i U => ∃ V L, U = State.setTop V { g with stack := rest } ∧ Stand p l e R s g.method args below meth c V (locs ++ L) (cells + i) (slots + sqM i) ∧ (∀ q ∈ L, q.base = T.heap.size) ∧ (i = 0 → V.heap = T.heap) ∧ ∀ j, i = j + 1 → maH T.heap cA cB j V.heap) ⟨T.setVm vm1, [], rfl, by rw [List.append_nil]; exact X1, (fun q hq => by cases hq), fun _ => rfl, (fun j hj => by cases hj)⟩ ?_ ?_ (by omega) (by omega) ?_ ?_ ?_
  · rintro i U ⟨V, L, rfl, XV, -⟩
    exact hcA V XV.warmed
  · rintro i U hi ⟨V, L, rfl, XV, -⟩
    cases i with
    | zero =>
      obtain ⟨q1, q2⟩ := XV.roomAbove (a := 1) (b := 24) (by omega) (by show slots + 0 + 24 ≤ _; omega)
      exact ⟨by show V.heap.size < _; omega, q2⟩
    | succ j =>
      obtain ⟨q1, q2⟩ := XV.roomAbove (a := 1) (b := 12) (by omega) (by show slots + (24 + 12 * j) + 12 ≤ _; omega)
      exact ⟨by show V.heap.size < _; omega, q2⟩
  · have X2 := X1.pushed { cls := cA, slots := Array.replicate 24 .null, vm := .none }
    refine ⟨_, [], rfl, by rw [List.append_nil]; exact X2, (fun q hq => by cases hq), (fun h => by cases h), fun j hj => ?_⟩
    obtain rfl : j = 0 := by omega
    refine ⟨by rw [State.setVm, size_pushCell], fun q hq => ?_, ?_, fun j hj => by omega⟩
    · show (T.heap.push _)[q]? = _
      rw [Array.getElem?_push, if_neg (by omega)]
    · show (T.heap.push _)[T.heap.size]? = _
      rw [Array.getElem?_push_size, arrV_new]
      rfl
  · rintro i U hi ⟨V, L, rfl, XV, hL, -, hm⟩
    obtain ⟨z1, z2, z3, z4⟩ := hm i rfl
    refine ⟨z1, _, z3, ?_⟩
    have X2 := XV.pushed { cls := cB, slots := Array.replicate 12 .null, vm := .none }
    have e0 : (V.pushCell { cls := cB, slots := Array.replicate 12 .null, vm := .none }).heap = V.heap.push { cls := cB, slots := Array.replicate 12 .null, vm := .none } := rfl
    have hc : (V.pushCell { cls := cB, slots := Array.replicate 12 .null, vm := .none }).heap[T.heap.size]? = some (arrV cA 24 fun j => if j < i then .ref (T.heap.size + 1 + j) else .null) := by
      rw [e0, Array.getElem?_push, if_neg (by omega)]
      exact z3
    have X3 := X2.stored hc i (.ref V.heap.size)
    refine ⟨(V.pushCell { cls := cB, slots := Array.replicate 12 .null, vm := .none }).setCell T.heap.size ((arrV cA 24 fun j => if j < i then .ref (T.heap.size + 1 + j) else .null).setSlot i (.ref V.heap.size)), L ++ [⟨T.heap.size, i⟩], rfl, ?_, ?_, (fun h => by omega), fun j hj => ?_⟩
    · rw [← List.append_assoc]
      exact X3
    · intro q hq
      rcases List.mem_append.mp hq with h | h
      · exact hL q h
      · rw [List.mem_singleton.mp h]
    · obtain rfl : j = i + 1 := by omega
      refine ⟨by rw [size_setCell, size_pushCell]; omega, fun q hq => ?_, ?_, fun j hj => ?_⟩
      · rw [heapAt_setCell_ne _ (Nat.ne_of_gt hq), e0, Array.getElem?_push, if_neg (by omega)]
        exact z2 q hq
      · have hs : T.heap.size < (V.pushCell { cls := cB, slots := Array.replicate 12 .null, vm := .none }).heap.size := by rw [size_pushCell]; omega
        rw [heapAt_setCell_self _ hs, arrV_store]
        congr 2
        funext j
        unfold updV
        by_cases h : j = i
        · subst h
          rw [if_pos rfl, if_pos (by omega), z1]
        · rw [if_neg h]
          show (if j < i then Value.ref (T.heap.size + 1 + j) else Value.null) = _
          by_cases h2 : j < i
          · rw [if_pos h2, if_pos (by omega)]
          · rw [if_neg h2, if_neg (by omega)]
      · have hs : T.heap.size ≠ T.heap.size + 1 + j := by omega
        rw [heapAt_setCell_ne _ hs, e0]
        by_cases h : j = i
        · subst h
          rw [← z1, Array.getElem?_push_size, arrV_new]
        · rw [Array.getElem?_push, if_neg (by omega)]
          exact z4 j (by omega)
  · rintro U d' acts' ⟨V, L, rfl, XV, hL, -, hm⟩
    rw [wp_bind', W.mark, W.pushRef]
    refine ⟨_, State.topJava?_setTop' _ XV.here.top, V, _, by rw [State.setTop_setTop], ?_⟩
    exact kk V.heap L (hm 24 rfl) hL V rfl XV
