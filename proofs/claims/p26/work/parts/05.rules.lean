section RW
variable {κ : KK} {y : MY} {d kc ks pc : Nat} {lv : List (Nat × Value)} {st : List Value} {g : GG} {Q : Option Value → GG → Prop}
/-- a row that touches neither heap nor locals -/
def Row (κ : KK) (y : MY) (pc : Nat) (lv : List (Nat × Value)) (st : List Value) (pc' : Nat) (st' : List Value) : Prop :=
  ∀ (p : Program) (l : Launch) (e : Env) (R : Room) (s : State) (m : MethodId) (args : Array Value) (below : List Frame) (meth : Method) (c : Code) (H : Heap) (locs : List Loc) (cells slots : Nat) (ls : Array Slot) (Q : State → Prop),
    MC κ y p s m args meth c → lv_has ls y.2.2.1 lv → W p l e R s m args below meth c H locs cells slots Q (F0 m pc' ls st') → W p l e R s m args below meth c H locs cells slots Q (F0 m pc ls st)
theorem Row.go {pc' : Nat} {st' : List Value} (h : Row κ y pc lv st pc' st') (k : Wp κ y d kc ks pc' lv st' g Q) : Wp κ y d kc ks pc lv st g Q :=
  fun p l e R s m args below meth c H locs cells slots mc ms ls M hR h1 h2 hG hS hl => h p l e R s m args below meth c H locs cells slots ls _ M hl (k p l e R s m args below meth c H locs cells slots mc ms ls M hR h1 h2 hG hS hl)
def lvd (i : Nat) : List (Nat × Value) → List (Nat × Value)
  | [] => []
  | (j, v) :: r => match Nat.beq j i with
    | true => lvd i r
    | false => match Nat.beq (j + 1) i with
      | true => match v with
        | .long _ => lvd i r
        | .double _ => lvd i r
        | _ => (j, v) :: lvd i r
      | false => (j, v) :: lvd i r
theorem lvd_mem {i : Nat} {lv : List (Nat × Value)} {q : Nat × Value} (h : q ∈ lvd i lv) : q ∈ lv ∧ q.1 ≠ i ∧ ¬ (q.1 + 1 = i ∧ q.2.category = 2) := by
  induction lv with
  | nil => cases h
  | cons z r ih =>
    obtain ⟨j, v⟩ := z
    unfold lvd at h
    cases h1 : Nat.beq j i with
    | true =>
      rw [h1] at h
      have h' := ih h
      exact ⟨List.mem_cons_of_mem _ h'.1, h'.2⟩
    | false =>
      rw [h1] at h
      have hj : j ≠ i := fun e => by rw [e, Nat.beq_refl] at h1; cases h1
      cases h2 : Nat.beq (j + 1) i with
      | true =>
        rw [h2] at h
        cases v
        all_goals first
          | (have h' := ih h; exact ⟨List.mem_cons_of_mem _ h'.1, h'.2⟩)
          | (rcases List.mem_cons.mp h with e | h'
             · rw [e]; exact ⟨List.mem_cons_self, hj, fun z => by have := z.2; simp [Value.category] at this⟩
             · have h' := ih h'; exact ⟨List.mem_cons_of_mem _ h'.1, h'.2⟩)
      | false =>
        rw [h2] at h
        have hj2 : j + 1 ≠ i := fun e => by rw [e, Nat.beq_refl] at h2; cases h2
        rcases List.mem_cons.mp h with e | h'
        · rw [e]; exact ⟨List.mem_cons_self, hj, fun z => hj2 z.1⟩
        · have h' := ih h'; exact ⟨List.mem_cons_of_mem _ h'.1, h'.2⟩
def sto (i : Nat) (v : Value) (lv : List (Nat × Value)) : List (Nat × Value) := (i, v) :: lvd i lv
def sto2 (i : Nat) (v : Value) (lv : List (Nat × Value)) : List (Nat × Value) := (i, v) :: lvd (i + 1) (lvd i lv)
theorem sto_has {ls : Array Slot} {nL i : Nat} {v : Value} (h : lv_has ls nL ((i, v) :: lv.filter (fun q => !(q.1 == i) && !(q.1 + 1 == i && q.2.category == 2)))) : lv_has ls nL (sto i v lv) := by
  refine ⟨h.1, h.2.1, fun q hq => h.2.2 q ?_⟩
  rcases List.mem_cons.mp hq with e | hq
  · rw [e]; exact List.mem_cons_self
  · obtain ⟨h1, h2, h3⟩ := lvd_mem hq
    refine List.mem_cons_of_mem _ (List.mem_filter.mpr ⟨h1, ?_⟩)
    have e1 : (q.1 == i) = false := by simp [h2]
    have e2 : (q.1 + 1 == i && q.2.category == 2) = false := by
      by_cases z : q.1 + 1 = i
      · have : ¬ q.2.category = 2 := fun w => h3 ⟨z, w⟩
        simp [this]
      · simp [z]
    rw [e1, e2]; rfl
theorem sto2_has {ls : Array Slot} {nL i : Nat} {v : Value} (h : lv_has ls nL ((i, v) :: lv.filter (fun q => !(q.1 == i) && (!(q.1 == i + 1) && !(q.1 + 1 == i && q.2.category == 2))))) : lv_has ls nL (sto2 i v lv) := by
  refine ⟨h.1, h.2.1, fun q hq => h.2.2 q ?_⟩
  rcases List.mem_cons.mp hq with e | hq
  · rw [e]; exact List.mem_cons_self
  · obtain ⟨hq, h4, -⟩ := lvd_mem hq
    obtain ⟨h1, h2, h3⟩ := lvd_mem hq
    refine List.mem_cons_of_mem _ (List.mem_filter.mpr ⟨h1, ?_⟩)
    have e1 : (q.1 == i) = false := by simp [h2]
    have e3 : (q.1 == i + 1) = false := by simp [h4]
    have e2 : (q.1 + 1 == i && q.2.category == 2) = false := by
      by_cases z : q.1 + 1 = i
      · have : ¬ q.2.category = 2 := fun w => h3 ⟨z, w⟩
        simp [this]
      · simp [z]
    rw [e1, e2, e3]; rfl
/-- the locals in another order, or fewer of them -/
theorem r_lv (lv' : List (Nat × Value)) (h : lv'.map (fun q => lvg lv q.1) = lv'.map (fun q => some q.2)) (k : Wp κ y d kc ks pc lv' st g Q) : Wp κ y d kc ks pc lv st g Q := by
  intro p l e R s m args below meth c H locs cells slots mc ms ls M hR h1 h2 hG hS hl
  refine k p l e R s m args below meth c H locs cells slots mc ms ls M hR h1 h2 hG hS ⟨hl.1, hl.2.1, fun q hq => ?_⟩
  obtain ⟨i, hi⟩ := List.getElem?_of_mem hq
  have h9 := congrArg (fun z => z[i]?) h
  simp only [List.getElem?_map, hi, Option.map_some] at h9
  exact lvg_has hl (Option.some.inj h9)
/-- less may come than is left -/
theorem r_less {kc' ks' : Nat} (h3 : kc' ≤ kc) (h4 : ks' ≤ ks) (k : Wp κ y d kc' ks' pc lv st g Q) : Wp κ y d kc ks pc lv st g Q :=
  fun p l e R s m args below meth c H locs cells slots mc ms ls M hR h1 h2 hG hS hl => k p l e R s m args below meth c H locs cells slots mc ms ls M hR (by omega) (by omega) hG hS hl
theorem r_post {Q' : Option Value → GG → Prop} (h : ∀ v g', Q' v g' → Q v g') (k : Wp κ y d kc ks pc lv st g Q') : Wp κ y d kc ks pc lv st g Q := by
  intro p l e R s m args below meth c H locs cells slots mc ms ls M hR h1 h2 hG hS hl T hT X
  obtain ⟨t, a1, o, b1, b2, ⟨⟨v, g', b3, b4, b5⟩, b6⟩, b7⟩ := k p l e R s m args below meth c H locs cells slots mc ms ls M hR h1 h2 hG hS hl T hT X
  exact ⟨t, a1, o, b1, b2, ⟨⟨v, g', b3, h _ _ b4, b5⟩, b6⟩, b7⟩
/-- a value on the stack under another name -/
theorem r_st {st' : List Value} (h : st = st') (k : Wp κ y d kc ks pc lv st' g Q) : Wp κ y d kc ks pc lv st g Q := h ▸ k
theorem r_rf {o : Option Nat} {b : Nat} (h : o = some b) (k : Wp κ y d kc ks pc lv (.ref b :: st) g Q) : Wp κ y d kc ks pc lv (va_rf o :: st) g Q := by subst h; exact k
theorem r_rfN {o : Option Nat} (h : o = none) (k : Wp κ y d kc ks pc lv (.null :: st) g Q) : Wp κ y d kc ks pc lv (va_rf o :: st) g Q := by subst h; exact k
theorem r_iv {x x' : Int32} (h : x = x') (k : Wp κ y d kc ks pc lv (.int x' :: st) g Q) : Wp κ y d kc ks pc lv (.int x :: st) g Q := by subst h; exact k
theorem r_iconst {n : Int} (hd : decode y.2.1 pc = .ok (.iconst n, 1)) (v : Int32) (hv : Int32.ofInt n = v) (k : Wp κ y d kc ks (pc + 1) lv (.int v :: st) g Q) : Wp κ y d kc ks pc lv st g Q :=
  Row.go (fun p l e R s m args below meth c H locs cells slots ls Q M hl w => lv_iconst M.1 M.2.1 hd hv w) k
theorem r_bipush {n : Int} (hd : decode y.2.1 pc = .ok (.bipush n, 2)) (v : Int32) (hv : (Int8.ofInt n).toInt32 = v) (k : Wp κ y d kc ks (pc + 2) lv (.int v :: st) g Q) : Wp κ y d kc ks pc lv st g Q :=
  Row.go (fun p l e R s m args below meth c H locs cells slots ls Q M hl w => lv_bipush M.1 M.2.1 hd hv w) k
theorem r_sipush {n : Int} (hd : decode y.2.1 pc = .ok (.sipush n, 3)) (v : Int32) (hv : (Int16.ofInt n).toInt32 = v) (k : Wp κ y d kc ks (pc + 3) lv (.int v :: st) g Q) : Wp κ y d kc ks pc lv st g Q :=
  Row.go (fun p l e R s m args below meth c H locs cells slots ls Q M hl w => lv_sipush M.1 M.2.1 hd hv w) k
theorem r_lconst {n : Fin 2} (hd : decode y.2.1 pc = .ok (.lconst n, 1)) (v : Int64) (hv : Int64.ofNat (n : Nat) = v) (k : Wp κ y d kc ks (pc + 1) lv (.long v :: st) g Q) : Wp κ y d kc ks pc lv st g Q :=
  Row.go (fun p l e R s m args below meth c H locs cells slots ls Q M hl w => lv_lconst M.1 M.2.1 hd hv w) k
theorem r_null  (hd : decode y.2.1 pc = .ok (.aconst_null, 1)) (k : Wp κ y d kc ks (pc + 1) lv (.null :: st) g Q) : Wp κ y d kc ks pc lv st g Q :=
  Row.go (fun p l e R s m args below meth c H locs cells slots ls Q M hl w => lv_null M.1 M.2.1 hd w) k
theorem r_ldc {i : Nat} {v : Int32} (hd : decode y.2.1 pc = .ok (.ldc i, 2)) (hm : Cond.constant y.1.cls i v ∈ AL) (k : Wp κ y d kc ks (pc + 2) lv (.int v :: st) g Q) : Wp κ y d kc ks pc lv st g Q :=
  Row.go (fun p l e R s m args below meth c H locs cells slots ls Q M hl w => lv_ldc M.1 M.2.1 M.2.2.2.2.1 (M.2.2.2.2.2.2.2.1 _ hm) hd w) k
theorem r_ldcw {i : Nat} {v : Int32} (hd : decode y.2.1 pc = .ok (.ldc_w i, 3)) (hm : Cond.constant y.1.cls i v ∈ AL) (k : Wp κ y d kc ks (pc + 3) lv (.int v :: st) g Q) : Wp κ y d kc ks pc lv st g Q :=
  Row.go (fun p l e R s m args below meth c H locs cells slots ls Q M hl w => lv_ldcw M.1 M.2.1 M.2.2.2.2.1 (M.2.2.2.2.2.2.2.1 _ hm) hd w) k
theorem r_ldc2 {i : Nat} {v : Int64} (hd : decode y.2.1 pc = .ok (.ldc2_w i, 3)) (hm : Cond.constantLong y.1.cls i v ∈ AL) (k : Wp κ y d kc ks (pc + 3) lv (.long v :: st) g Q) : Wp κ y d kc ks pc lv st g Q :=
  Row.go (fun p l e R s m args below meth c H locs cells slots ls Q M hl w => lv_ldc2 M.1 M.2.1 M.2.2.2.2.1 (M.2.2.2.2.2.2.2.1 _ hm) hd w) k
theorem r_iload_n {q : Fin 4} {i : Nat} {x : Int32} (hd : decode y.2.1 pc = .ok (.iload_n q, 1)) (hi : (q : Nat) = i) (hg : lvg lv i = some (.int x)) (k : Wp κ y d kc ks (pc + 1) lv (.int x :: st) g Q) : Wp κ y d kc ks pc lv st g Q :=
  Row.go (fun p l e R s m args below meth c H locs cells slots ls Q M hl w => lv_iload_n M.1 M.2.1 hd hi (lvg_has hl hg) w) k
theorem r_iload {i : Nat} {x : Int32} (hd : decode y.2.1 pc = .ok (.iload i, 2)) (hg : lvg lv i = some (.int x)) (k : Wp κ y d kc ks (pc + 2) lv (.int x :: st) g Q) : Wp κ y d kc ks pc lv st g Q :=
  Row.go (fun p l e R s m args below meth c H locs cells slots ls Q M hl w => lv_iload M.1 M.2.1 hd (lvg_has hl hg) w) k
theorem r_lload_n {q : Fin 4} {i : Nat} {x : Int64} (hd : decode y.2.1 pc = .ok (.lload_n q, 1)) (hi : (q : Nat) = i) (hg : lvg lv i = some (.long x)) (k : Wp κ y d kc ks (pc + 1) lv (.long x :: st) g Q) : Wp κ y d kc ks pc lv st g Q :=
  Row.go (fun p l e R s m args below meth c H locs cells slots ls Q M hl w => lv_lload_n M.1 M.2.1 hd hi (lvg_has hl hg) w) k
theorem r_lload {i : Nat} {x : Int64} (hd : decode y.2.1 pc = .ok (.lload i, 2)) (hg : lvg lv i = some (.long x)) (k : Wp κ y d kc ks (pc + 2) lv (.long x :: st) g Q) : Wp κ y d kc ks pc lv st g Q :=
  Row.go (fun p l e R s m args below meth c H locs cells slots ls Q M hl w => lv_lload M.1 M.2.1 hd (lvg_has hl hg) w) k
theorem r_aload_n {q : Fin 4} {i x : Nat} (hd : decode y.2.1 pc = .ok (.aload_n q, 1)) (hi : (q : Nat) = i) (hg : lvg lv i = some (.ref x)) (k : Wp κ y d kc ks (pc + 1) lv (.ref x :: st) g Q) : Wp κ y d kc ks pc lv st g Q :=
  Row.go (fun p l e R s m args below meth c H locs cells slots ls Q M hl w => lv_aload_n M.1 M.2.1 hd hi (lvg_has hl hg) w) k
theorem r_aload {i x : Nat} (hd : decode y.2.1 pc = .ok (.aload i, 2)) (hg : lvg lv i = some (.ref x)) (k : Wp κ y d kc ks (pc + 2) lv (.ref x :: st) g Q) : Wp κ y d kc ks pc lv st g Q :=
  Row.go (fun p l e R s m args below meth c H locs cells slots ls Q M hl w => lv_aload M.1 M.2.1 hd (lvg_has hl hg) w) k
theorem r_aload_nN {q : Fin 4} {i : Nat} (hd : decode y.2.1 pc = .ok (.aload_n q, 1)) (hi : (q : Nat) = i) (hg : lvg lv i = some .null) (k : Wp κ y d kc ks (pc + 1) lv (.null :: st) g Q) : Wp κ y d kc ks pc lv st g Q :=
  Row.go (fun p l e R s m args below meth c H locs cells slots ls Q M hl w => lv_aload_nN M.1 M.2.1 hd hi (lvg_has hl hg) w) k
theorem r_aloadN {i : Nat} (hd : decode y.2.1 pc = .ok (.aload i, 2)) (hg : lvg lv i = some .null) (k : Wp κ y d kc ks (pc + 2) lv (.null :: st) g Q) : Wp κ y d kc ks pc lv st g Q :=
  Row.go (fun p l e R s m args below meth c H locs cells slots ls Q M hl w => lv_aloadN M.1 M.2.1 hd (lvg_has hl hg) w) k
theorem r_aload_nO {q : Fin 4} {i : Nat} {z : Option Nat} (hd : decode y.2.1 pc = .ok (.aload_n q, 1)) (hi : (q : Nat) = i) (hg : lvg lv i = some (va_rf z)) (k : Wp κ y d kc ks (pc + 1) lv (va_rf z :: st) g Q) : Wp κ y d kc ks pc lv st g Q :=
  Row.go (fun p l e R s m args below meth c H locs cells slots ls Q M hl w => (by cases z with
    | none => exact lv_aload_nN M.1 M.2.1 hd hi (lvg_has hl hg) w
    | some b => exact lv_aload_n M.1 M.2.1 hd hi (lvg_has hl hg) w)) k
theorem r_aloadO {i : Nat} {z : Option Nat} (hd : decode y.2.1 pc = .ok (.aload i, 2)) (hg : lvg lv i = some (va_rf z)) (k : Wp κ y d kc ks (pc + 2) lv (va_rf z :: st) g Q) : Wp κ y d kc ks pc lv st g Q :=
  Row.go (fun p l e R s m args below meth c H locs cells slots ls Q M hl w => (by cases z with
    | none => exact lv_aloadN M.1 M.2.1 hd (lvg_has hl hg) w
    | some b => exact lv_aload M.1 M.2.1 hd (lvg_has hl hg) w)) k
theorem r_iadd {x z : Int32} (hd : decode y.2.1 pc = .ok (.iadd, 1)) (k : Wp κ y d kc ks (pc + 1) lv (.int (x + z) :: st) g Q) : Wp κ y d kc ks pc lv (.int z :: .int x :: st) g Q :=
  Row.go (fun p l e R s m args below meth c H locs cells slots ls Q M hl w => lv_iadd M.1 M.2.1 hd w) k
theorem r_isub {x z : Int32} (hd : decode y.2.1 pc = .ok (.isub, 1)) (k : Wp κ y d kc ks (pc + 1) lv (.int (x - z) :: st) g Q) : Wp κ y d kc ks pc lv (.int z :: .int x :: st) g Q :=
  Row.go (fun p l e R s m args below meth c H locs cells slots ls Q M hl w => lv_isub M.1 M.2.1 hd w) k
theorem r_imul {x z : Int32} (hd : decode y.2.1 pc = .ok (.imul, 1)) (k : Wp κ y d kc ks (pc + 1) lv (.int (x * z) :: st) g Q) : Wp κ y d kc ks pc lv (.int z :: .int x :: st) g Q :=
  Row.go (fun p l e R s m args below meth c H locs cells slots ls Q M hl w => lv_imul M.1 M.2.1 hd w) k
theorem r_iand {x z : Int32} (hd : decode y.2.1 pc = .ok (.iand, 1)) (k : Wp κ y d kc ks (pc + 1) lv (.int (x &&& z) :: st) g Q) : Wp κ y d kc ks pc lv (.int z :: .int x :: st) g Q :=
  Row.go (fun p l e R s m args below meth c H locs cells slots ls Q M hl w => lv_iand M.1 M.2.1 hd w) k
theorem r_ior {x z : Int32} (hd : decode y.2.1 pc = .ok (.ior, 1)) (k : Wp κ y d kc ks (pc + 1) lv (.int (x ||| z) :: st) g Q) : Wp κ y d kc ks pc lv (.int z :: .int x :: st) g Q :=
  Row.go (fun p l e R s m args below meth c H locs cells slots ls Q M hl w => lv_ior M.1 M.2.1 hd w) k
theorem r_ishl {x z : Int32} (hd : decode y.2.1 pc = .ok (.ishl, 1)) (k : Wp κ y d kc ks (pc + 1) lv (.int (x <<< (z &&& 31)) :: st) g Q) : Wp κ y d kc ks pc lv (.int z :: .int x :: st) g Q :=
  Row.go (fun p l e R s m args below meth c H locs cells slots ls Q M hl w => lv_ishl M.1 M.2.1 hd w) k
theorem r_ishr {x z : Int32} (hd : decode y.2.1 pc = .ok (.ishr, 1)) (k : Wp κ y d kc ks (pc + 1) lv (.int (x >>> (z &&& 31)) :: st) g Q) : Wp κ y d kc ks pc lv (.int z :: .int x :: st) g Q :=
  Row.go (fun p l e R s m args below meth c H locs cells slots ls Q M hl w => lv_ishr M.1 M.2.1 hd w) k
theorem r_idiv {x z : Int32} (hd : decode y.2.1 pc = .ok (.idiv, 1)) (hz : ¬ z = 0) (k : Wp κ y d kc ks (pc + 1) lv (.int (x / z) :: st) g Q) : Wp κ y d kc ks pc lv (.int z :: .int x :: st) g Q :=
  Row.go (fun p l e R s m args below meth c H locs cells slots ls Q M hl w => lv_idiv M.1 M.2.1 hd hz w) k
theorem r_irem {x z : Int32} (hd : decode y.2.1 pc = .ok (.irem, 1)) (hz : ¬ z = 0) (k : Wp κ y d kc ks (pc + 1) lv (.int (x - x / z * z) :: st) g Q) : Wp κ y d kc ks pc lv (.int z :: .int x :: st) g Q :=
  Row.go (fun p l e R s m args below meth c H locs cells slots ls Q M hl w => lv_irem M.1 M.2.1 hd hz w) k
theorem r_iaddN {a b : Nat} (hd : decode y.2.1 pc = .ok (.iadd, 1)) (k : Wp κ y d kc ks (pc + 1) lv (.int (nI (a + b)) :: st) g Q) : Wp κ y d kc ks pc lv (.int (nI b) :: .int (nI a) :: st) g Q :=
  Row.go (fun p l e R s m args below meth c H locs cells slots ls Q M hl w => lv_iadd M.1 M.2.1 hd (by rw [nI_add]; exact w)) k
theorem r_i2l {x : Int32} (hd : decode y.2.1 pc = .ok (.i2l, 1)) (k : Wp κ y d kc ks (pc + 1) lv (.long x.toInt64 :: st) g Q) : Wp κ y d kc ks pc lv (.int x :: st) g Q :=
  Row.go (fun p l e R s m args below meth c H locs cells slots ls Q M hl w => lv_i2l M.1 M.2.1 hd rfl w) k
theorem r_ladd {x z : Int64} (hd : decode y.2.1 pc = .ok (.ladd, 1)) (k : Wp κ y d kc ks (pc + 1) lv (.long (x + z) :: st) g Q) : Wp κ y d kc ks pc lv (.long z :: .long x :: st) g Q :=
  Row.go (fun p l e R s m args below meth c H locs cells slots ls Q M hl w => lv_ladd M.1 M.2.1 hd w) k
theorem r_lmul {x z : Int64} (hd : decode y.2.1 pc = .ok (.lmul, 1)) (k : Wp κ y d kc ks (pc + 1) lv (.long (x * z) :: st) g Q) : Wp κ y d kc ks pc lv (.long z :: .long x :: st) g Q :=
  Row.go (fun p l e R s m args below meth c H locs cells slots ls Q M hl w => lv_lmul M.1 M.2.1 hd w) k
theorem r_lcmp {x z : Int64} (hd : decode y.2.1 pc = .ok (.lcmp, 1)) (k : Wp κ y d kc ks (pc + 1) lv (.int (lg_cmp x z) :: st) g Q) : Wp κ y d kc ks pc lv (.long z :: .long x :: st) g Q :=
  Row.go (fun p l e R s m args below meth c H locs cells slots ls Q M hl w => W.lcmp M.1 M.2.1 hd w) k
theorem r_dup {v : Value} (hd : decode y.2.1 pc = .ok (.dup, 1)) (hc : v.category = 1) (k : Wp κ y d kc ks (pc + 1) lv (v :: v :: st) g Q) : Wp κ y d kc ks pc lv (v :: st) g Q :=
  Row.go (fun p l e R s m args below meth c H locs cells slots ls Q M hl w => lv_dup M.1 M.2.1 hd hc w) k
theorem r_dup2 {v u : Value} (hd : decode y.2.1 pc = .ok (.dup2, 1)) (hc : v.category = 1) (hc2 : u.category = 1) (k : Wp κ y d kc ks (pc + 1) lv (v :: u :: v :: u :: st) g Q) : Wp κ y d kc ks pc lv (v :: u :: st) g Q :=
  Row.go (fun p l e R s m args below meth c H locs cells slots ls Q M hl w => lv_dup2_11 M.1 M.2.1 hd hc hc2 w) k
theorem r_pop {v : Value} (hd : decode y.2.1 pc = .ok (.pop, 1)) (hc : v.category = 1) (k : Wp κ y d kc ks (pc + 1) lv st g Q) : Wp κ y d kc ks pc lv (v :: st) g Q :=
  Row.go (fun p l e R s m args below meth c H locs cells slots ls Q M hl w => lv_pop M.1 M.2.1 hd hc w) k
theorem r_goto {off : Int} (tgt : Nat) (hd : decode y.2.1 pc = .ok (.goto off, 3)) (ht : (pc : Int) + off = (tgt : Int)) (k : Wp κ y d kc ks tgt lv st g Q) : Wp κ y d kc ks pc lv st g Q :=
  Row.go (fun p l e R s m args below meth c H locs cells slots ls Q M hl w => lv_goto M.1 M.2.1 hd ht w) k
theorem r_ifnonnull {b : Nat} {off : Int} (tgt : Nat) (hd : decode y.2.1 pc = .ok (.ifnonnull off, 3)) (ht : (pc : Int) + off = (tgt : Int)) (k : Wp κ y d kc ks tgt lv st g Q) : Wp κ y d kc ks pc lv (.ref b :: st) g Q :=
  Row.go (fun p l e R s m args below meth c H locs cells slots ls Q M hl w => lv_ifnonnull M.1 M.2.1 hd ht w) k
theorem r_ifnull {b : Nat} {off : Int} (hd : decode y.2.1 pc = .ok (.ifnull off, 3)) (k : Wp κ y d kc ks (pc + 3) lv st g Q) : Wp κ y d kc ks pc lv (.ref b :: st) g Q :=
  Row.go (fun p l e R s m args below meth c H locs cells slots ls Q M hl w => lv_ifnull M.1 M.2.1 hd w) k
theorem r_ifnullN {off : Int} (tgt : Nat) (hd : decode y.2.1 pc = .ok (.ifnull off, 3)) (ht : (pc : Int) + off = (tgt : Int)) (k : Wp κ y d kc ks tgt lv st g Q) : Wp κ y d kc ks pc lv (.null :: st) g Q :=
  Row.go (fun p l e R s m args below meth c H locs cells slots ls Q M hl w => lv_ifnullN M.1 M.2.1 hd ht w) k
theorem r_ifnonnullN {off : Int} (hd : decode y.2.1 pc = .ok (.ifnonnull off, 3)) (k : Wp κ y d kc ks (pc + 3) lv st g Q) : Wp κ y d kc ks pc lv (.null :: st) g Q :=
  Row.go (fun p l e R s m args below meth c H locs cells slots ls Q M hl w => lv_ifnonnullN M.1 M.2.1 hd w) k
theorem r_tblIn {dflt lo hi : Int} {offs : Array Int} {len : Nat} {x : Int32} {off : Int} (tgt : Nat) (hd : decode y.2.1 pc = .ok (.tableswitch dflt lo hi offs, len)) (h1 : ¬ x.toInt < lo) (h2 : ¬ hi < x.toInt) (ho : offs[(x.toInt - lo).toNat]? = some off) (ht : (pc : Int) + off = (tgt : Int)) (k : Wp κ y d kc ks tgt lv st g Q) : Wp κ y d kc ks pc lv (.int x :: st) g Q :=
  Row.go (fun p l e R s m args below meth c H locs cells slots ls Q M hl w => lv_tableIn M.1 M.2.1 hd h1 h2 ho ht w) k
theorem r_tblOut {dflt lo hi : Int} {offs : Array Int} {len : Nat} {x : Int32} (tgt : Nat) (hd : decode y.2.1 pc = .ok (.tableswitch dflt lo hi offs, len)) (h1 : x.toInt < lo ∨ hi < x.toInt) (ht : (pc : Int) + dflt = (tgt : Int)) (k : Wp κ y d kc ks tgt lv st g Q) : Wp κ y d kc ks pc lv (.int x :: st) g Q :=
  Row.go (fun p l e R s m args below meth c H locs cells slots ls Q M hl w => lv_tableOut M.1 M.2.1 hd h1 ht w) k
theorem r_lookup {dflt : Int} {ps : Array (Int × Int)} {len : Nat} {x : Int32} {off : Int} (tgt : Nat) (hd : decode y.2.1 pc = .ok (.lookupswitch dflt ps, len)) (hp : (ps.toList.zip (ps.toList.drop 1)).all (fun (a, next) => a.1 < next.1) = true) (ho : Op.lookupswitch.offset ps.toList dflt x.toInt = off) (ht : (pc : Int) + off = (tgt : Int)) (k : Wp κ y d kc ks tgt lv st g Q) : Wp κ y d kc ks pc lv (.int x :: st) g Q :=
  Row.go (fun p l e R s m args below meth c H locs cells slots ls Q M hl w => lv_lookup M.1 M.2.1 hd hp ho ht w) k
theorem r_if_eq {x : Int32} {off : Int} (tgt : Nat) (hd : decode y.2.1 pc = .ok (.ifCond .eq off, 3)) (ht : (pc : Int) + off = (tgt : Int)) (kt : x = 0 → Wp κ y d kc ks tgt lv st g Q) (kf : ¬ x = 0 → Wp κ y d kc ks (pc + 3) lv st g Q) : Wp κ y d kc ks pc lv (.int x :: st) g Q :=
  fun p l e R s m args below meth c H locs cells slots mc ms ls M hR h1 h2 hG hS hl => lv_if_eq M.1 M.2.1 hd ht (fun h => kt h p l e R s m args below meth c H locs cells slots mc ms ls M hR h1 h2 hG hS hl) (fun h => kf h p l e R s m args below meth c H locs cells slots mc ms ls M hR h1 h2 hG hS hl)
theorem r_if_ne {x : Int32} {off : Int} (tgt : Nat) (hd : decode y.2.1 pc = .ok (.ifCond .ne off, 3)) (ht : (pc : Int) + off = (tgt : Int)) (kt : ¬ x = 0 → Wp κ y d kc ks tgt lv st g Q) (kf : x = 0 → Wp κ y d kc ks (pc + 3) lv st g Q) : Wp κ y d kc ks pc lv (.int x :: st) g Q :=
  fun p l e R s m args below meth c H locs cells slots mc ms ls M hR h1 h2 hG hS hl => lv_if_ne M.1 M.2.1 hd ht (fun h => kt h p l e R s m args below meth c H locs cells slots mc ms ls M hR h1 h2 hG hS hl) (fun h => kf h p l e R s m args below meth c H locs cells slots mc ms ls M hR h1 h2 hG hS hl)
theorem r_if_lt {x : Int32} {off : Int} (tgt : Nat) (hd : decode y.2.1 pc = .ok (.ifCond .lt off, 3)) (ht : (pc : Int) + off = (tgt : Int)) (kt : x < 0 → Wp κ y d kc ks tgt lv st g Q) (kf : ¬ x < 0 → Wp κ y d kc ks (pc + 3) lv st g Q) : Wp κ y d kc ks pc lv (.int x :: st) g Q :=
  fun p l e R s m args below meth c H locs cells slots mc ms ls M hR h1 h2 hG hS hl => lv_if_lt M.1 M.2.1 hd ht (fun h => kt h p l e R s m args below meth c H locs cells slots mc ms ls M hR h1 h2 hG hS hl) (fun h => kf h p l e R s m args below meth c H locs cells slots mc ms ls M hR h1 h2 hG hS hl)
theorem r_if_ge {x : Int32} {off : Int} (tgt : Nat) (hd : decode y.2.1 pc = .ok (.ifCond .ge off, 3)) (ht : (pc : Int) + off = (tgt : Int)) (kt : 0 ≤ x → Wp κ y d kc ks tgt lv st g Q) (kf : ¬ 0 ≤ x → Wp κ y d kc ks (pc + 3) lv st g Q) : Wp κ y d kc ks pc lv (.int x :: st) g Q :=
  fun p l e R s m args below meth c H locs cells slots mc ms ls M hR h1 h2 hG hS hl => lv_if_ge M.1 M.2.1 hd ht (fun h => kt h p l e R s m args below meth c H locs cells slots mc ms ls M hR h1 h2 hG hS hl) (fun h => kf h p l e R s m args below meth c H locs cells slots mc ms ls M hR h1 h2 hG hS hl)
theorem r_if_gt {x : Int32} {off : Int} (tgt : Nat) (hd : decode y.2.1 pc = .ok (.ifCond .gt off, 3)) (ht : (pc : Int) + off = (tgt : Int)) (kt : 0 < x → Wp κ y d kc ks tgt lv st g Q) (kf : ¬ 0 < x → Wp κ y d kc ks (pc + 3) lv st g Q) : Wp κ y d kc ks pc lv (.int x :: st) g Q :=
  fun p l e R s m args below meth c H locs cells slots mc ms ls M hR h1 h2 hG hS hl => lv_if_gt M.1 M.2.1 hd ht (fun h => kt h p l e R s m args below meth c H locs cells slots mc ms ls M hR h1 h2 hG hS hl) (fun h => kf h p l e R s m args below meth c H locs cells slots mc ms ls M hR h1 h2 hG hS hl)
theorem r_if_le {x : Int32} {off : Int} (tgt : Nat) (hd : decode y.2.1 pc = .ok (.ifCond .le off, 3)) (ht : (pc : Int) + off = (tgt : Int)) (kt : x ≤ 0 → Wp κ y d kc ks tgt lv st g Q) (kf : ¬ x ≤ 0 → Wp κ y d kc ks (pc + 3) lv st g Q) : Wp κ y d kc ks pc lv (.int x :: st) g Q :=
  fun p l e R s m args below meth c H locs cells slots mc ms ls M hR h1 h2 hG hS hl => lv_if_le M.1 M.2.1 hd ht (fun h => kt h p l e R s m args below meth c H locs cells slots mc ms ls M hR h1 h2 hG hS hl) (fun h => kf h p l e R s m args below meth c H locs cells slots mc ms ls M hR h1 h2 hG hS hl)
theorem r_ic_eq {x z : Int32} {off : Int} (tgt : Nat) (hd : decode y.2.1 pc = .ok (.if_icmp .eq off, 3)) (ht : (pc : Int) + off = (tgt : Int)) (kt : x = z → Wp κ y d kc ks tgt lv st g Q) (kf : ¬ x = z → Wp κ y d kc ks (pc + 3) lv st g Q) : Wp κ y d kc ks pc lv (.int z :: .int x :: st) g Q :=
  fun p l e R s m args below meth c H locs cells slots mc ms ls M hR h1 h2 hG hS hl => lv_icmp_eq M.1 M.2.1 hd ht (fun h => kt h p l e R s m args below meth c H locs cells slots mc ms ls M hR h1 h2 hG hS hl) (fun h => kf h p l e R s m args below meth c H locs cells slots mc ms ls M hR h1 h2 hG hS hl)
theorem r_ic_ne {x z : Int32} {off : Int} (tgt : Nat) (hd : decode y.2.1 pc = .ok (.if_icmp .ne off, 3)) (ht : (pc : Int) + off = (tgt : Int)) (kt : ¬ x = z → Wp κ y d kc ks tgt lv st g Q) (kf : x = z → Wp κ y d kc ks (pc + 3) lv st g Q) : Wp κ y d kc ks pc lv (.int z :: .int x :: st) g Q :=
  fun p l e R s m args below meth c H locs cells slots mc ms ls M hR h1 h2 hG hS hl => lv_icmp_ne M.1 M.2.1 hd ht (fun h => kt h p l e R s m args below meth c H locs cells slots mc ms ls M hR h1 h2 hG hS hl) (fun h => kf h p l e R s m args below meth c H locs cells slots mc ms ls M hR h1 h2 hG hS hl)
theorem r_ic_lt {x z : Int32} {off : Int} (tgt : Nat) (hd : decode y.2.1 pc = .ok (.if_icmp .lt off, 3)) (ht : (pc : Int) + off = (tgt : Int)) (kt : x < z → Wp κ y d kc ks tgt lv st g Q) (kf : ¬ x < z → Wp κ y d kc ks (pc + 3) lv st g Q) : Wp κ y d kc ks pc lv (.int z :: .int x :: st) g Q :=
  fun p l e R s m args below meth c H locs cells slots mc ms ls M hR h1 h2 hG hS hl => lv_icmp_lt M.1 M.2.1 hd ht (fun h => kt h p l e R s m args below meth c H locs cells slots mc ms ls M hR h1 h2 hG hS hl) (fun h => kf h p l e R s m args below meth c H locs cells slots mc ms ls M hR h1 h2 hG hS hl)
theorem r_ic_ge {x z : Int32} {off : Int} (tgt : Nat) (hd : decode y.2.1 pc = .ok (.if_icmp .ge off, 3)) (ht : (pc : Int) + off = (tgt : Int)) (kt : z ≤ x → Wp κ y d kc ks tgt lv st g Q) (kf : ¬ z ≤ x → Wp κ y d kc ks (pc + 3) lv st g Q) : Wp κ y d kc ks pc lv (.int z :: .int x :: st) g Q :=
  fun p l e R s m args below meth c H locs cells slots mc ms ls M hR h1 h2 hG hS hl => lv_icmp_ge M.1 M.2.1 hd ht (fun h => kt h p l e R s m args below meth c H locs cells slots mc ms ls M hR h1 h2 hG hS hl) (fun h => kf h p l e R s m args below meth c H locs cells slots mc ms ls M hR h1 h2 hG hS hl)
theorem r_ic_gt {x z : Int32} {off : Int} (tgt : Nat) (hd : decode y.2.1 pc = .ok (.if_icmp .gt off, 3)) (ht : (pc : Int) + off = (tgt : Int)) (kt : z < x → Wp κ y d kc ks tgt lv st g Q) (kf : ¬ z < x → Wp κ y d kc ks (pc + 3) lv st g Q) : Wp κ y d kc ks pc lv (.int z :: .int x :: st) g Q :=
  fun p l e R s m args below meth c H locs cells slots mc ms ls M hR h1 h2 hG hS hl => lv_icmp_gt M.1 M.2.1 hd ht (fun h => kt h p l e R s m args below meth c H locs cells slots mc ms ls M hR h1 h2 hG hS hl) (fun h => kf h p l e R s m args below meth c H locs cells slots mc ms ls M hR h1 h2 hG hS hl)
theorem r_ic_le {x z : Int32} {off : Int} (tgt : Nat) (hd : decode y.2.1 pc = .ok (.if_icmp .le off, 3)) (ht : (pc : Int) + off = (tgt : Int)) (kt : x ≤ z → Wp κ y d kc ks tgt lv st g Q) (kf : ¬ x ≤ z → Wp κ y d kc ks (pc + 3) lv st g Q) : Wp κ y d kc ks pc lv (.int z :: .int x :: st) g Q :=
  fun p l e R s m args below meth c H locs cells slots mc ms ls M hR h1 h2 hG hS hl => lv_icmp_le M.1 M.2.1 hd ht (fun h => kt h p l e R s m args below meth c H locs cells slots mc ms ls M hR h1 h2 hG hS hl) (fun h => kf h p l e R s m args below meth c H locs cells slots mc ms ls M hR h1 h2 hG hS hl)
theorem r_ic_eqN {a b : Nat} {off : Int} (tgt : Nat) (hd : decode y.2.1 pc = .ok (.if_icmp .eq off, 3)) (ht : (pc : Int) + off = (tgt : Int)) (ha : a < 2 ^ 31) (hb : b < 2 ^ 31) (kt : a = b → Wp κ y d kc ks tgt lv st g Q) (kf : ¬ a = b → Wp κ y d kc ks (pc + 3) lv st g Q) : Wp κ y d kc ks pc lv (.int (nI b) :: .int (nI a) :: st) g Q :=
  fun p l e R s m args below meth c H locs cells slots mc ms ls M hR h1 h2 hG hS hl => lv_icmp_eq M.1 M.2.1 hd ht (fun h => kt ((nI_eq ha hb).mp h) p l e R s m args below meth c H locs cells slots mc ms ls M hR h1 h2 hG hS hl) (fun h => kf (fun z => h ((nI_eq ha hb).mpr z)) p l e R s m args below meth c H locs cells slots mc ms ls M hR h1 h2 hG hS hl)
theorem r_ic_neN {a b : Nat} {off : Int} (tgt : Nat) (hd : decode y.2.1 pc = .ok (.if_icmp .ne off, 3)) (ht : (pc : Int) + off = (tgt : Int)) (ha : a < 2 ^ 31) (hb : b < 2 ^ 31) (kt : ¬ a = b → Wp κ y d kc ks tgt lv st g Q) (kf : a = b → Wp κ y d kc ks (pc + 3) lv st g Q) : Wp κ y d kc ks pc lv (.int (nI b) :: .int (nI a) :: st) g Q :=
  fun p l e R s m args below meth c H locs cells slots mc ms ls M hR h1 h2 hG hS hl => lv_icmp_ne M.1 M.2.1 hd ht (fun h => kt (fun z => h ((nI_eq ha hb).mpr z)) p l e R s m args below meth c H locs cells slots mc ms ls M hR h1 h2 hG hS hl) (fun h => kf ((nI_eq ha hb).mp h) p l e R s m args below meth c H locs cells slots mc ms ls M hR h1 h2 hG hS hl)
theorem r_ic_ltN {a b : Nat} {off : Int} (tgt : Nat) (hd : decode y.2.1 pc = .ok (.if_icmp .lt off, 3)) (ht : (pc : Int) + off = (tgt : Int)) (ha : a < 2 ^ 31) (hb : b < 2 ^ 31) (kt : a < b → Wp κ y d kc ks tgt lv st g Q) (kf : b ≤ a → Wp κ y d kc ks (pc + 3) lv st g Q) : Wp κ y d kc ks pc lv (.int (nI b) :: .int (nI a) :: st) g Q :=
  fun p l e R s m args below meth c H locs cells slots mc ms ls M hR h1 h2 hG hS hl => lv_icmp_lt M.1 M.2.1 hd ht (fun h => kt ((nI_ltI ha hb).mp h) p l e R s m args below meth c H locs cells slots mc ms ls M hR h1 h2 hG hS hl) (fun h => kf (Nat.le_of_not_lt fun z => h ((nI_ltI ha hb).mpr z)) p l e R s m args below meth c H locs cells slots mc ms ls M hR h1 h2 hG hS hl)
theorem r_ic_geN {a b : Nat} {off : Int} (tgt : Nat) (hd : decode y.2.1 pc = .ok (.if_icmp .ge off, 3)) (ht : (pc : Int) + off = (tgt : Int)) (ha : a < 2 ^ 31) (hb : b < 2 ^ 31) (kt : b ≤ a → Wp κ y d kc ks tgt lv st g Q) (kf : a < b → Wp κ y d kc ks (pc + 3) lv st g Q) : Wp κ y d kc ks pc lv (.int (nI b) :: .int (nI a) :: st) g Q :=
  fun p l e R s m args below meth c H locs cells slots mc ms ls M hR h1 h2 hG hS hl => lv_icmp_ge M.1 M.2.1 hd ht (fun h => kt ((nI_leI hb ha).mp h) p l e R s m args below meth c H locs cells slots mc ms ls M hR h1 h2 hG hS hl) (fun h => kf (Nat.lt_of_not_le fun z => h ((nI_leI hb ha).mpr z)) p l e R s m args below meth c H locs cells slots mc ms ls M hR h1 h2 hG hS hl)
theorem r_ic_gtN {a b : Nat} {off : Int} (tgt : Nat) (hd : decode y.2.1 pc = .ok (.if_icmp .gt off, 3)) (ht : (pc : Int) + off = (tgt : Int)) (ha : a < 2 ^ 31) (hb : b < 2 ^ 31) (kt : b < a → Wp κ y d kc ks tgt lv st g Q) (kf : a ≤ b → Wp κ y d kc ks (pc + 3) lv st g Q) : Wp κ y d kc ks pc lv (.int (nI b) :: .int (nI a) :: st) g Q :=
  fun p l e R s m args below meth c H locs cells slots mc ms ls M hR h1 h2 hG hS hl => lv_icmp_gt M.1 M.2.1 hd ht (fun h => kt ((nI_ltI hb ha).mp h) p l e R s m args below meth c H locs cells slots mc ms ls M hR h1 h2 hG hS hl) (fun h => kf (Nat.le_of_not_lt fun z => h ((nI_ltI hb ha).mpr z)) p l e R s m args below meth c H locs cells slots mc ms ls M hR h1 h2 hG hS hl)
theorem r_ic_leN {a b : Nat} {off : Int} (tgt : Nat) (hd : decode y.2.1 pc = .ok (.if_icmp .le off, 3)) (ht : (pc : Int) + off = (tgt : Int)) (ha : a < 2 ^ 31) (hb : b < 2 ^ 31) (kt : a ≤ b → Wp κ y d kc ks tgt lv st g Q) (kf : b < a → Wp κ y d kc ks (pc + 3) lv st g Q) : Wp κ y d kc ks pc lv (.int (nI b) :: .int (nI a) :: st) g Q :=
  fun p l e R s m args below meth c H locs cells slots mc ms ls M hR h1 h2 hG hS hl => lv_icmp_le M.1 M.2.1 hd ht (fun h => kt ((nI_leI ha hb).mp h) p l e R s m args below meth c H locs cells slots mc ms ls M hR h1 h2 hG hS hl) (fun h => kf (Nat.lt_of_not_le fun z => h ((nI_leI ha hb).mpr z)) p l e R s m args below meth c H locs cells slots mc ms ls M hR h1 h2 hG hS hl)
theorem r_ac_eq {x z : Option Nat} {off : Int} (tgt : Nat) (hd : decode y.2.1 pc = .ok (.if_acmp .eq off, 3)) (ht : (pc : Int) + off = (tgt : Int)) (kt : x = z → Wp κ y d kc ks tgt lv st g Q) (kf : ¬ x = z → Wp κ y d kc ks (pc + 3) lv st g Q) : Wp κ y d kc ks pc lv (va_rf z :: va_rf x :: st) g Q :=
  fun p l e R s m args below meth c H locs cells slots mc ms ls M hR h1 h2 hG hS hl => lv_acmp_eq M.1 M.2.1 hd ht (fun h => kt h p l e R s m args below meth c H locs cells slots mc ms ls M hR h1 h2 hG hS hl) (fun h => kf h p l e R s m args below meth c H locs cells slots mc ms ls M hR h1 h2 hG hS hl)
theorem r_ac_ne {x z : Option Nat} {off : Int} (tgt : Nat) (hd : decode y.2.1 pc = .ok (.if_acmp .ne off, 3)) (ht : (pc : Int) + off = (tgt : Int)) (kt : ¬ x = z → Wp κ y d kc ks tgt lv st g Q) (kf : x = z → Wp κ y d kc ks (pc + 3) lv st g Q) : Wp κ y d kc ks pc lv (va_rf z :: va_rf x :: st) g Q :=
  fun p l e R s m args below meth c H locs cells slots mc ms ls M hR h1 h2 hG hS hl => lv_acmp_ne M.1 M.2.1 hd ht (fun h => kt h p l e R s m args below meth c H locs cells slots mc ms ls M hR h1 h2 hG hS hl) (fun h => kf h p l e R s m args below meth c H locs cells slots mc ms ls M hR h1 h2 hG hS hl)
theorem r_ifnonnullO {z : Option Nat} {off : Int} (tgt : Nat) (hd : decode y.2.1 pc = .ok (.ifnonnull off, 3)) (ht : (pc : Int) + off = (tgt : Int)) (kt : ∀ b, z = some b → Wp κ y d kc ks tgt lv st g Q) (kf : z = none → Wp κ y d kc ks (pc + 3) lv st g Q) : Wp κ y d kc ks pc lv (va_rf z :: st) g Q :=
  fun p l e R s m args below meth c H locs cells slots mc ms ls M hR h1 h2 hG hS hl => (by cases z with
    | none => exact lv_ifnonnullN M.1 M.2.1 hd (kf rfl p l e R s m args below meth c H locs cells slots mc ms ls M hR h1 h2 hG hS hl)
    | some b => exact lv_ifnonnull M.1 M.2.1 hd ht (kt b rfl p l e R s m args below meth c H locs cells slots mc ms ls M hR h1 h2 hG hS hl))
theorem r_ifnullO {z : Option Nat} {off : Int} (tgt : Nat) (hd : decode y.2.1 pc = .ok (.ifnull off, 3)) (ht : (pc : Int) + off = (tgt : Int)) (kt : z = none → Wp κ y d kc ks tgt lv st g Q) (kf : ∀ b, z = some b → Wp κ y d kc ks (pc + 3) lv st g Q) : Wp κ y d kc ks pc lv (va_rf z :: st) g Q :=
  fun p l e R s m args below meth c H locs cells slots mc ms ls M hR h1 h2 hG hS hl => (by cases z with
    | none => exact lv_ifnullN M.1 M.2.1 hd ht (kt rfl p l e R s m args below meth c H locs cells slots mc ms ls M hR h1 h2 hG hS hl)
    | some b => exact lv_ifnull M.1 M.2.1 hd (kf b rfl p l e R s m args below meth c H locs cells slots mc ms ls M hR h1 h2 hG hS hl))
theorem r_istore {i : Nat} {x : Int32} (hd : decode y.2.1 pc = .ok (.istore i, 2)) (hn : i < y.2.2.1) (k : Wp κ y d kc ks (pc + 2) (sto i (.int x) lv) st g Q) : Wp κ y d kc ks pc lv (.int x :: st) g Q :=
  fun p l e R s m args below meth c H locs cells slots mc ms ls M hR h1 h2 hG hS hl => lv_istore M.1 M.2.1 hd hl hn rfl (fun ls' hl' => k p l e R s m args below meth c H locs cells slots mc ms ls' M hR h1 h2 hG hS (sto_has hl'))
theorem r_istore_n {q : Fin 4} {i : Nat} {x : Int32} (hd : decode y.2.1 pc = .ok (.istore_n q, 1)) (hi : (q : Nat) = i) (hn : i < y.2.2.1) (k : Wp κ y d kc ks (pc + 1) (sto i (.int x) lv) st g Q) : Wp κ y d kc ks pc lv (.int x :: st) g Q :=
  fun p l e R s m args below meth c H locs cells slots mc ms ls M hR h1 h2 hG hS hl => lv_istore_n M.1 M.2.1 hd hi hl hn rfl (fun ls' hl' => k p l e R s m args below meth c H locs cells slots mc ms ls' M hR h1 h2 hG hS (sto_has hl'))
theorem r_astore {i : Nat} {x : Nat} (hd : decode y.2.1 pc = .ok (.astore i, 2)) (hn : i < y.2.2.1) (k : Wp κ y d kc ks (pc + 2) (sto i (.ref x) lv) st g Q) : Wp κ y d kc ks pc lv (.ref x :: st) g Q :=
  fun p l e R s m args below meth c H locs cells slots mc ms ls M hR h1 h2 hG hS hl => lv_astore M.1 M.2.1 hd hl hn rfl (fun ls' hl' => k p l e R s m args below meth c H locs cells slots mc ms ls' M hR h1 h2 hG hS (sto_has hl'))
theorem r_astore_n {q : Fin 4} {i : Nat} {x : Nat} (hd : decode y.2.1 pc = .ok (.astore_n q, 1)) (hi : (q : Nat) = i) (hn : i < y.2.2.1) (k : Wp κ y d kc ks (pc + 1) (sto i (.ref x) lv) st g Q) : Wp κ y d kc ks pc lv (.ref x :: st) g Q :=
  fun p l e R s m args below meth c H locs cells slots mc ms ls M hR h1 h2 hG hS hl => lv_astore_n M.1 M.2.1 hd hi hl hn rfl (fun ls' hl' => k p l e R s m args below meth c H locs cells slots mc ms ls' M hR h1 h2 hG hS (sto_has hl'))
theorem r_astoreN {i : Nat} (hd : decode y.2.1 pc = .ok (.astore i, 2)) (hn : i < y.2.2.1) (k : Wp κ y d kc ks (pc + 2) (sto i .null lv) st g Q) : Wp κ y d kc ks pc lv (.null :: st) g Q :=
  fun p l e R s m args below meth c H locs cells slots mc ms ls M hR h1 h2 hG hS hl => lv_astoreN M.1 M.2.1 hd hl hn rfl (fun ls' hl' => k p l e R s m args below meth c H locs cells slots mc ms ls' M hR h1 h2 hG hS (sto_has hl'))
theorem r_astore_nN {q : Fin 4} {i : Nat} (hd : decode y.2.1 pc = .ok (.astore_n q, 1)) (hi : (q : Nat) = i) (hn : i < y.2.2.1) (k : Wp κ y d kc ks (pc + 1) (sto i .null lv) st g Q) : Wp κ y d kc ks pc lv (.null :: st) g Q :=
  fun p l e R s m args below meth c H locs cells slots mc ms ls M hR h1 h2 hG hS hl => lv_astore_nN M.1 M.2.1 hd hi hl hn rfl (fun ls' hl' => k p l e R s m args below meth c H locs cells slots mc ms ls' M hR h1 h2 hG hS (sto_has hl'))
theorem r_astoreO {i : Nat} {z : Option Nat} (hd : decode y.2.1 pc = .ok (.astore i, 2)) (hn : i < y.2.2.1) (k : Wp κ y d kc ks (pc + 2) (sto i (va_rf z) lv) st g Q) : Wp κ y d kc ks pc lv (va_rf z :: st) g Q := by
  cases z with
  | none => exact r_astoreN hd hn k
  | some b => exact r_astore hd hn k
theorem r_astore_nO {q : Fin 4} {i : Nat} {z : Option Nat} (hd : decode y.2.1 pc = .ok (.astore_n q, 1)) (hi : (q : Nat) = i) (hn : i < y.2.2.1) (k : Wp κ y d kc ks (pc + 1) (sto i (va_rf z) lv) st g Q) : Wp κ y d kc ks pc lv (va_rf z :: st) g Q := by
  cases z with
  | none => exact r_astore_nN hd hi hn k
  | some b => exact r_astore_n hd hi hn k
theorem r_lstore {i : Nat} {x : Int64} (hd : decode y.2.1 pc = .ok (.lstore i, 2)) (hn : i + 1 < y.2.2.1) (k : Wp κ y d kc ks (pc + 2) (sto2 i (.long x) lv) st g Q) : Wp κ y d kc ks pc lv (.long x :: st) g Q :=
  fun p l e R s m args below meth c H locs cells slots mc ms ls M hR h1 h2 hG hS hl => lv_lstore M.1 M.2.1 hd hl hn rfl (fun ls' hl' => k p l e R s m args below meth c H locs cells slots mc ms ls' M hR h1 h2 hG hS (sto2_has hl'))
theorem r_lstore_n {q : Fin 4} {i : Nat} {x : Int64} (hd : decode y.2.1 pc = .ok (.lstore_n q, 1)) (hi : (q : Nat) = i) (hn : i + 1 < y.2.2.1) (k : Wp κ y d kc ks (pc + 1) (sto2 i (.long x) lv) st g Q) : Wp κ y d kc ks pc lv (.long x :: st) g Q :=
  fun p l e R s m args below meth c H locs cells slots mc ms ls M hR h1 h2 hG hS hl => lv_lstore_n M.1 M.2.1 hd hi hl hn rfl (fun ls' hl' => k p l e R s m args below meth c H locs cells slots mc ms ls' M hR h1 h2 hG hS (sto2_has hl'))
theorem r_iinc {i : Nat} {n : Int} {x v : Int32} (hd : decode y.2.1 pc = .ok (.iinc i n, 3)) (hg : lvg lv i = some (.int x)) (hv : x + Int32.ofInt n = v) (hn : i < y.2.2.1) (k : Wp κ y d kc ks (pc + 3) (sto i (.int v) lv) st g Q) : Wp κ y d kc ks pc lv st g Q := by
  intro p l e R s m args below meth c H locs cells slots mc ms ls M hR h1 h2 hG hS hl
  obtain ⟨j, hj⟩ := List.getElem?_of_mem (lvg_mem hg)
  exact lv_iinc M.1 M.2.1 hd hl hj hv hn rfl (fun ls' hl' => k p l e R s m args below meth c H locs cells slots mc ms ls' M hR h1 h2 hG hS (sto_has hl'))
theorem r_iincN {i a : Nat} (hd : decode y.2.1 pc = .ok (.iinc i 1, 3)) (hg : lvg lv i = some (.int (nI a))) (hn : i < y.2.2.1) (k : Wp κ y d kc ks (pc + 3) (sto i (.int (nI (a + 1))) lv) st g Q) : Wp κ y d kc ks pc lv st g Q :=
  r_iinc hd hg (show nI a + Int32.ofInt 1 = nI (a + 1) from nI_1 a) hn k
end RW
