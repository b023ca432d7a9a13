/-! what stays over warm tables -/
theorem arrayOver_movedA {t : FieldType} {u U : State} (hvm : u.vm.Alike U.vm) (h : (Cond.arrayOver (.array t)).before #[] u = true) : (Cond.arrayOver (.array t)).before #[] U = true := by
  have h' : (Cond.arrayOver (.array t)).holds #[] u none u [] = true := h
  simp only [Cond.holds, Cond.value, beq_iff_eq] at h'
  cases hc : u.vm.findClass (FieldType.array t).toString with
  | none => simp [hc] at h'
  | some comp =>
    simp only [hc, Option.bind_some, Option.bind_eq_some_iff, Option.map_eq_some_iff] at h'
    obtain ⟨c, hi, k, hk, hb⟩ := h'
    obtain ⟨k', hk', he⟩ := hvm.2.2 _ _ hk
    have hi2 : (U.vm.classes.findIdx? fun (x : Class) => match x.kind with | .array component _ => component == comp | _ => false) = some c :=
      (va_idx_bare U.vm comp).symm.trans ((congrArg (fun (b : Vm) => b.classes.findIdx? fun (x : Class) => match x.kind with | .array component _ => component == comp | _ => false) hvm.bare_eq).trans ((va_idx_bare u.vm comp).trans hi))
    have f1 : U.vm.findClass (FieldType.array t).toString = some comp := by rw [hvm.findClass]; exact hc
    have hkd : k'.kind = k.kind := by rw [he]
    cases hkind : k.kind with
    | array component ty =>
      rw [hkind] at hb
      simp at hb
      have f2 : U.vm.findClass ("[" ++ (FieldType.array t).toString) = some c := by rw [hvm.findClass]; exact hb.2
      unfold Cond.before Cond.holds
      simp only [Cond.value]
      rw [f1, Option.bind_some]
      refine (congrArg (fun o : Option Nat => (o.bind (fun c => (U.vm.classes[c]?).map fun (k : Class) => match k.kind with | .array _ ty => decide (ty = FieldType.array t) && decide (U.vm.findClass ("[" ++ (FieldType.array t).toString) = some c) | _ => false) == some true)) hi2).trans ?_
      simp [hk', hkd, hkind, f2, hb.1]
    | _ => rw [hkind] at hb; simp at hb
theorem KX.warm {κ : KK} {s U : State} (hW : s.WarmedH U.vm) (h : KX κ s) : KX κ U := by
  obtain ⟨h1, ⟨k1, a1, b1⟩, ⟨k2, a2, b2⟩, h4, h5, h6⟩ := h
  refine ⟨va_K.moved hW.alike h1, ?_, ?_, fun q hq => (h4 q hq).warmF hW, fun q hq => (h5 q hq).warmM hW, fun t ht => ?_⟩
  · obtain ⟨k', hk', he⟩ := hW.alike.2.2 _ _ a1
    exact ⟨k', hk', by rw [he]; exact b1⟩
  · obtain ⟨k', hk', he⟩ := hW.alike.2.2 _ _ a2
    exact ⟨k', hk', by rw [he]; exact b2⟩
  · have h7 := h6 t ht
    simp only [nlA, List.mem_cons, List.not_mem_nil, or_false] at ht
    rcases ht with rfl | rfl | rfl | rfl | rfl
    · exact va_AO.moved hW.alike h7
    · exact va_AO.moved hW.alike h7
    · exact va_AO.moved hW.alike h7
    · exact arrayOver_movedA hW.alike h7
    · exact arrayOver_movedA hW.alike h7
theorem KX.same {κ : KK} {u U : State} (hv : U.vm = u.vm) (h : KX κ u) : KX κ U := h.warm (by rw [hv]; exact State.WarmedH.refl u)
theorem Pre.blind {κ : KK} {As : List Value} {g : GG} : FrameBlind (Pre κ As g) := by
  intro a U gg mk h
  obtain ⟨h1, h2, h3, h4, h5⟩ := h
  exact ⟨h1, h2, KX.same (u := U) rfl h3, va_X.moved (u := U) (Vm.Alike.refl U.vm) h4, h5⟩
theorem good_wsY {z : MY} {n : Nat} (h : CZ z n) : GoodIn AL (wsY z) := fun w hw => by
  have hm : w ∈ AL := by
    rcases List.mem_cons.mp hw with e | e
    · rw [e]; exact h.2.1
    · exact e
  exact ⟨hm, good_of_word (List.mem_filter.mp hm).2⟩
section CA
variable {κ : KK} {y : MY} {d kc ks pc : Nat} {lv : List (Nat × Value)} {st : List Value} {g : GG} {Q : Option Value → GG → Prop}
/-- what a callee may rely on, where it is called -/
theorem pre_at {p : Program} {s U : State} {m : MethodId} {args : Array Value} {meth : Method} {c : Code} {H : Heap} {locs : List Loc} (M : MC κ y p s m args meth c) (hG : GW κ g H) (hS : va_S (kA κ) s.heap H locs) (hU : U.heap = H) (hW : s.WarmedH U.vm) (As : List Value) : Pre κ As g As.toArray U := by
  obtain ⟨hx, hb, hr, hml, hown, hlk, hin0, hts, hK, hX, hsl, hsb, hbs⟩ := M
  refine ⟨rfl, by rw [hU]; exact hG, hK.warm hW, ?_, by rw [hU]; exact Nat.lt_of_lt_of_le hsl hS.1, hsb, by rw [hU]; exact Nat.le_trans hbs hS.1⟩
  rw [hU]
  exact (hX.kept (hS.2.1 _ hsl (Nat.not_le.mpr hsb))).moved hW.alike
theorem call_on {p : Program} {l : Launch} {e : Env} {R : Room} {s : State} {m : MethodId} {args : Array Value} {below : List Frame} {meth : Method} {c : Code} {H : Heap} {locs : List Loc} {cells slots : Nat} {Qm : State → Prop} {ls : Array Slot} {rest : List Value} {mc' ms' : Nat} {P : Option Value → GG → Prop} {a : Array Value}
    (hr : va_Run p l e R s m args below meth c H locs cells slots mc' ms' (F0 m pc ls st) rest (Post κ P a) (kA κ)) (hS : va_S (kA κ) s.heap H locs)
    (kk : ∀ (v : Option Value) (g' : GG) (H1 : Heap) (locs1 : List Loc), P v g' → GW κ g' H1 → va_S (kA κ) s.heap H1 locs1 → W p l e R s m args below meth c H1 locs1 (cells + mc') (slots + ms') Qm (F0 m (pc + 3) ls (v.toList ++ rest))) : W p l e R s m args below meth c H locs cells slots Qm (F0 m pc ls st) := by
  intro T hT X
  obtain ⟨v, st₀, t, T', L, h0, X', hL, e1, e2, ⟨⟨w, g', hv, hq, hg⟩, hz, hk⟩, stp⟩ := hr T hT X
  cases hv
  rw [h0] at hz hk
  rw [← e1] at hz hk hg
  obtain ⟨t2, a1, b1⟩ := kk v g' T'.heap (locs ++ L) hq hg ⟨Nat.le_trans hS.1 hz, fun q h1 h2 => by rw [hk q (Nat.lt_of_lt_of_le h1 hS.1) h2]; exact hS.2.1 q h1 h2, fun q hq => by
      rcases List.mem_append.mp hq with h | h
      · exact hS.2.2 q h
      · exact hL q h⟩ T' rfl X'
  exact ⟨t2, stp t2 a1, b1⟩
theorem r_callV {z : MY} {n idx d' mc' ms' kc' ks' b cx N : Nat} {T : u_T} {As rest : List Value} {P : Option Value → GG → Prop} (hd : decode y.2.1 pc = .ok (.invokevirtual idx, 3)) (hl : Cond.methodLink y.1.cls idx z.1 ∈ AL) (hz : CZ z n) (hi : Cond.instanceMethod z.1 ∈ AL) (hs : Cond.selects z.1.cls z.1 z.1 ∈ AL)
    (hc : vwCl[cx]? = some (z.1.cls, T, N)) (hc6 : cx < 6) (hla : lab κ g b cx) (hS : Spec κ z d' mc' ms' (.ref b :: As) g P) (hn : As.length = n) (hst : st = As.reverse ++ .ref b :: rest) (hrs : (rest.map fun v => v.category).sum ≤ 8) (hdd : d' + 1 ≤ d) (hmc : mc' + kc' ≤ kc) (hms : ms' + ks' ≤ ks)
    (kk : ∀ (v : Option Value) (g' : GG), P v g' → Wp κ y d kc' ks' (pc + 3) lv (v.toList ++ rest) g' Q) : Wp κ y d kc ks pc lv st g Q := by
  intro p l e R s m args below meth c H locs cells slots mc ms ls M hR h1 h2 hG hSS hlv
  obtain ⟨hx, hb, hr, hml, hown, hlk, hin0, hts, hK, hX, hsl, hsb, hbs⟩ := id M
  have hat := lab_at hG hla
  rw [ge_obj hla.2.2 hc6] at hat
  obtain ⟨hR1, hR2, hR3, hR4⟩ := hR
  have hz4 := hz.2.2.2
  have hrun := va_runV (p := p) (l := l) (e := e) (R := R) (s := s) (m := m) (args := args) (below := below) (meth := meth) (c := c) (H := H) (locs := locs) (cells := cells) (slots := slots) (b := b) (As := As) (rest := rest) (g := F0 m pc ls st) (C := z.1.cls) (n := n) (index := idx) ⟨hx, hb, hml, hown, hts⟩ (hS l) ⟨callB_of n hts (good_wsY hz) rfl rfl rfl (hts _ hz.1) (hts _ hl) hz.2.2.1 ⟨by show d' + 1 ≤ R.frames; omega, by show 8 + (z.2.2.1 + 11) + 64 * d' ≤ R.locals; omega⟩, hts _ hi, hts _ hs⟩
    ⟨Pre.blind, va_recv hK.1 (one_P hat) (q0 := 0) hc rfl, fun U hU hW => pre_at M hG hSS hU hW (.ref b :: As)⟩ rfl hn hlv.1 hst (lv_room hrs) hd ⟨by rw [hR3]; omega, by rw [hR4]; omega⟩
  exact call_on hrun hSS fun v g' H1 locs1 hp hG1 hS1 => kk v g' hp p l e R s m args below meth c H1 locs1 _ _ mc ms ls M ⟨hR1, hR2, hR3, hR4⟩ (by omega) (by omega) hG1 hS1 hlv
theorem r_callS {z : MY} {n idx d' mc' ms' kc' ks' : Nat} {As rest : List Value} {P : Option Value → GG → Prop} (hd : decode y.2.1 pc = .ok (.invokestatic idx, 3)) (hl : Cond.methodLink y.1.cls idx z.1 ∈ AL) (hz : CZ z n) (hi : Cond.static z.1 ∈ AL)
    (hS : Spec κ z d' mc' ms' As g P) (hn : As.length = n) (hst : st = As.reverse ++ rest) (hrs : (rest.map fun v => v.category).sum ≤ 8) (hdd : d' + 1 ≤ d) (hmc : mc' + kc' ≤ kc) (hms : ms' + ks' ≤ ks)
    (kk : ∀ (v : Option Value) (g' : GG), P v g' → Wp κ y d kc' ks' (pc + 3) lv (v.toList ++ rest) g' Q) : Wp κ y d kc ks pc lv st g Q := by
  intro p l e R s m args below meth c H locs cells slots mc ms ls M hR h1 h2 hG hSS hlv
  obtain ⟨hx, hb, hr, hml, hown, hlk, hin0, hts, hK, hX, hsl, hsb, hbs⟩ := id M
  obtain ⟨hR1, hR2, hR3, hR4⟩ := hR
  have hz4 := hz.2.2.2
  have hrun := va_runS (p := p) (l := l) (e := e) (R := R) (s := s) (m := m) (args := args) (below := below) (meth := meth) (c := c) (H := H) (locs := locs) (cells := cells) (slots := slots) (As := As) (rest := rest) (g := F0 m pc ls st) (n := n) (index := idx) ⟨hx, hb, hml, hown, hts⟩ (hS l) ⟨callB_of n hts (good_wsY hz) rfl rfl rfl (hts _ hz.1) (hts _ hl) hz.2.2.1 ⟨by show d' + 1 ≤ R.frames; omega, by show 8 + (z.2.2.1 + 11) + 64 * d' ≤ R.locals; omega⟩, hts _ hi⟩
    ⟨Pre.blind, fun U hU hW => pre_at M hG hSS hU hW As⟩ rfl hn hlv.1 hst (lv_room hrs) hd ⟨by rw [hR3]; omega, by rw [hR4]; omega⟩
  exact call_on hrun hSS fun v g' H1 locs1 hp hG1 hS1 => kk v g' hp p l e R s m args below meth c H1 locs1 _ _ mc ms ls M ⟨hR1, hR2, hR3, hR4⟩ (by omega) (by omega) hG1 hS1 hlv
/-- .. a nest mate's -/
theorem r_callSN {z : MY} {host : String} {n idx d' mc' ms' kc' ks' : Nat} {As rest : List Value} {P : Option Value → GG → Prop} (hd : decode y.2.1 pc = .ok (.invokestatic idx, 3)) (hl : (y.1.cls, idx, z.1, host) ∈ nlM) (hz : CZ z n) (hi : Cond.static z.1 ∈ AL)
    (hS : Spec κ z d' mc' ms' As g P) (hn : As.length = n) (hst : st = As.reverse ++ rest) (hrs : (rest.map fun v => v.category).sum ≤ 8) (hdd : d' + 1 ≤ d) (hmc : mc' + kc' ≤ kc) (hms : ms' + ks' ≤ ks)
    (kk : ∀ (v : Option Value) (g' : GG), P v g' → Wp κ y d kc' ks' (pc + 3) lv (v.toList ++ rest) g' Q) : Wp κ y d kc ks pc lv st g Q := by
  intro p l e R s m args below meth c H locs cells slots mc ms ls M hR h1 h2 hG hSS hlv
  obtain ⟨hx, hb, hr, hml, hown, hlk, hin0, hts, hK, hX, hsl, hsb, hbs⟩ := id M
  obtain ⟨hR1, hR2, hR3, hR4⟩ := hR
  have hz4 := hz.2.2.2
  have hlk := hK.2.2.2.2.1 _ hl
  have hrun := va_runSN (p := p) (l := l) (e := e) (R := R) (s := s) (m := m) (args := args) (below := below) (meth := meth) (c := c) (H := H) (locs := locs) (cells := cells) (slots := slots) (As := As) (rest := rest) (g := F0 m pc ls st) (n := n) (index := idx) ⟨hx, hb, hml, hown, hts⟩ (hS l) ⟨va_cnB n hts (good_wsY hz) rfl rfl rfl hlk (hts _ hz.1) hz.2.2.1 ⟨by show d' + 1 ≤ R.frames; omega, by show 8 + (z.2.2.1 + 11) + 64 * d' ≤ R.locals; omega⟩, hts _ hi, trivial⟩
    ⟨Pre.blind, fun U hU hW => pre_at M hG hSS hU hW As⟩ rfl hn hlv.1 hst (lv_room hrs) hd ⟨by rw [hR3]; omega, by rw [hR4]; omega⟩
  exact call_on hrun hSS fun v g' H1 locs1 hp hG1 hS1 => kk v g' hp p l e R s m args below meth c H1 locs1 _ _ mc ms ls M ⟨hR1, hR2, hR3, hR4⟩ (by omega) (by omega) hG1 hS1 hlv
/-- a constructor -/
theorem r_callI {zn : MethodName} {zc : ByteArray} {zl n idx d' mc' ms' kc' ks' b : Nat} {As rest : List Value} {P : Option Value → GG → Prop} (hd : decode y.2.1 pc = .ok (.invokespecial idx, 3)) (hl : Cond.methodLink y.1.cls idx zn ∈ AL) (hz : CZ (zn, zc, zl, none) n) (hi : Cond.instanceMethod zn ∈ AL) (hnm : zn.name = "<init>")
    (hS : Spec κ (zn, zc, zl, none) d' mc' ms' (.ref b :: As) g P) (hn : As.length = n) (hst : st = As.reverse ++ .ref b :: rest) (hrs : (rest.map fun v => v.category).sum ≤ 8) (hdd : d' + 1 ≤ d) (hmc : mc' + kc' ≤ kc) (hms : ms' + ks' ≤ ks)
    (kk : ∀ (v : Option Value) (g' : GG), P v g' → Wp κ y d kc' ks' (pc + 3) lv (v.toList ++ rest) g' Q) : Wp κ y d kc ks pc lv st g Q := by
  intro p l e R s m args below meth c H locs cells slots mc ms ls M hR h1 h2 hG hSS hlv
  obtain ⟨hx, hb, hr, hml, hown, hlk, hin0, hts, hK, hX, hsl, hsb, hbs⟩ := id M
  obtain ⟨hR1, hR2, hR3, hR4⟩ := hR
  have hz4 : zl ≤ 45 := hz.2.2.2
  have hrun := va_runI (p := p) (l := l) (e := e) (R := R) (s := s) (m := m) (args := args) (below := below) (meth := meth) (c := c) (H := H) (locs := locs) (cells := cells) (slots := slots) (b := b) (As := As) (rest := rest) (g := F0 m pc ls st) (n := n) (index := idx) ⟨hx, hb, hml, hown, hts⟩ (hS l) ⟨callB_of n hts (good_wsY hz) rfl rfl rfl (hts _ hz.1) (hts _ hl) hz.2.2.1 ⟨by show d' + 1 ≤ R.frames; omega, by show 8 + (zl + 11) + 64 * d' ≤ R.locals; omega⟩, hnm, hts _ hi⟩
    ⟨Pre.blind, fun U hU hW => pre_at M hG hSS hU hW (.ref b :: As)⟩ rfl hn hlv.1 hst (lv_room hrs) hd ⟨by rw [hR3]; omega, by rw [hR4]; omega⟩
  exact call_on hrun hSS fun v g' H1 locs1 hp hG1 hS1 => kk v g' hp p l e R s m args below meth c H1 locs1 _ _ mc ms ls M ⟨hR1, hR2, hR3, hR4⟩ (by omega) (by omega) hG1 hS1 hlv
/-- .. a nest mate's -/
theorem r_callIN {zn : MethodName} {host : String} {zc : ByteArray} {zl n idx d' mc' ms' kc' ks' b : Nat} {As rest : List Value} {P : Option Value → GG → Prop} (hd : decode y.2.1 pc = .ok (.invokespecial idx, 3)) (hl : (y.1.cls, idx, zn, host) ∈ nlM) (hz : CZ (zn, zc, zl, none) n) (hi : Cond.instanceMethod zn ∈ AL) (hnm : zn.name = "<init>")
    (hS : Spec κ (zn, zc, zl, none) d' mc' ms' (.ref b :: As) g P) (hn : As.length = n) (hst : st = As.reverse ++ .ref b :: rest) (hrs : (rest.map fun v => v.category).sum ≤ 8) (hdd : d' + 1 ≤ d) (hmc : mc' + kc' ≤ kc) (hms : ms' + ks' ≤ ks)
    (kk : ∀ (v : Option Value) (g' : GG), P v g' → Wp κ y d kc' ks' (pc + 3) lv (v.toList ++ rest) g' Q) : Wp κ y d kc ks pc lv st g Q := by
  intro p l e R s m args below meth c H locs cells slots mc ms ls M hR h1 h2 hG hSS hlv
  obtain ⟨hx, hb, hr, hml, hown, hlk, hin0, hts, hK, hX, hsl, hsb, hbs⟩ := id M
  obtain ⟨hR1, hR2, hR3, hR4⟩ := hR
  have hz4 : zl ≤ 45 := hz.2.2.2
  have hlk := hK.2.2.2.2.1 _ hl
  have hrun := va_runIN (p := p) (l := l) (e := e) (R := R) (s := s) (m := m) (args := args) (below := below) (meth := meth) (c := c) (H := H) (locs := locs) (cells := cells) (slots := slots) (b := b) (As := As) (rest := rest) (g := F0 m pc ls st) (n := n) (index := idx) ⟨hx, hb, hml, hown, hts⟩ (hS l) ⟨va_cnB n hts (good_wsY hz) rfl rfl rfl hlk (hts _ hz.1) hz.2.2.1 ⟨by show d' + 1 ≤ R.frames; omega, by show 8 + (zl + 11) + 64 * d' ≤ R.locals; omega⟩, hnm, hts _ hi⟩
    ⟨Pre.blind, fun U hU hW => pre_at M hG hSS hU hW (.ref b :: As)⟩ rfl hn hlv.1 hst (lv_room hrs) hd ⟨by rw [hR3]; omega, by rw [hR4]; omega⟩
  exact call_on hrun hSS fun v g' H1 locs1 hp hG1 hS1 => kk v g' hp p l e R s m args below meth c H1 locs1 _ _ mc ms ls M ⟨hR1, hR2, hR3, hR4⟩ (by omega) (by omega) hG1 hS1 hlv
/-- Object() -/
theorem r_objInit {idx b : Nat} (hd : decode y.2.1 pc = .ok (.invokespecial idx, 3)) (hl : Cond.methodLink y.1.cls idx objectInit ∈ AL) (hd1 : 1 ≤ d) (hrs : (st.map fun v => v.category).sum ≤ 8) (kk : Wp κ y d kc ks (pc + 3) lv st g Q) : Wp κ y d kc ks pc lv (.ref b :: st) g Q := by
  intro p l e R s m args below meth c H locs cells slots mc ms ls M hR h1 h2 hG hSS hlv
  obtain ⟨hx, hb, hr, hml, hown, hlk, hin0, hts, hK, hX, hsl, hsb, hbs⟩ := id M
  obtain ⟨hR1, hR2, hR3, hR4⟩ := hR
  refine W.objInit hx hb hown (hts _ hl) (hts _ mk_objectInit) (hts _ mo_objectInit) rfl (by rw [hml]; exact hlv.1) rfl hd (by omega) (by show 2 * 0 + _ + 12 ≤ _; omega) ?_
  exact W.eq (g2 := F0 m (pc + 3) ls st) rfl (kk p l e R s m args below meth c H locs cells slots mc ms ls M ⟨hR1, hR2, hR3, hR4⟩ h1 h2 hG hSS hlv)
theorem r_min {idx : Nat} {x z : Int32} (hd : decode y.2.1 pc = .ok (.invokestatic idx, 3)) (hl : Cond.methodLink y.1.cls idx Lib.Math.min.name ∈ AL) (hd1 : 1 ≤ d) (hrs : (st.map fun v => v.category).sum ≤ 8) (kk : Wp κ y d kc ks (pc + 3) lv (.int (if z < x then z else x) :: st) g Q) : Wp κ y d kc ks pc lv (.int z :: .int x :: st) g Q := by
  intro p l e R s m args below meth c H locs cells slots mc ms ls M hR h1 h2 hG hSS hlv
  obtain ⟨hx, hb, hr, hml, hown, hlk, hin0, hts, hK, hX, hsl, hsb, hbs⟩ := id M
  obtain ⟨hR1, hR2, hR3, hR4⟩ := hR
  exact va_mmin hx hb (by rw [hml]; exact hlv.1.symm) hown (hts _ hl) (hts _ mk_Math_min) (hts _ mi_Math) (hts _ mo_Math_min) (by omega) (by omega) (by omega) (by omega) hd (kk p l e R s m args below meth c H locs cells slots mc ms ls M ⟨hR1, hR2, hR3, hR4⟩ h1 h2 hG hSS hlv)
theorem r_max {idx : Nat} {x z : Int32} (hd : decode y.2.1 pc = .ok (.invokestatic idx, 3)) (hl : Cond.methodLink y.1.cls idx Lib.Math.max.name ∈ AL) (hd1 : 1 ≤ d) (hrs : (st.map fun v => v.category).sum ≤ 8) (kk : Wp κ y d kc ks (pc + 3) lv (.int (if x < z then z else x) :: st) g Q) : Wp κ y d kc ks pc lv (.int z :: .int x :: st) g Q := by
  intro p l e R s m args below meth c H locs cells slots mc ms ls M hR h1 h2 hG hSS hlv
  obtain ⟨hx, hb, hr, hml, hown, hlk, hin0, hts, hK, hX, hsl, hsb, hbs⟩ := id M
  obtain ⟨hR1, hR2, hR3, hR4⟩ := hR
  exact va_mmax hx hb (by rw [hml]; exact hlv.1.symm) hown (hts _ hl) (hts _ mk_Math_max) (hts _ mi_Math) (hts _ mo_Math_max) (by omega) (by omega) (by omega) (by omega) hd (kk p l e R s m args below meth c H locs cells slots mc ms ls M ⟨hR1, hR2, hR3, hR4⟩ h1 h2 hG hSS hlv)
theorem r_abs {idx : Nat} {x : Int32} (hd : decode y.2.1 pc = .ok (.invokestatic idx, 3)) (hl : Cond.methodLink y.1.cls idx Lib.Math.abs.name ∈ AL) (hd1 : 1 ≤ d) (hrs : (st.map fun v => v.category).sum ≤ 8) (kk : Wp κ y d kc ks (pc + 3) lv (.int (if 0 ≤ x then x else 0 - x) :: st) g Q) : Wp κ y d kc ks pc lv (.int x :: st) g Q := by
  intro p l e R s m args below meth c H locs cells slots mc ms ls M hR h1 h2 hG hSS hlv
  obtain ⟨hx, hb, hr, hml, hown, hlk, hin0, hts, hK, hX, hsl, hsb, hbs⟩ := id M
  obtain ⟨hR1, hR2, hR3, hR4⟩ := hR
  exact va_mabs hx hb (by rw [hml]; exact hlv.1.symm) hown (hts _ hl) (hts _ mk_Math_abs) (hts _ mi_Math) (hts _ mo_Math_abs) (by omega) (by omega) (by omega) (by omega) hd (kk p l e R s m args below meth c H locs cells slots mc ms ls M ⟨hR1, hR2, hR3, hR4⟩ h1 h2 hG hSS hlv)
/-! ends -/
theorem r_iret {v : Int32} (hd : decode y.2.1 pc = .ok (.ireturn, 1)) (hr : y.2.2.2 = some .int) (hq : Q (some (.int v)) g) : Wp κ y d kc ks pc lv [.int v] g Q := by
  intro p l e R s m args below meth c H locs cells slots mc ms ls M hR h1 h2 hG hSS hlv
  have hlk := M.2.2.2.2.2.1
  refine W.widen (k := mc) (n := ms) (by omega) (by omega) ?_
  exact W.iret (v := v) M.1 M.2.1 (M.2.2.1.trans hr) (fun t ht hW => ⟨⟨_, g, rfl, hq, by rw [ht]; exact hG⟩, hSS.F ht⟩) hSS.2.2 hd
theorem r_zret {v : Int32} (hd : decode y.2.1 pc = .ok (.ireturn, 1)) (hr : y.2.2.2 = some .boolean) (hv : narrow .boolean (.int v) = .int v) (hq : Q (some (.int v)) g) : Wp κ y d kc ks pc lv [.int v] g Q := by
  intro p l e R s m args below meth c H locs cells slots mc ms ls M hR h1 h2 hG hSS hlv
  have hlk := M.2.2.2.2.2.1
  refine W.widen (k := mc) (n := ms) (by omega) (by omega) ?_
  exact W.zret (v := v) M.1 M.2.1 (M.2.2.1.trans hr) hv (fun t ht hW => ⟨⟨_, g, rfl, hq, by rw [ht]; exact hG⟩, hSS.F ht⟩) hSS.2.2 hd
theorem r_lret {v : Int64} (hd : decode y.2.1 pc = .ok (.lreturn, 1)) (hr : y.2.2.2 = some .long) (hq : Q (some (.long v)) g) : Wp κ y d kc ks pc lv [.long v] g Q := by
  intro p l e R s m args below meth c H locs cells slots mc ms ls M hR h1 h2 hG hSS hlv
  have hlk := M.2.2.2.2.2.1
  refine W.widen (k := mc) (n := ms) (by omega) (by omega) ?_
  exact W.lret (v := v) M.1 M.2.1 (M.2.2.1.trans hr) (fun t ht hW => ⟨⟨_, g, rfl, hq, by rw [ht]; exact hG⟩, hSS.F ht⟩) hSS.2.2 hd
theorem r_aret {o : Option Nat} {rt : FieldType} (hd : decode y.2.1 pc = .ok (.areturn, 1)) (hr : y.2.2.2 = some rt) (hrt : (∃ n, rt = .object n) ∨ ∃ t, rt = .array t) (hq : Q (some (va_rf o)) g) : Wp κ y d kc ks pc lv [va_rf o] g Q := by
  intro p l e R s m args below meth c H locs cells slots mc ms ls M hR h1 h2 hG hSS hlv
  have hlk := M.2.2.2.2.2.1
  refine W.widen (k := mc) (n := ms) (by omega) (by omega) ?_
  refine W.aret (v := va_rf o) M.1 M.2.1 (M.2.2.1.trans hr) hrt ?_ (fun t ht hW => ⟨⟨_, g, rfl, hq, by rw [ht]; exact hG⟩, hSS.F ht⟩) hSS.2.2 hd
  cases o with
  | none => exact Or.inl rfl
  | some b => exact Or.inr ⟨b, rfl⟩
theorem r_vret (hd : decode y.2.1 pc = .ok (.return_, 1)) (hr : y.2.2.2 = none) (hq : Q none g) : Wp κ y d kc ks pc lv [] g Q := by
  intro p l e R s m args below meth c H locs cells slots mc ms ls M hR h1 h2 hG hSS hlv
  have hlk := M.2.2.2.2.2.1
  refine W.widen (k := mc) (n := ms) (by omega) (by omega) ?_
  exact W.vret M.1 M.2.1 (M.2.2.1.trans hr) (fun t ht hW => ⟨⟨_, g, rfl, hq, by rw [ht]; exact hG⟩, hSS.F ht⟩) hSS.2.2 hd
/-- a method's contract out of the walk of its body -/
theorem spec_of {mc ms : Nat} {As : List Value} (hy : plainName y.1.cls = true) (hlen : (lg_sl As).length ≤ y.2.2.1) (h : Wp κ y d mc ms 0 (lv_args 0 As) [] g Q) : Spec κ y d mc ms As g Q := by
  intro l
  refine Met.ofW (cc := y.2.1) (maxL := y.2.2.1) (ret := y.2.2.2) hy rfl ?_
  intro p e s m args below meth c s₁ B hml hv
  obtain ⟨rfl, hG, hK, hX, hsl, hsb, hbs⟩ := hv
  have hts := atoms_spec (ws := wsY y) B.pre
  have hlv := lv_entry As (n := y.2.2.1) hlen
  rw [lg_entry_eq]
  generalize (lg_sl As ++ List.replicate (y.2.2.1 - (lg_sl As).length) Slot.unset).toArray = ls at hlv ⊢
  exact h p l e _ s m As.toArray below meth c s.heap [] 0 0 mc ms ls ⟨B.exec, B.bytes, B.returns, hml, findClass_of_methodNamed B.named, B.notSynchronized, fun e => by rw [← e]; exact (name_of_methodNamed B.named B.method).1, fun w hw => hts w (List.mem_cons_of_mem _ hw), hK, hX, hsl, hsb, hbs⟩
    ⟨Nat.le_refl _, Nat.le_refl _, rfl, rfl⟩ (by omega) (by omega) hG va_S.rf hlv
end CA
