/-! fields -/
def isIf : Nat → Nat → Bool
  | 0, 0 => true
  | 0, 4 => true
  | 0, 5 => true
  | 0, 6 => true
  | 0, 7 => true
  | 0, 8 => true
  | 1, 0 => true
  | 1, 3 => true
  | 1, 4 => true
  | 1, 5 => true
  | 2, 1 => true
  | 3, 0 => true
  | 3, 3 => true
  | 3, 4 => true
  | 3, 5 => true
  | 4, 1 => true
  | 5, 4 => true
  | _, _ => false
def isRf : Nat → Nat → Bool
  | 0, 1 => true
  | 0, 2 => true
  | 0, 3 => true
  | 1, 1 => true
  | 1, 2 => true
  | 2, 0 => true
  | 3, 1 => true
  | 3, 2 => true
  | 3, 6 => true
  | 3, 7 => true
  | 3, 8 => true
  | 3, 9 => true
  | 3, 10 => true
  | 3, 11 => true
  | 4, 0 => true
  | 4, 2 => true
  | 4, 3 => true
  | 4, 4 => true
  | 4, 5 => true
  | 5, 0 => true
  | 5, 1 => true
  | 5, 2 => true
  | 5, 3 => true
  | _, _ => false
theorem Fs_setI {g : GG} {a k c : Nat} {x : Int32} (h : isIf c k = true) : Fs (setI g a k x) a c = (Fs g a c).set k (.int x) := by
  unfold isIf at h
  split at h <;> first | (simp [Fs, setI, gi, gr, up2]; done) | cases h
theorem Fs_setR {g : GG} {a k c : Nat} {x : Option Nat} (h : isRf c k = true) : Fs (setR g a k x) a c = (Fs g a c).set k (va_rf x) := by
  unfold isRf at h
  split at h <;> first | (simp [Fs, setR, gi, gr, up2]; done) | cases h
theorem If_c6 {c k : Nat} (h : isIf c k = true) : c < 6 ∧ k < (Fs (0, fun _ => 0, fun _ _ => 0, fun _ _ => none, fun _ => 0) 0 c).length := by
  unfold isIf at h
  split at h <;> first | (refine ⟨?_, ?_⟩ <;> decide) | cases h
theorem Rf_c6 {c k : Nat} (h : isRf c k = true) : c < 6 ∧ k < (Fs (0, fun _ => 0, fun _ _ => 0, fun _ _ => none, fun _ => 0) 0 c).length := by
  unfold isRf at h
  split at h <;> first | (refine ⟨?_, ?_⟩ <;> decide) | cases h
theorem Fs_len (g : GG) (a c : Nat) : (Fs g a c).length = (Fs (0, fun _ => 0, fun _ _ => 0, fun _ _ => none, fun _ => 0) 0 c).length := by
  unfold Fs
  split <;> rfl
section HW
variable {p : Program} {l : Launch} {e : Env} {R : Room} {s : State} {m : MethodId} {args : Array Value} {below : List Frame} {meth : Method} {c : Code} {H : Heap} {locs : List Loc} {cells slots : Nat} {Q : State → Prop}
variable {cc : ByteArray} {pc : Nat} {ls : Array Slot} {rest : List Value} {D : va_G} {cl : List vw_C} {A : Nat → Prop} {a : Nat} {tys0 : List (ClassId × FieldType)} {H0 : Heap}
/-- a store into an object's field, and that all other cells stay (follows the kit's va_put) -/
theorem wq_put (hexec : p.tables.exec = Jvm.exec) (hb : c.code = cc) {own C : String} {T : u_T} {N ci index : Nat} {Ts : List Cond} (hts : ∀ w ∈ Ts, w.before args s = true) (hin : ∀ w ∈ u_ws C T N, w ∈ Ts) (ty0 : Nat → FieldType) (hty : ∀ k, k < N → parseFieldDescriptor (T k).2.2.1 = some (ty0 k)) (hnm : ∀ a, a < N → ∀ b, b < N → a ≠ b → (T a).2.1 ≠ (T b).2.1) (hown : s.vm.findClass own = some m.cls) (hK : va_K D cl tys0 s) {fs : List Value} (hat : va_at D cl (a, .inr (ci, fs)) H) (hA : A a) (hS0 : va_S A H0 H locs) (hc : cl[ci]? = some (C, T, N)) (k : Nat) (hk : k < N) (hlink : (Cond.fieldLink own index (T k).1 (T k).2.1 (T k).2.2.1).before args s = true) (hfin : (T k).2.2.2 = false) {ty : FieldType} {v : Value} (hd : parseFieldDescriptor (T k).2.2.1 = some ty) (hn : narrow ty v = v) (hfit : fits ty v = true) (hl : k < fs.length)
    (hdg : decode cc pc = .ok (.putfield index, 3)) (kk : ∀ (H1 : Heap) (locs1 : List Loc), va_at D cl (a, .inr (ci, fs.set k v)) H1 → H1.size = H.size → (∀ q : Nat, q ≠ a → H1[q]? = H[q]?) → va_S A H0 H1 locs1 → W p l e R s m args below meth c H1 locs1 cells slots Q (F0 m (pc + 3) ls rest)) : W p l e R s m args below meth c H locs cells slots Q (F0 m pc ls (v :: .ref a :: rest)) := by
  have hap := va_apart (own := own) hts hin ty0 hty hnm hK hc
  obtain ⟨r, h1, cell, q1, q2, q3, q4⟩ := hat
  have hr : r = (C, T, N) := Option.some.inj (h1.symm.trans hc)
  subst hr
  obtain ⟨hS, hfc, kC, hkC, hkind⟩ := hK.1 ci _ hc
  obtain ⟨cf, kf, fi, f, hi, hsl⟩ := hS k hk
  have hlay := hts _ (hin _ (u_in_lay hk))
  unfold u_lay at hlay
  rw [if_neg (by rw [hfin]; decide)] at hlay
  have hst := (u_facts hfc hkC (u_lays hts hin hk) hi).1
  have h6 := u_store hfc hkC hkind hlay hi hd hn hfit
  refine W.putK hexec hb (f := f) ⟨hown, hlink, ⟨_, _, _, hi⟩, hst⟩ (by rw [q2]; exact h6) q1 q3 (by rw [hsl]; exact k2_hasslot (q4 k hk)) rfl rfl hdg fun H' e1 e2 e3 => ?_
  rw [hsl] at e1 ⊢
  exact kk H' _ ⟨_, hc, t_OB.to (V := updV (vp_V fs) k v) ⟨_, e1, q2, q3, t_set q4 hap hk v⟩ (fun j _ => vp_updV_set hl v j)⟩ e2 e3 (hS0.put e2 e3 hA)
/-- .. of a final field, in its constructor (follows the kit's va_putF) -/
theorem wq_putF (hexec : p.tables.exec = Jvm.exec) (hb : c.code = cc) {own C : String} {T : u_T} {N ci index : Nat} {Ts : List Cond} (hts : ∀ w ∈ Ts, w.before args s = true) (hin : ∀ w ∈ u_ws C T N, w ∈ Ts) (ty0 : Nat → FieldType) (hty : ∀ k, k < N → parseFieldDescriptor (T k).2.2.1 = some (ty0 k)) (hnm : ∀ a, a < N → ∀ b, b < N → a ≠ b → (T a).2.1 ≠ (T b).2.1) (hown : s.vm.findClass own = some m.cls) (hK : va_K D cl tys0 s) {fs : List Value} (hat : va_at D cl (a, .inr (ci, fs)) H) (hA : A a) (hS0 : va_S A H0 H locs) (hc : cl[ci]? = some (C, T, N)) (k : Nat) (hk : k < N) (hlink : (Cond.fieldLink own index (T k).1 (T k).2.1 (T k).2.2.1).before args s = true) (hfin : (T k).2.2.2 = true) (hin2 : meth.name = "<init>") (hdecl : (T k).1 = own) {ty : FieldType} {v : Value} (hd : parseFieldDescriptor (T k).2.2.1 = some ty) (hn : narrow ty v = v) (hfit : fits ty v = true) (hl : k < fs.length)
    (hdg : decode cc pc = .ok (.putfield index, 3)) (kk : ∀ (H1 : Heap) (locs1 : List Loc), va_at D cl (a, .inr (ci, fs.set k v)) H1 → H1.size = H.size → (∀ q : Nat, q ≠ a → H1[q]? = H[q]?) → va_S A H0 H1 locs1 → W p l e R s m args below meth c H1 locs1 cells slots Q (F0 m (pc + 3) ls rest)) : W p l e R s m args below meth c H locs cells slots Q (F0 m pc ls (v :: .ref a :: rest)) := by
  have hap := va_apart (own := own) hts hin ty0 hty hnm hK hc
  obtain ⟨r, h1, cell, q1, q2, q3, q4⟩ := hat
  have hr : r = (C, T, N) := Option.some.inj (h1.symm.trans hc)
  subst hr
  obtain ⟨hS, hfc, kC, hkC, hkind⟩ := hK.1 ci _ hc
  obtain ⟨cf, kf, fi, f, hi, hsl⟩ := hS k hk
  have hlay := hts _ (hin _ (u_in_lay hk))
  unfold u_lay at hlay
  rw [if_pos hfin] at hlay
  have hst := (u_facts hfc hkC (u_lays hts hin hk) hi).1
  have hcf : m.cls = cf := by
    obtain ⟨_, _, c', _, _, _, -, -, hf', -, -, -, hown2, -⟩ := Cond.laysFinal_spec hlay
    have e1 : c' = cf := by have := hi.symm.trans hf'; simp at this; exact this.1.symm
    rw [hdecl] at hown2
    rw [← e1]; exact Option.some.inj (hown.symm.trans hown2)
  have h6 := u_fits hfc hkC hkind (Or.inr hlay) hi hd hn hfit
  refine W.putFinK hexec hb hown hlink hi hst hcf hin2 (by rw [q2]; exact h6) q1 q3 (by rw [hsl]; exact k2_hasslot (q4 k hk)) rfl rfl hdg fun H' e1 e2 e3 => ?_
  rw [hsl] at e1 ⊢
  exact kk H' _ ⟨_, hc, t_OB.to (V := updV (vp_V fs) k v) ⟨_, e1, q2, q3, t_set q4 hap hk v⟩ (fun j _ => vp_updV_set hl v j)⟩ e2 e3 (hS0.put e2 e3 hA)
end HW
theorem one_P {D : va_G} {cl : List vw_C} {q : Nat × va_E} {H : Heap} (h : va_at D cl q H) : va_P D cl [q] H := fun k x hk => by
  cases k with
  | zero => cases hk; exact h
  | succ k => simp at hk
section HP
variable {κ : KK} {y : MY} {d kc ks pc : Nat} {lv : List (Nat × Value)} {st : List Value} {g : GG} {Q : Option Value → GG → Prop}
theorem r_get {cx k idx N a : Nat} {C : String} {T : u_T} {v : Value} (hd : decode y.2.1 pc = .ok (.getfield idx, 3)) (hc : vwCl[cx]? = some (C, T, N)) (hin : ∀ w ∈ u_ws C T N, w ∈ AL) (hk : k < N) (hm : Cond.fieldLink y.1.cls idx (T k).1 (T k).2.1 (T k).2.2.1 ∈ AL) (hc6 : cx < 6) (hla : lab κ g a cx) (hv : (Fs g a cx)[k]? = some v) (kk : Wp κ y d kc ks (pc + 3) lv (v :: st) g Q) : Wp κ y d kc ks pc lv (.ref a :: st) g Q := by
  intro p l e R s m args below meth c H locs cells slots mc ms ls M hR h1 h2 hG hS hl
  have hat := lab_at hG hla
  rw [ge_obj hla.2.2 hc6] at hat
  exact va_get (D := kD κ) (ws := [(a, .inr (cx, Fs g a cx))]) M.1 M.2.1 M.2.2.2.2.2.2.2.1 hin M.2.2.2.2.1 M.2.2.2.2.2.2.2.2.1.1 (one_P hat) 0 rfl hc k hk (M.2.2.2.2.2.2.2.1 _ hm) (fun _ h => h) hv hd (kk p l e R s m args below meth c H locs cells slots mc ms ls M hR h1 h2 hG hS hl)
/-- .. a nest mate's -/
theorem r_getN {cx k idx N a : Nat} {C host : String} {T : u_T} {v : Value} (hd : decode y.2.1 pc = .ok (.getfield idx, 3)) (hc : vwCl[cx]? = some (C, T, N)) (hin : ∀ w ∈ u_ws C T N, w ∈ AL) (hk : k < N) (hq : (y.1.cls, idx, (T k).1, (T k).2.1, (T k).2.2.1, host) ∈ nlF) (hc6 : cx < 6) (hla : lab κ g a cx) (hv : (Fs g a cx)[k]? = some v) (kk : Wp κ y d kc ks (pc + 3) lv (v :: st) g Q) : Wp κ y d kc ks pc lv (.ref a :: st) g Q := by
  intro p l e R s m args below meth c H locs cells slots mc ms ls M hR h1 h2 hG hS hl
  have hat := lab_at hG hla
  rw [ge_obj hla.2.2 hc6] at hat
  have hlk := M.2.2.2.2.2.2.2.2.1.2.2.2.1 _ hq
  exact va_getN (D := kD κ) (ws := [(a, .inr (cx, Fs g a cx))]) M.1 M.2.1 M.2.2.2.2.2.2.2.1 hin M.2.2.2.2.1 M.2.2.2.2.2.2.2.2.1.1 (one_P hat) 0 rfl hc k hk (va_Nw.use rfl hlk) (fun _ h => h) hv hd (kk p l e R s m args below meth c H locs cells slots mc ms ls M hR h1 h2 hG hS hl)
theorem r_putI {cx k idx N a : Nat} {C : String} {T : u_T} {x : Int32} {ty0 : Nat → FieldType} {ty : FieldType} (hd : decode y.2.1 pc = .ok (.putfield idx, 3)) (hc : vwCl[cx]? = some (C, T, N)) (hin : ∀ w ∈ u_ws C T N, w ∈ AL) (hty : ∀ k, k < N → parseFieldDescriptor (T k).2.2.1 = some (ty0 k)) (hnm : ∀ a, a < N → ∀ b, b < N → a ≠ b → (T a).2.1 ≠ (T b).2.1) (hk : k < N) (hm : Cond.fieldLink y.1.cls idx (T k).1 (T k).2.1 (T k).2.2.1 ∈ AL) (hfin : (T k).2.2.2 = false) (hte : ty0 k = ty) (hn : narrow ty (.int x) = .int x) (hfit : fits ty (.int x) = true) (hi : isIf cx k = true) (hla : lab κ g a cx) (kk : Wp κ y d kc ks (pc + 3) lv st (setI g a k x) Q) : Wp κ y d kc ks pc lv (.int x :: .ref a :: st) g Q := by
  intro p l e R s m args below meth c H locs cells slots mc ms ls M hR h1 h2 hG hS hl
  subst hte
  have hat := lab_at hG hla
  rw [ge_obj hla.2.2 (If_c6 hi).1] at hat
  refine wq_put (D := kD κ) (A := kA κ) M.1 M.2.1 M.2.2.2.2.2.2.2.1 hin ty0 hty hnm M.2.2.2.2.1 M.2.2.2.2.2.2.2.2.1.1 hat hla.1 hS hc k hk (M.2.2.2.2.2.2.2.1 _ hm) hfin (hty k hk) hn hfit (by rw [Fs_len]; exact (If_c6 hi).2) hd (fun H1 locs1 hat1 hz ho hS1 => ?_)
  refine kk p l e R s m args below meth c H1 locs1 cells slots mc ms ls M hR h1 h2 (hG.moved rfl hz ho (fun b hb => ge_setI_ne hb) ?_) hS1 hl
  rw [ge_obj (show gk (setI g a k x) a % 32 = cx from hla.2.2) (If_c6 hi).1, Fs_setI hi]
  exact hat1
theorem r_putFI {cx k idx N a : Nat} {C : String} {T : u_T} {x : Int32} {ty0 : Nat → FieldType} {ty : FieldType} (hd : decode y.2.1 pc = .ok (.putfield idx, 3)) (hc : vwCl[cx]? = some (C, T, N)) (hin : ∀ w ∈ u_ws C T N, w ∈ AL) (hty : ∀ k, k < N → parseFieldDescriptor (T k).2.2.1 = some (ty0 k)) (hnm : ∀ a, a < N → ∀ b, b < N → a ≠ b → (T a).2.1 ≠ (T b).2.1) (hk : k < N) (hm : Cond.fieldLink y.1.cls idx (T k).1 (T k).2.1 (T k).2.2.1 ∈ AL) (hfin : (T k).2.2.2 = true) (hyn : y.1.name = "<init>") (hdecl : (T k).1 = y.1.cls) (hte : ty0 k = ty) (hn : narrow ty (.int x) = .int x) (hfit : fits ty (.int x) = true) (hi : isIf cx k = true) (hla : lab κ g a cx) (kk : Wp κ y d kc ks (pc + 3) lv st (setI g a k x) Q) : Wp κ y d kc ks pc lv (.int x :: .ref a :: st) g Q := by
  intro p l e R s m args below meth c H locs cells slots mc ms ls M hR h1 h2 hG hS hl
  subst hte
  have hat := lab_at hG hla
  rw [ge_obj hla.2.2 (If_c6 hi).1] at hat
  refine wq_putF (D := kD κ) (A := kA κ) M.1 M.2.1 M.2.2.2.2.2.2.2.1 hin ty0 hty hnm M.2.2.2.2.1 M.2.2.2.2.2.2.2.2.1.1 hat hla.1 hS hc k hk (M.2.2.2.2.2.2.2.1 _ hm) hfin (M.2.2.2.2.2.2.1 hyn) hdecl (hty k hk) hn hfit (by rw [Fs_len]; exact (If_c6 hi).2) hd (fun H1 locs1 hat1 hz ho hS1 => ?_)
  refine kk p l e R s m args below meth c H1 locs1 cells slots mc ms ls M hR h1 h2 (hG.moved rfl hz ho (fun b hb => ge_setI_ne hb) ?_) hS1 hl
  rw [ge_obj (show gk (setI g a k x) a % 32 = cx from hla.2.2) (If_c6 hi).1, Fs_setI hi]
  exact hat1
theorem r_putRO {cx k idx N a : Nat} {C : String} {T : u_T} {x : Option Nat} {ty0 : Nat → FieldType} {ty : FieldType} (hd : decode y.2.1 pc = .ok (.putfield idx, 3)) (hc : vwCl[cx]? = some (C, T, N)) (hin : ∀ w ∈ u_ws C T N, w ∈ AL) (hty : ∀ k, k < N → parseFieldDescriptor (T k).2.2.1 = some (ty0 k)) (hnm : ∀ a, a < N → ∀ b, b < N → a ≠ b → (T a).2.1 ≠ (T b).2.1) (hk : k < N) (hm : Cond.fieldLink y.1.cls idx (T k).1 (T k).2.1 (T k).2.2.1 ∈ AL) (hfin : (T k).2.2.2 = false) (hte : ty0 k = ty) (hn : narrow ty (va_rf x) = va_rf x) (hfit : fits ty (va_rf x) = true) (hi : isRf cx k = true) (hla : lab κ g a cx) (kk : Wp κ y d kc ks (pc + 3) lv st (setR g a k x) Q) : Wp κ y d kc ks pc lv (va_rf x :: .ref a :: st) g Q := by
  intro p l e R s m args below meth c H locs cells slots mc ms ls M hR h1 h2 hG hS hl
  subst hte
  have hat := lab_at hG hla
  rw [ge_obj hla.2.2 (Rf_c6 hi).1] at hat
  refine wq_put (D := kD κ) (A := kA κ) M.1 M.2.1 M.2.2.2.2.2.2.2.1 hin ty0 hty hnm M.2.2.2.2.1 M.2.2.2.2.2.2.2.2.1.1 hat hla.1 hS hc k hk (M.2.2.2.2.2.2.2.1 _ hm) hfin (hty k hk) hn hfit (by rw [Fs_len]; exact (Rf_c6 hi).2) hd (fun H1 locs1 hat1 hz ho hS1 => ?_)
  refine kk p l e R s m args below meth c H1 locs1 cells slots mc ms ls M hR h1 h2 (hG.moved rfl hz ho (fun b hb => ge_setR_ne hb) ?_) hS1 hl
  rw [ge_obj (show gk (setR g a k x) a % 32 = cx from hla.2.2) (Rf_c6 hi).1, Fs_setR hi]
  exact hat1
theorem r_putFRO {cx k idx N a : Nat} {C : String} {T : u_T} {x : Option Nat} {ty0 : Nat → FieldType} {ty : FieldType} (hd : decode y.2.1 pc = .ok (.putfield idx, 3)) (hc : vwCl[cx]? = some (C, T, N)) (hin : ∀ w ∈ u_ws C T N, w ∈ AL) (hty : ∀ k, k < N → parseFieldDescriptor (T k).2.2.1 = some (ty0 k)) (hnm : ∀ a, a < N → ∀ b, b < N → a ≠ b → (T a).2.1 ≠ (T b).2.1) (hk : k < N) (hm : Cond.fieldLink y.1.cls idx (T k).1 (T k).2.1 (T k).2.2.1 ∈ AL) (hfin : (T k).2.2.2 = true) (hyn : y.1.name = "<init>") (hdecl : (T k).1 = y.1.cls) (hte : ty0 k = ty) (hn : narrow ty (va_rf x) = va_rf x) (hfit : fits ty (va_rf x) = true) (hi : isRf cx k = true) (hla : lab κ g a cx) (kk : Wp κ y d kc ks (pc + 3) lv st (setR g a k x) Q) : Wp κ y d kc ks pc lv (va_rf x :: .ref a :: st) g Q := by
  intro p l e R s m args below meth c H locs cells slots mc ms ls M hR h1 h2 hG hS hl
  subst hte
  have hat := lab_at hG hla
  rw [ge_obj hla.2.2 (Rf_c6 hi).1] at hat
  refine wq_putF (D := kD κ) (A := kA κ) M.1 M.2.1 M.2.2.2.2.2.2.2.1 hin ty0 hty hnm M.2.2.2.2.1 M.2.2.2.2.2.2.2.2.1.1 hat hla.1 hS hc k hk (M.2.2.2.2.2.2.2.1 _ hm) hfin (M.2.2.2.2.2.2.1 hyn) hdecl (hty k hk) hn hfit (by rw [Fs_len]; exact (Rf_c6 hi).2) hd (fun H1 locs1 hat1 hz ho hS1 => ?_)
  refine kk p l e R s m args below meth c H1 locs1 cells slots mc ms ls M hR h1 h2 (hG.moved rfl hz ho (fun b hb => ge_setR_ne hb) ?_) hS1 hl
  rw [ge_obj (show gk (setR g a k x) a % 32 = cx from hla.2.2) (Rf_c6 hi).1, Fs_setR hi]
  exact hat1
/-! arrays -/
theorem tys_at {k : Nat} (h6 : 6 ≤ k) (h12 : k ≤ 12) : (tys κ)[k - 6]? = some (cy κ k, tyA k) := by
  have : k = 6 ∨ k = 7 ∨ k = 8 ∨ k = 9 ∨ k = 10 ∨ k = 11 ∨ k = 12 := by omega
  rcases this with rfl | rfl | rfl | rfl | rfl | rfl | rfl <;> rfl
theorem r_iald {a j : Nat} {i : Int32} (hd : decode y.2.1 pc = .ok (.iaload, 1)) (hla : lab κ g a 6) (hi : i = nI j) (hj : j < gl g a) (hb : gl g a < 2 ^ 31) (kk : Wp κ y d kc ks (pc + 1) lv (.int (gi g a j) :: st) g Q) : Wp κ y d kc ks pc lv (.int i :: .ref a :: st) g Q := by
  intro p l e R s m args below meth c H locs cells slots mc ms ls M hR h1 h2 hG hS hl
  subst hi
  have hat := lab_at hG hla
  rw [ge_arr hla.2.2 (by decide), Ar_i (by decide)] at hat
  refine va_iald (D := kD κ) (ws := [(a, .inl (cy κ 6, gl g a, .inl (gi g a)))]) M.1 M.2.1 M.2.2.2.2.2.2.2.2.1.1 (one_P hat) 0 0 rfl rfl (vp_in_nI hj hb) hd ?_
  rw [nI_clamp (by omega)]
  exact kk p l e R s m args below meth c H locs cells slots mc ms ls M hR h1 h2 hG hS hl
theorem r_bald {a j : Nat} {i : Int32} (hd : decode y.2.1 pc = .ok (.baload, 1)) (hla : lab κ g a 7) (hi : i = nI j) (hj : j < gl g a) (hb : gl g a < 2 ^ 31) (kk : Wp κ y d kc ks (pc + 1) lv (.int (gi g a j) :: st) g Q) : Wp κ y d kc ks pc lv (.int i :: .ref a :: st) g Q := by
  intro p l e R s m args below meth c H locs cells slots mc ms ls M hR h1 h2 hG hS hl
  subst hi
  have hat := lab_at hG hla
  rw [ge_arr hla.2.2 (by decide), Ar_i (by decide)] at hat
  refine va_zald (D := kD κ) (ws := [(a, .inl (cy κ 7, gl g a, .inl (gi g a)))]) M.1 M.2.1 M.2.2.2.2.2.2.2.2.1.1 (one_P hat) 0 1 rfl rfl (vp_in_nI hj hb) hd ?_
  rw [nI_clamp (by omega)]
  exact kk p l e R s m args below meth c H locs cells slots mc ms ls M hR h1 h2 hG hS hl
theorem r_aald {a j k : Nat} {i : Int32} (hd : decode y.2.1 pc = .ok (.aaload, 1)) (h8 : 8 ≤ k ∧ k ≤ 12) (hla : lab κ g a k) (hi : i = nI j) (hj : j < gl g a) (hb : gl g a < 2 ^ 31) (kk : Wp κ y d kc ks (pc + 1) lv (va_rf (gr g a j) :: st) g Q) : Wp κ y d kc ks pc lv (.int i :: .ref a :: st) g Q := by
  intro p l e R s m args below meth c H locs cells slots mc ms ls M hR h1 h2 hG hS hl
  subst hi
  have hat := lab_at hG hla
  rw [ge_arr hla.2.2 (by omega), Ar_r h8.1] at hat
  have hr : (tyA k).isReference = true := by
    obtain ⟨h8, h12⟩ := h8
    have : k = 8 ∨ k = 9 ∨ k = 10 ∨ k = 11 ∨ k = 12 := by omega
    rcases this with rfl | rfl | rfl | rfl | rfl <;> rfl
  refine W.aald (v := va_rf (gr g a j)) (ty := tyA k) M.1 M.2.1 hat ((M.2.2.2.2.2.2.2.2.1.1.2 (k - 6) _ (tys_at (by omega) h8.2)).1 (gl g a) (fun j => va_rf (gr g a j))) hr (fun q => by cases q) (by show ¬ (nI j < 0 ∨ (arrV _ _ _).slots.size ≤ _); rw [arrV_size]; exact nI_in hj hb) (by show (arrV _ _ _).slots[_]? = _; rw [nI_clamp (by omega), arrV_read _ _ hj]) rfl rfl hd ?_
  exact kk p l e R s m args below meth c H locs cells slots mc ms ls M hR h1 h2 hG hS hl
theorem r_iast {a j : Nat} {i x : Int32} (hd : decode y.2.1 pc = .ok (.iastore, 1)) (hla : lab κ g a 6) (hi : i = nI j) (hj : j < gl g a) (hb : gl g a < 2 ^ 31) (kk : Wp κ y d kc ks (pc + 1) lv st (setI g a j x) Q) : Wp κ y d kc ks pc lv (.int x :: .int i :: .ref a :: st) g Q := by
  intro p l e R s m args below meth c H locs cells slots mc ms ls M hR h1 h2 hG hS hl
  subst hi
  have hat := lab_at hG hla
  rw [ge_arr hla.2.2 (by decide), Ar_i (by decide)] at hat
  refine W.iast M.1 M.2.1 hat ((M.2.2.2.2.2.2.2.2.1.1.2 0 _ rfl).1 (gl g a) (fun j => .int (gi g a j))) (fun q => by cases q) (by show ¬ (nI j < 0 ∨ (arrV _ _ _).slots.size ≤ _); rw [arrV_size]; exact nI_in hj hb) rfl rfl hd fun H1 e1 z oq => ?_
  refine kk p l e R s m args below meth c H1 _ cells slots mc ms ls M hR h1 h2 (hG.moved rfl z oq (fun b hb => ge_setI_ne hb) ?_) (hS.put z oq hla.1) hl
  rw [ge_arr (show gk (setI g a j x) a % 32 = 6 from hla.2.2) (by decide), Ar_i (by decide)]
  show H1[a]? = some (vp_cell _ _)
  rw [e1, nI_clamp (by omega), vp_cell_i, vp_cell_i, arrV_store]
  congr 2
  funext q
  by_cases hq : q = j
  · subst hq
    simp [updV, setI, gi, up2]
  · simp [updV, setI, gi, up2, hq]
theorem r_bast {a j : Nat} {i x : Int32} (hd : decode y.2.1 pc = .ok (.bastore, 1)) (hla : lab κ g a 7) (hi : i = nI j) (hj : j < gl g a) (hb : gl g a < 2 ^ 31) (hx : narrow .boolean (.int x) = .int x) (kk : Wp κ y d kc ks (pc + 1) lv st (setI g a j x) Q) : Wp κ y d kc ks pc lv (.int x :: .int i :: .ref a :: st) g Q := by
  intro p l e R s m args below meth c H locs cells slots mc ms ls M hR h1 h2 hG hS hl
  subst hi
  have hat := lab_at hG hla
  rw [ge_arr hla.2.2 (by decide), Ar_i (by decide)] at hat
  refine W.zast M.1 M.2.1 hat ((M.2.2.2.2.2.2.2.2.1.1.2 1 _ rfl).1 (gl g a) (fun j => .int (gi g a j))) (fun q => by cases q) (by show ¬ (nI j < 0 ∨ (arrV _ _ _).slots.size ≤ _); rw [arrV_size]; exact nI_in hj hb) rfl rfl hd fun H1 e1 z oq => ?_
  refine kk p l e R s m args below meth c H1 _ cells slots mc ms ls M hR h1 h2 (hG.moved rfl z oq (fun b hb => ge_setI_ne hb) ?_) (hS.put z oq hla.1) hl
  rw [ge_arr (show gk (setI g a j x) a % 32 = 7 from hla.2.2) (by decide), Ar_i (by decide)]
  show H1[a]? = some (vp_cell _ _)
  rw [e1, hx, nI_clamp (by omega), vp_cell_i, vp_cell_i, arrV_store]
  congr 2
  funext q
  by_cases hq : q = j
  · subst hq
    simp [updV, setI, gi, up2]
  · simp [updV, setI, gi, up2, hq]
theorem asg_self (vm : Vm) (q : ClassId) : vm.assignable q q = true := by
  show vm.assignableAux (255 + 1) q q = true
  unfold Vm.assignableAux
  rw [beq_self_eq_true, Bool.true_or]
/-- the kind of the elements of a row of references, their class's number -/
def elk : Nat → Nat
  | 8 => 0
  | 9 => 1
  | 10 => 3
  | 11 => 6
  | _ => 11
def kcl (κ : KK) (k : Nat) : ClassId := if k < 6 then kC κ k else cy κ k
theorem arr_cls {s : State} {k : Nat} (hK : KX κ s) (h8 : 8 ≤ k ∧ k ≤ 12) : ∃ kA : Class, s.vm.classes[cy κ k]? = some kA ∧ kA.kind = .array (kcl κ (elk k)) (tyA k) := by
  obtain ⟨h8, h12⟩ := h8
  have : k = 8 ∨ k = 9 ∨ k = 10 ∨ k = 11 ∨ k = 12 := by omega
  rcases this with rfl | rfl | rfl | rfl | rfl
  · obtain ⟨kA, comp, e1, e2, e3, -⟩ := (hK.1.2 2 _ rfl).2
    have := (hK.1.1 0 _ rfl).2.1
    exact ⟨kA, e1, by rw [e2]; rw [Option.some.inj (e3.symm.trans this)]; rfl⟩
  · obtain ⟨kA, comp, e1, e2, e3, -⟩ := (hK.1.2 3 _ rfl).2
    have := (hK.1.1 1 _ rfl).2.1
    exact ⟨kA, e1, by rw [e2]; rw [Option.some.inj (e3.symm.trans this)]; rfl⟩
  · obtain ⟨kA, comp, e1, e2, e3, -⟩ := (hK.1.2 4 _ rfl).2
    have := (hK.1.1 3 _ rfl).2.1
    exact ⟨kA, e1, by rw [e2]; rw [Option.some.inj (e3.symm.trans this)]; rfl⟩
  · exact hK.2.1
  · exact hK.2.2.1
theorem cell_cls {H : Heap} {v k : Nat} (hG : GW κ g H) (h : lab κ g v k) : ∃ cv : Cell, H[v]? = some cv ∧ cv.vm = .none ∧ cv.cls = kcl κ k := by
  have hat := lab_at hG h
  by_cases h6 : k < 6
  · rw [ge_obj h.2.2 h6] at hat
    obtain ⟨r, h1, cell, q1, q2, q3, q4⟩ := hat
    exact ⟨cell, q1, q3, by rw [q2]; unfold kcl; rw [if_pos h6]⟩
  · rw [ge_arr h.2.2 (by omega)] at hat
    have e : kcl κ k = cy κ k := if_neg h6
    by_cases h8 : k < 8
    · rw [Ar_i h8] at hat
      exact ⟨_, hat, rfl, by rw [e]; rfl⟩
    · rw [Ar_r (by omega)] at hat
      exact ⟨_, hat, rfl, by rw [e]; rfl⟩
theorem cls_some {s : State} {k : Nat} (hK : KX κ s) (h : k < 6 ∨ k = 6 ∨ k = 11) : ∃ kA : Class, s.vm.classes[kcl κ k]? = some kA := by
  rcases h with h | rfl | rfl
  · have e : kcl κ k = kC κ k := if_pos h
    rw [e]
    have : k = 0 ∨ k = 1 ∨ k = 2 ∨ k = 3 ∨ k = 4 ∨ k = 5 := by omega
    rcases this with rfl | rfl | rfl | rfl | rfl | rfl
    · obtain ⟨-, kA, hk, -⟩ := (hK.1.1 0 _ rfl).2
      exact ⟨kA, hk⟩
    · obtain ⟨-, kA, hk, -⟩ := (hK.1.1 1 _ rfl).2
      exact ⟨kA, hk⟩
    · obtain ⟨-, kA, hk, -⟩ := (hK.1.1 2 _ rfl).2
      exact ⟨kA, hk⟩
    · obtain ⟨-, kA, hk, -⟩ := (hK.1.1 3 _ rfl).2
      exact ⟨kA, hk⟩
    · obtain ⟨-, kA, hk, -⟩ := (hK.1.1 4 _ rfl).2
      exact ⟨kA, hk⟩
    · obtain ⟨-, kA, hk, -⟩ := (hK.1.1 5 _ rfl).2
      exact ⟨kA, hk⟩
  · obtain ⟨-, kA, hk, -⟩ := (hK.1.2 0 _ rfl).1 0 (fun _ => .int 0)
    exact ⟨kA, hk⟩
  · obtain ⟨kA, hk, -⟩ := hK.2.1
    exact ⟨kA, hk⟩
theorem r_aast {a j k b : Nat} {i : Int32} (hd : decode y.2.1 pc = .ok (.aastore, 1)) (h8 : 8 ≤ k ∧ k ≤ 12) (hla : lab κ g a k) (hlb : lab κ g b (elk k)) (hi : i = nI j) (hj : j < gl g a) (hb : gl g a < 2 ^ 31) (kk : Wp κ y d kc ks (pc + 1) lv st (setR g a j (some b)) Q) : Wp κ y d kc ks pc lv (.ref b :: .int i :: .ref a :: st) g Q := by
  intro p l e R s m args below meth c H locs cells slots mc ms ls M hR h1 h2 hG hS hl
  subst hi
  have hat := lab_at hG hla
  rw [ge_arr hla.2.2 (by omega), Ar_r h8.1] at hat
  have hK := M.2.2.2.2.2.2.2.2.1
  obtain ⟨kA, hk1, hk2⟩ := arr_cls hK h8
  obtain ⟨cv, hv1, hv2, hv3⟩ := cell_cls hG hlb
  have hek : elk k < 6 ∨ elk k = 6 ∨ elk k = 11 := by
    obtain ⟨h8, h12⟩ := h8
    have : k = 8 ∨ k = 9 ∨ k = 10 ∨ k = 11 ∨ k = 12 := by omega
    rcases this with rfl | rfl | rfl | rfl | rfl <;> simp [elk]
  obtain ⟨kE, hkE⟩ := cls_some hK hek
  have hr : (tyA k).isReference = true := by
    obtain ⟨h8, h12⟩ := h8
    have : k = 8 ∨ k = 9 ∨ k = 10 ∨ k = 11 ∨ k = 12 := by omega
    rcases this with rfl | rfl | rfl | rfl | rfl <;> rfl
  refine W.aast M.1 M.2.1 hat (fun q h => by cases h) (fun h => by cases h) hk1 hk2 hr hkE ⟨nI_pos (by omega), by show _ < (arrV _ _ _).slots.size; rw [arrV_size, nI_clamp (by omega)]; exact hj⟩ hv1 (fun q h => by rw [hv2] at h; cases h) (by rw [hv3]; exact hkE) (by rw [hv3]; exact asg_self _ _) rfl rfl hd fun H1 e1 z oq => ?_
  refine kk p l e R s m args below meth c H1 _ cells slots mc ms ls M hR h1 h2 (hG.moved rfl z oq (fun b hb => ge_setR_ne hb) ?_) (hS.put z oq hla.1) hl
  rw [ge_arr (show gk (setR g a j (some b)) a % 32 = k from hla.2.2) (by omega), Ar_r h8.1]
  show H1[a]? = some (vp_cell _ _)
  rw [e1, nI_clamp (by omega), vp_cell_q, vp_cell_q, arrV_store]
  congr 2
  funext q
  by_cases hq : q = j
  · subst hq
    simp [updV, setR, gr, up2, va_rf]
  · simp [updV, setR, gr, up2, hq]
/-! the script -/
theorem r_slen (hd : decode y.2.1 pc = .ok (.arraylength, 1)) (kk : Wp κ y d kc ks (pc + 1) lv (.int (nI (sl κ)) :: st) g Q) : Wp κ y d kc ks pc lv (.ref (sb κ) :: st) g Q := by
  intro p l e R s m args below meth c H locs cells slots mc ms ls M hR h1 h2 hG hS hl
  obtain ⟨hx, hb, hr, hml, hown, hlk, hin0, hts, hK, hX, hsl, hsb, hbs⟩ := id M
  exact va_slen hx hb hX hsl (Nat.not_le.mpr hsb) hS hd (kk p l e R s m args below meth c H locs cells slots mc ms ls M hR h1 h2 hG hS hl)
theorem r_sld {j : Nat} {i : Int32} (hd : decode y.2.1 pc = .ok (.iaload, 1)) (hi : i = nI j) (hj : j < sl κ) (hb2 : sl κ < 2 ^ 31) (kk : Wp κ y d kc ks (pc + 1) lv (.int (xs κ j) :: st) g Q) : Wp κ y d kc ks pc lv (.int i :: .ref (sb κ) :: st) g Q := by
  intro p l e R s m args below meth c H locs cells slots mc ms ls M hR h1 h2 hG hS hl
  subst hi
  obtain ⟨hx, hb, hr, hml, hown, hlk, hin0, hts, hK, hX, hsl, hsb, hbs⟩ := id M
  refine va_sld hx hb hX hsl (Nat.not_le.mpr hsb) hS (vp_in_nI hj hb2) hd ?_
  rw [nI_clamp (by omega)]
  exact kk p l e R s m args below meth c H locs cells slots mc ms ls M hR h1 h2 hG hS hl
end HP
