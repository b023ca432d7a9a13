theorem e_putXI {κ : KK} {y : MY} {d kc ks pc : Nat} {lv : List (Nat × Value)} {st : List Value} {g : GG} {Q : Option Value → GG → Prop} {A : Nat → Int → Nat} {σ : ST} {t k idx N a : Nat} {C : String} {T : u_T} {ty0 : Nat → FieldType} {ty : FieldType} {x : Int32} (hd : decode y.2.1 pc = .ok (.putfield idx, 3)) (hb : CB t C T N ty0) (hk : k < N) (hm : Cond.fieldLink y.1.cls idx (T k).1 (T k).2.1 (T k).2.2.1 ∈ AL) (hfin : (T k).2.2.2 = false) (hte : ty0 k = ty) (hn : narrow ty (.int x) = .int x) (hfit : fits ty (.int x) = true) (hi : isIf t k = true) (hla : lab κ g a t) (hoff : ∀ t r, t < 27 → Lv σ t r → A t r ≠ a) (hh : HR κ A g σ)
    (kk : HR κ A (setI g a k x) σ → Wp κ y d kc ks (pc + 3) lv st (setI g a k x) Q) : Wp κ y d kc ks pc lv (.int x :: .ref a :: st) g Q :=
  r_putI hd hb.1 hb.2.1 hb.2.2.1 hb.2.2.2 hk hm hfin hte hn hfit hi hla (kk (hr_offI hh hoff x))
theorem e_putXR {κ : KK} {y : MY} {d kc ks pc : Nat} {lv : List (Nat × Value)} {st : List Value} {g : GG} {Q : Option Value → GG → Prop} {A : Nat → Int → Nat} {σ : ST} {t k idx N a : Nat} {C : String} {T : u_T} {ty0 : Nat → FieldType} {ty : FieldType} {x : Option Nat} (hd : decode y.2.1 pc = .ok (.putfield idx, 3)) (hb : CB t C T N ty0) (hk : k < N) (hm : Cond.fieldLink y.1.cls idx (T k).1 (T k).2.1 (T k).2.2.1 ∈ AL) (hfin : (T k).2.2.2 = false) (hte : ty0 k = ty) (hn : ∀ z, narrow ty (va_rf z) = va_rf z) (hfit : ∀ z, fits ty (va_rf z) = true) (hi : isRf t k = true) (hla : lab κ g a t) (hoff : ∀ t r, t < 27 → Lv σ t r → A t r ≠ a) (hh : HR κ A g σ)
    (kk : HR κ A (setR g a k x) σ → Wp κ y d kc ks (pc + 3) lv st (setR g a k x) Q) : Wp κ y d kc ks pc lv (va_rf x :: .ref a :: st) g Q :=
  r_putRO hd hb.1 hb.2.1 hb.2.2.1 hb.2.2.2 hk hm hfin hte (hn _) (hfit _) hi hla (kk (hr_offR hh hoff x))
theorem e_putXFI {κ : KK} {y : MY} {d kc ks pc : Nat} {lv : List (Nat × Value)} {st : List Value} {g : GG} {Q : Option Value → GG → Prop} {A : Nat → Int → Nat} {σ : ST} {t k idx N a : Nat} {C : String} {T : u_T} {ty0 : Nat → FieldType} {ty : FieldType} {x : Int32} (hd : decode y.2.1 pc = .ok (.putfield idx, 3)) (hb : CB t C T N ty0) (hk : k < N) (hm : Cond.fieldLink y.1.cls idx (T k).1 (T k).2.1 (T k).2.2.1 ∈ AL) (hfin : (T k).2.2.2 = true) (hyn : y.1.name = "<init>") (hdecl : (T k).1 = y.1.cls) (hte : ty0 k = ty) (hn : narrow ty (.int x) = .int x) (hfit : fits ty (.int x) = true) (hi : isIf t k = true) (hla : lab κ g a t) (hoff : ∀ t r, t < 27 → Lv σ t r → A t r ≠ a) (hh : HR κ A g σ)
    (kk : HR κ A (setI g a k x) σ → Wp κ y d kc ks (pc + 3) lv st (setI g a k x) Q) : Wp κ y d kc ks pc lv (.int x :: .ref a :: st) g Q :=
  r_putFI hd hb.1 hb.2.1 hb.2.2.1 hb.2.2.2 hk hm hfin hyn hdecl hte hn hfit hi hla (kk (hr_offI hh hoff x))
theorem e_putXFR {κ : KK} {y : MY} {d kc ks pc : Nat} {lv : List (Nat × Value)} {st : List Value} {g : GG} {Q : Option Value → GG → Prop} {A : Nat → Int → Nat} {σ : ST} {t k idx N a : Nat} {C : String} {T : u_T} {ty0 : Nat → FieldType} {ty : FieldType} {x : Option Nat} (hd : decode y.2.1 pc = .ok (.putfield idx, 3)) (hb : CB t C T N ty0) (hk : k < N) (hm : Cond.fieldLink y.1.cls idx (T k).1 (T k).2.1 (T k).2.2.1 ∈ AL) (hfin : (T k).2.2.2 = true) (hyn : y.1.name = "<init>") (hdecl : (T k).1 = y.1.cls) (hte : ty0 k = ty) (hn : ∀ z, narrow ty (va_rf z) = va_rf z) (hfit : ∀ z, fits ty (va_rf z) = true) (hi : isRf t k = true) (hla : lab κ g a t) (hoff : ∀ t r, t < 27 → Lv σ t r → A t r ≠ a) (hh : HR κ A g σ)
    (kk : HR κ A (setR g a k x) σ → Wp κ y d kc ks (pc + 3) lv st (setR g a k x) Q) : Wp κ y d kc ks pc lv (va_rf x :: .ref a :: st) g Q :=
  r_putFRO hd hb.1 hb.2.1 hb.2.2.1 hb.2.2.2 hk hm hfin hyn hdecl hte (hn _) (hfit _) hi hla (kk (hr_offR hh hoff x))
def shF (s ab rp nm tr sz : Int) : Int → Int := fun c => if c = 0 then s else if c = 1 then ab else if c = 2 then rp else if c = 3 then nm else if c = 4 then tr else sz
/-- a new Shape's cell, filled -/
def IQ1 (κ : KK) (A : Nat → Int → Nat) (σ : ST) (b : Nat) (f : Int → Int) : Option Value → GG → Prop := fun r h => r = none ∧ HR κ A h σ ∧ lab κ h b 1 ∧ (∀ c : Nat, isI 1 c = true → gi h b c = iI (f c)) ∧ (∀ c t' : Nat, dt 1 c = t' → t' < 27 → gr h b c = rf A t' (f c))
theorem isI1 {c : Nat} (h : isI 1 c = true) : c = 0 ∨ c = 3 ∨ c = 4 ∨ c = 5 := by
  have h2 : isIf 1 c = true := h
  unfold isIf at h2
  split at h2 <;> first | omega | cases h2
theorem dt1 {c t' : Nat} (h : dt 1 c = t') (h2 : t' < 27) : c = 1 ∧ t' = 1 ∨ c = 2 ∧ t' = 3 := by
  unfold dt at h
  split at h <;> omega
theorem shape_cell {κ : KK} {A : Nat → Int → Nat} {σ : ST} {g : GG} {b : Nat} {s ab rp nm tr sz : Int} (hb : lab κ g b 1)
    (hh : HR κ A (setI (setI (setI (setR (setR (setI g b 0 (iI s)) b 1 (rf A 1 ab)) b 2 (rf A 3 rp)) b 3 (iI nm)) b 4 (iI tr)) b 5 (iI sz)) σ) : IQ1 κ A σ b (shF s ab rp nm tr sz) none (setI (setI (setI (setR (setR (setI g b 0 (iI s)) b 1 (rf A 1 ab)) b 2 (rf A 3 rp)) b 3 (iI nm)) b 4 (iI tr)) b 5 (iI sz)) := by
  refine ⟨rfl, hh, hb, fun c hc => ?_, fun c t' hc h26 => ?_⟩
  · rcases isI1 hc with rfl | rfl | rfl | rfl <;> simp [gi, setI, setR, up2, shF]
  · rcases dt1 hc h26 with ⟨rfl, rfl⟩ | ⟨rfl, rfl⟩ <;> simp [gr, gi, setI, setR, up2, shF]
theorem s_initS0 {κ : KK} {A : Nat → Int → Nat} {σ : ST} {g : GG} {b : Nat} {s ab rp nm tr : Int} (hab : ab < 0) (hh : HR κ A g σ) : lab κ g b 1 → (∀ t r, t < 27 → Lv σ t r → A t r ≠ b) → True → Spec κ MX1_init 1 0 0 [.ref b, .int (iI s), vr A 1 ab, vr A 3 rp, .int (iI nm), .int (iI tr)] g (IQ1 κ A σ b (shF s ab rp nm tr (0))) := by
  intro hb hoff g0
  refine e_start rfl (by show (lg_sl _).length ≤ 6; simp [lg_sl, cat_rf, cat_i, cat_l, cat_r, cat_n]) (lv := [(0, .ref b), (1, .int (iI s)), (2, vr A 1 ab), (3, vr A 3 rp), (4, .int (iI nm)), (5, .int (iI tr))]) (by simp [lv_args, cat_rf, cat_i, cat_l, cat_r, cat_n]) ?_
  refine r_aload_n dX1_init_0 rfl rfl ?_
  refine r_objInit dX1_init_1 ml_X1_1 (by decide) (by simp [cat_rf, cat_i, cat_l, cat_r, cat_n]) ?_
  refine r_aload_n dX1_init_4 rfl rfl ?_
  refine r_iload_n dX1_init_5 rfl rfl ?_
  refine e_putXFI (t := 1) (k := 0) dX1_init_6 cb1 (by decide) mf_X1_7 (by rfl) (by rfl) (by rfl) (by rfl) (by rfl) (by rfl) (by rfl) (by assumption) hoff (by assumption) (fun hh => ?_)
  refine r_aload_n dX1_init_9 rfl rfl ?_
  refine r_aload_nO dX1_init_10 rfl rfl ?_
  refine e_putXFR (t := 1) (k := 1) dX1_init_11 cb1 (by decide) mf_X1_13 (by rfl) (by rfl) (by rfl) (by rfl) (by intro z; cases z <;> rfl) (by intro z; cases z <;> rfl) (by rfl) (by assumption) hoff (by assumption) (fun hh => ?_)
  refine r_aload_n dX1_init_14 rfl rfl ?_
  refine r_aload_nO dX1_init_15 rfl rfl ?_
  refine e_putXFR (t := 1) (k := 2) dX1_init_16 cb1 (by decide) mf_X1_17 (by rfl) (by rfl) (by rfl) (by rfl) (by intro z; cases z <;> rfl) (by intro z; cases z <;> rfl) (by rfl) (by assumption) hoff (by assumption) (fun hh => ?_)
  refine r_aload_n dX1_init_19 rfl rfl ?_
  refine r_iload dX1_init_20 rfl ?_
  refine e_putXFI (t := 1) (k := 3) dX1_init_22 cb1 (by decide) mf_X1_21 (by rfl) (by rfl) (by rfl) (by rfl) (by rfl) (by rfl) (by rfl) (by assumption) hoff (by assumption) (fun hh => ?_)
  refine r_aload_n dX1_init_25 rfl rfl ?_
  refine r_iload dX1_init_26 rfl ?_
  refine e_putXFI (t := 1) (k := 4) dX1_init_28 cb1 (by decide) mf_X1_24 (by rfl) (by rfl) (by rfl) (by rfl) (by rfl) (by rfl) (by rfl) (by assumption) hoff (by assumption) (fun hh => ?_)
  refine r_aload_n dX1_init_31 rfl rfl ?_
  refine r_aload_nO dX1_init_32 rfl rfl ?_
  refine e_ifnonnull 40 dX1_init_33 (by decide) (fun h33 => by exfalso; omega) (fun h33 => ?_)
  refine r_pc 36 rfl ?_
  refine e_iconst dX1_init_36 ?_
  refine r_goto 46 dX1_init_37 (by decide) ?_
  refine e_putXFI (t := 1) (k := 5) dX1_init_46 cb1 (by decide) mf_X1_27 (by rfl) (by rfl) (by rfl) (by rfl) (by rfl) (by rfl) (by rfl) (by assumption) hoff (by assumption) (fun hh => ?_)
  exact r_vret dX1_init_49 rfl (shape_cell hb hh)
theorem s_initS {κ : KK} {A : Nat → Int → Nat} {σ : ST} {g : GG} {b : Nat} {s ab rp nm tr : Int} (hab : Lv σ 1 ab) (hh : HR κ A g σ) : lab κ g b 1 → (∀ t r, t < 27 → Lv σ t r → A t r ≠ b) → True → Spec κ MX1_init 1 0 0 [.ref b, .int (iI s), vr A 1 ab, vr A 3 rp, .int (iI nm), .int (iI tr)] g (IQ1 κ A σ b (shF s ab rp nm tr (σ 1 ab 5 + 1))) := by
  intro hb hoff g0
  refine e_start rfl (by show (lg_sl _).length ≤ 6; simp [lg_sl, cat_rf, cat_i, cat_l, cat_r, cat_n]) (lv := [(0, .ref b), (1, .int (iI s)), (2, vr A 1 ab), (3, vr A 3 rp), (4, .int (iI nm)), (5, .int (iI tr))]) (by simp [lv_args, cat_rf, cat_i, cat_l, cat_r, cat_n]) ?_
  refine r_aload_n dX1_init_0 rfl rfl ?_
  refine r_objInit dX1_init_1 ml_X1_1 (by decide) (by simp [cat_rf, cat_i, cat_l, cat_r, cat_n]) ?_
  refine r_aload_n dX1_init_4 rfl rfl ?_
  refine r_iload_n dX1_init_5 rfl rfl ?_
  refine e_putXFI (t := 1) (k := 0) dX1_init_6 cb1 (by decide) mf_X1_7 (by rfl) (by rfl) (by rfl) (by rfl) (by rfl) (by rfl) (by rfl) (by assumption) hoff (by assumption) (fun hh => ?_)
  refine r_aload_n dX1_init_9 rfl rfl ?_
  refine r_aload_nO dX1_init_10 rfl rfl ?_
  refine e_putXFR (t := 1) (k := 1) dX1_init_11 cb1 (by decide) mf_X1_13 (by rfl) (by rfl) (by rfl) (by rfl) (by intro z; cases z <;> rfl) (by intro z; cases z <;> rfl) (by rfl) (by assumption) hoff (by assumption) (fun hh => ?_)
  refine r_aload_n dX1_init_14 rfl rfl ?_
  refine r_aload_nO dX1_init_15 rfl rfl ?_
  refine e_putXFR (t := 1) (k := 2) dX1_init_16 cb1 (by decide) mf_X1_17 (by rfl) (by rfl) (by rfl) (by rfl) (by intro z; cases z <;> rfl) (by intro z; cases z <;> rfl) (by rfl) (by assumption) hoff (by assumption) (fun hh => ?_)
  refine r_aload_n dX1_init_19 rfl rfl ?_
  refine r_iload dX1_init_20 rfl ?_
  refine e_putXFI (t := 1) (k := 3) dX1_init_22 cb1 (by decide) mf_X1_21 (by rfl) (by rfl) (by rfl) (by rfl) (by rfl) (by rfl) (by rfl) (by assumption) hoff (by assumption) (fun hh => ?_)
  refine r_aload_n dX1_init_25 rfl rfl ?_
  refine r_iload dX1_init_26 rfl ?_
  refine e_putXFI (t := 1) (k := 4) dX1_init_28 cb1 (by decide) mf_X1_24 (by rfl) (by rfl) (by rfl) (by rfl) (by rfl) (by rfl) (by rfl) (by assumption) hoff (by assumption) (fun hh => ?_)
  refine r_aload_n dX1_init_31 rfl rfl ?_
  refine r_aload_nO dX1_init_32 rfl rfl ?_
  refine e_ifnonnull 40 dX1_init_33 (by decide) (fun h33 => ?_) (fun h33 => by have := hab.1; omega)
  refine r_pc 40 rfl ?_
  refine r_aload_nO dX1_init_40 rfl rfl ?_
  refine e_getI (t := 1) (k := 5) 5 dX1_init_41 cb1 (by decide) mf_X1_27 (by rfl) rfl (by assumption) (by assumption) ?_
  refine e_iconst dX1_init_44 ?_
  first | refine e_iadd dX1_init_45 ?_ | refine r_iadd dX1_init_45 ?_
  refine e_putXFI (t := 1) (k := 5) dX1_init_46 cb1 (by decide) mf_X1_27 (by rfl) (by rfl) (by rfl) (by rfl) (by rfl) (by rfl) (by rfl) (by assumption) hoff (by assumption) (fun hh => ?_)
  exact r_vret dX1_init_49 rfl (shape_cell hb hh)
def nsS (σ : ST) (ab rp nm tr : Int) : ST := up (up (gS σ 1 (shF (σ 99 1 0) ab rp nm tr (if ab < 0 then 0 else σ 1 ab 5 + 1))) 10 0 (σ 99 1 0) (σ 99 1 0)) 2 0 1 (σ 99 1 0 + 1)
/-- a Shape is answered: one that there was (M tells of it), or null, or a new one -/
def AL1 (A : Nat → Int → Nat) (σ : ST) (M : Int → Prop) (ab rp nm tr : Int) (A' : Nat → Int → Nat) (σ' : ST) (v : Int) : Prop := (A' = A ∧ σ' = σ ∧ (-1 ≤ v ∧ v < σ 99 1 0) ∧ (0 ≤ v → M v)) ∨ (σ 99 1 0 < 80 ∧ ∃ b, A' = gA A 1 (σ 99 1 0) b ∧ σ' = nsS σ ab rp nm tr ∧ v = σ 99 1 0)
def BQ (κ : KK) (P : (Nat → Int → Nat) → ST → Int → Prop) : Option Value → GG → Prop := fun r h => ∃ (A' : Nat → Int → Nat) (σ' : ST) (v : Int), HR κ A' h σ' ∧ r = some (vr A' 1 v) ∧ P A' σ' v
theorem s_initS1 {κ : KK} {A : Nat → Int → Nat} {σ : ST} {g : GG} {b : Nat} {s ab rp nm tr : Int} (hab : -1 ≤ ab ∧ ab < σ 99 1 0) (hh : HR κ A g σ) (hb : lab κ g b 1) (hoff : ∀ t r, t < 27 → Lv σ t r → A t r ≠ b) : Spec κ MX1_init 1 0 0 [.ref b, .int (iI s), vr A 1 ab, vr A 3 rp, .int (iI nm), .int (iI tr)] g (IQ1 κ A σ b (shF s ab rp nm tr (if ab < 0 then 0 else σ 1 ab 5 + 1))) := by
  by_cases h : ab < 0
  · rw [if_pos h]
    exact s_initS0 h hh hb hoff trivial
  · rw [if_neg h]
    exact s_initS ⟨by omega, hab.2⟩ hh hb hoff trivial
theorem s_newShape {κ : KK} {A : Nat → Int → Nat} {σ : ST} {g : GG} {ab rp nm tr : Int} (hab : -1 ≤ ab ∧ ab < σ 99 1 0) (hrp : -1 ≤ rp ∧ rp < σ 99 3 0) (hS : WS σ) (hh : HR κ A g σ) : Spec κ MX2_newShape 2 1 6 [vr A 2 0, vr A 1 ab, vr A 3 rp, .int (iI nm), .int (iI tr)] g (BQ κ (AL1 A σ (fun _ => False) ab rp nm tr)) := by
  have hs1 := hS.1
  have hs2 := hS.2.1
  refine e_start rfl (by show (lg_sl _).length ≤ 6; simp [lg_sl, cat_rf, cat_i, cat_l, cat_r, cat_n]) (lv := [(0, vr A 2 0), (1, vr A 1 ab), (2, vr A 3 rp), (3, .int (iI nm)), (4, .int (iI tr))]) (by simp [lv_args, cat_rf, cat_i, cat_l, cat_r, cat_n]) ?_
  refine r_aload_nO dX2_newShape_0 rfl rfl ?_
  refine e_getI (t := 2) (k := 1) 1 dX2_newShape_1 cb2 (by decide) mf_X2_17 (by rfl) rfl (by assumption) (lv1 _ 2 (fun _ => rfl)) ?_
  refine e_bipush dX2_newShape_4 (by decide +kernel) ?_
  have hg0 := hh
  refine e_ic_lt 11 dX2_newShape_6 (by decide) ⟨by omega, by omega⟩ ⟨by omega, by omega⟩ (fun h6 => ?_) (fun h6 => ?_)
  · refine r_pc 11 rfl ?_
    refine r_new (cx := 1) (kc' := 0) (ks' := 0) 1 dX2_newShape_11 rfl inA1 tyX1_ok mc_X2_9 mn_X1 mi_X1 (by decide) (by decide) (by intro j hj; have e : j = 0 ∨ j = 1 ∨ j = 2 ∨ j = 3 ∨ j = 4 ∨ j = 5 := (by omega); rcases e with rfl | rfl | rfl | rfl | rfl | rfl <;> rfl) (by decide) (by decide) ?_
    have hgn := (hr_lab hh (t := 2) (r := 0) (by decide) (lv1 _ 2 (fun _ => rfl)))
    have hh := hr_new hh 1 0
    have hb : lab κ (newG g 1 0) (gn g) 1 := lab_new_at (by have := hgn.1; have := hgn.2.1; omega) rfl
    have hoff : ∀ t r, t < 27 → Lv σ t r → A t r ≠ gn g := fun t r a b e => by have := (hr_lab hg0 a b).2.1; omega
    generalize gn g = b at *
    generalize newG g 1 0 = g1 at *
    refine r_dup dX2_newShape_14 (by first | rfl | exact cat_rf _) ?_
    refine r_aload_nO dX2_newShape_15 rfl rfl ?_
    refine e_getI (t := 2) (k := 1) 1 dX2_newShape_16 cb2 (by decide) mf_X2_17 (by rfl) rfl (by assumption) (lv1 _ 2 (fun _ => rfl)) ?_
    refine e_iv hs1 ?_
    refine r_aload_nO dX2_newShape_19 rfl rfl ?_
    refine r_aload_nO dX2_newShape_20 rfl rfl ?_
    refine r_iload_n dX2_newShape_21 rfl rfl ?_
    refine r_iload dX2_newShape_22 rfl ?_
    refine r_callI (zn := yX1_init) (zc := cX1_init) (zl := 6) (kc' := 0) (ks' := 0) dX2_newShape_24 ml_X2_51 cz_X1_init mk_X1_init (by rfl) (s_initS1 hab hh hb hoff) (by rfl) (by rfl) (by simp [cat_rf, cat_i, cat_l, cat_r, cat_n]) (by decide) (by decide) (by decide) (fun w g hq => ?_)
    obtain ⟨rfl, hh, hb, hI, hR⟩ := hq
    have hh := hr_grow hh (t0 := 1) (b := b) (Or.inl rfl) hs2.1 hb (fun q => absurd q (by decide)) hoff hI hR (fun c t1 e e2 => by rcases dt1 e e2 with ⟨rfl, rfl⟩ | ⟨rfl, rfl⟩; exact hab; exact hrp)
    obtain ⟨A', hA'⟩ : ∃ A', A' = gA A 1 (σ 99 1 0) b := ⟨_, rfl⟩
    have e5 : Value.ref b = vr A' 1 (σ 99 1 0) := by rw [vr_some hs2.1, hA', gA_at]
    have e0 : vr A 2 0 = vr A' 2 0 := by rw [hA']; rfl
    replace hh : HR κ A' g (gS σ 1 (shF (σ 99 1 0) ab rp nm tr (if ab < 0 then 0 else σ 1 ab 5 + 1))) := by rw [hA']; exact hh
    rw [e5, e0]
    refine r_pc 27 rfl ?_
    refine r_astoreO dX2_newShape_27 (by decide) ?_
    refine r_lv [(0, vr A' 2 0), (5, vr A' 1 (σ 99 1 0))] rfl ?_
    have hnew : Lv (gS σ 1 (shF (σ 99 1 0) ab rp nm tr (if ab < 0 then 0 else σ 1 ab 5 + 1))) 1 (σ 99 1 0) := ⟨hs2.1, by show σ 99 1 0 < σ 99 1 0 + 1; omega⟩
    refine r_aload_nO dX2_newShape_29 rfl rfl ?_
    refine e_getF (t := 2) (k := 0) (t1 := 10) dX2_newShape_30 cb2 (by decide) mf_X2_11 (by rfl) (by rfl) (by decide) (by assumption) (lv1 _ 2 (fun _ => rfl)) ?_
    refine r_aload_nO dX2_newShape_33 rfl rfl ?_
    refine e_getI (t := 2) (k := 1) 1 dX2_newShape_34 cb2 (by decide) mf_X2_17 (by rfl) rfl (by assumption) (lv1 _ 2 (fun _ => rfl)) ?_
    refine e_iv (show _ = σ 99 1 0 from hs1) ?_
    refine r_aloadO dX2_newShape_37 rfl ?_
    refine e_aast (t := 10) (t1 := 1) dX2_newShape_39 (by decide) (by decide) (by decide) (by intro _; rfl) (by decide) (by intro _; rfl) (by intro _; rfl) (by decide) (by decide) (by rfl) (by assumption) (lv1 _ 10 (fun _ => rfl)) (by have e : ln 10 = 80 := rfl; omega) (by assumption) (fun g hh => ?_)
    refine r_aload_nO dX2_newShape_40 rfl rfl ?_
    refine r_dup dX2_newShape_41 (by first | rfl | exact cat_rf _) ?_
    refine e_getI (t := 2) (k := 1) 1 dX2_newShape_42 cb2 (by decide) mf_X2_17 (by rfl) rfl (by assumption) (lv1 _ 2 (fun _ => rfl)) ?_
    refine e_iv (show _ = σ 99 1 0 from hs1) ?_
    refine e_iconst dX2_newShape_45 ?_
    first | refine e_iadd dX2_newShape_46 ?_ | refine r_iadd dX2_newShape_46 ?_
    refine e_putI (t := 2) (k := 1) 1 dX2_newShape_47 cb2 (by decide) mf_X2_17 (by rfl) (by rfl) (by rfl) (by rfl) (by rfl) rfl (by assumption) (lv1 _ 2 (fun _ => rfl)) (fun g hh => ?_)
    refine r_aloadO dX2_newShape_50 rfl ?_
    exact r_aret dX2_newShape_52 rfl (Or.inl ⟨_, rfl⟩) ⟨A', _, _, hh, rfl, Or.inr ⟨by rw [← hs1]; exact h6, b, hA', rfl, rfl⟩⟩
  · refine r_pc 9 rfl ?_
    refine e_null A 1 dX2_newShape_9 ?_
    exact r_aret dX2_newShape_10 rfl (Or.inl ⟨_, rfl⟩) ⟨A, σ, -1, hh, rfl, Or.inl ⟨rfl, rfl, ⟨by omega, by omega⟩, fun q => by omega⟩⟩
theorem s_rootOf {κ : KK} {A : Nat → Int → Nat} {σ : ST} {g : GG} {q : Int} (hqd : -1 ≤ q ∧ q < σ 99 3 0) (hS : WS σ) (hh : HR κ A g σ) : Spec κ MX2_rootOf 3 1 6 [vr A 2 0, vr A 3 q] g (BQ κ (AL1 A σ (fun v => σ 1 v 1 < 0 ∧ σ 1 v 2 = q) (-1) q (-1) 0)) := by
  have hs2 := hS.2.1
  obtain ⟨v, hv, hq0⟩ := s_findRoot (κ := κ) (A := A) hqd hS
  refine e_start rfl (by show (lg_sl _).length ≤ 3; simp [lg_sl, cat_rf, cat_i, cat_l, cat_r, cat_n]) (lv := [(0, vr A 2 0), (1, vr A 3 q)]) (by simp [lv_args, cat_rf, cat_i, cat_l, cat_r, cat_n]) ?_
  refine r_aload_nO dX2_rootOf_0 rfl rfl ?_
  refine r_aload_nO dX2_rootOf_1 rfl rfl ?_
  refine e_callVP (z := MX2_findRoot) dX2_rootOf_2 ml_X2_38 cz_X2_findRoot mk_X2_findRoot ms_X2_findRoot cb2 (by decide) hq0 rfl rfl (by simp [cat_rf, cat_i, cat_l, cat_r, cat_n]) (by decide) (by assumption) (lv1 _ 2 (fun _ => rfl)) (fun g hh => ?_)
  refine r_pc 5 rfl ?_
  refine r_astore_nO dX2_rootOf_5 rfl (by decide) ?_
  refine r_stw (by repeat' first | exact True.intro | refine And.intro (fun h => by first | rfl | exact cat_rf _ | exact absurd h (by decide)) ?_) ?_
  refine r_aload_nO dX2_rootOf_6 rfl rfl ?_
  refine e_ifnull 14 dX2_rootOf_7 (by decide) (fun h7 => ?_) (fun h7 => ?_)
  · refine r_pc 14 rfl ?_
    refine r_aload_nO dX2_rootOf_14 rfl rfl ?_
    refine e_null A 1 dX2_rootOf_15 ?_
    refine r_aload_nO dX2_rootOf_16 rfl rfl ?_
    refine e_iconst dX2_rootOf_17 ?_
    refine e_iconst dX2_rootOf_18 ?_
    refine e_callV (z := MX2_newShape) (kc' := 0) (ks' := 0) dX2_rootOf_19 ml_X2_42 cz_X2_newShape mk_X2_newShape ms_X2_newShape cb2 (by decide) (by rfl) (by rfl) (by simp [cat_rf, cat_i, cat_l, cat_r, cat_n]) (by decide) (by assumption) (lv1 _ 2 (fun _ => rfl)) (s_newShape (ab := -1) ⟨by omega, by omega⟩ hqd hS hh) (by decide) (by decide) (fun w g hq => ?_)
    obtain ⟨A', σ', u, hh, rfl, hP⟩ := hq
    refine r_pc 22 rfl ?_
    exact r_aret dX2_rootOf_22 rfl (Or.inl ⟨_, rfl⟩) ⟨A', σ', u, hh, rfl, hP.elim (fun ⟨a, b, c, e⟩ => Or.inl ⟨a, b, c, fun q => (e q).elim⟩) Or.inr⟩
  · refine r_pc 10 rfl ?_
    refine r_aload_nO dX2_rootOf_10 rfl rfl ?_
    refine r_goto 22 dX2_rootOf_11 (by decide) ?_
    exact r_aret dX2_rootOf_22 rfl (Or.inl ⟨_, rfl⟩) ⟨A, σ, v, hh, rfl, Or.inl ⟨rfl, rfl, hv.1, hv.2⟩⟩
theorem s_beneath {κ : KK} {A : Nat → Int → Nat} {σ : ST} {g : GG} {a n t : Int} (ha : -1 ≤ a ∧ a < σ 99 1 0) (hn : 0 ≤ n ∧ n < 12) (ht : 0 ≤ t ∧ t ≤ 15) (hS : WS σ) (hh : HR κ A g σ) : Spec κ MX2_beneath 3 1 6 [vr A 2 0, vr A 1 a, .int (iI n), .int (iI t)] g (BQ κ (fun A' σ' v => AL1 A σ (fun v => σ 1 v 1 = a ∧ σ 1 v 3 = n ∧ σ 1 v 4 = t) a (σ 1 a 2) n t A' σ' v ∧ (0 ≤ v → 0 ≤ a ∧ σ 1 a 5 < 8))) := by
  have hs2 := hS.2.1
  refine e_start rfl (by show (lg_sl _).length ≤ 5; simp [lg_sl, cat_rf, cat_i, cat_l, cat_r, cat_n]) (lv := [(0, vr A 2 0), (1, vr A 1 a), (2, .int (iI n)), (3, .int (iI t))]) (by simp [lv_args, cat_rf, cat_i, cat_l, cat_r, cat_n]) ?_
  refine r_aload_nO dX2_beneath_0 rfl rfl ?_
  refine e_ifnull 13 dX2_beneath_1 (by decide) (fun h1 => ?_) (fun h1 => ?_)
  · refine r_pc 13 rfl ?_
    refine e_null A 1 dX2_beneath_13 ?_
    exact r_aret dX2_beneath_14 rfl (Or.inl ⟨_, rfl⟩) ⟨A, σ, -1, hh, rfl, Or.inl ⟨rfl, rfl, ⟨by omega, by omega⟩, fun q => by omega⟩, fun q => by omega⟩
  · refine r_pc 4 rfl ?_
    have hak : Lv σ 1 a := ⟨h1, ha.2⟩
    obtain ⟨ha1, ha2, ha3, ha4, ha5, ha6, ha7⟩ := hS.2.2 a hak
    refine r_aload_nO dX2_beneath_4 rfl rfl ?_
    refine e_getI (t := 1) (k := 5) 5 dX2_beneath_5 cb1 (by decide) mf_X2_46 (by rfl) rfl (by assumption) (by assumption) ?_
    refine e_bipush dX2_beneath_8 (by decide +kernel) ?_
    refine e_ic_lt 15 dX2_beneath_10 (by decide) ⟨by omega, by omega⟩ ⟨by omega, by omega⟩ (fun h10 => ?_) (fun h10 => ?_)
    · refine r_pc 15 rfl ?_
      obtain ⟨v, hv, hq0⟩ := s_findBeneath (κ := κ) (A := A) hak hn ht hS
      refine r_aload_nO dX2_beneath_15 rfl rfl ?_
      refine r_aload_nO dX2_beneath_16 rfl rfl ?_
      refine r_iload_n dX2_beneath_17 rfl rfl ?_
      refine r_iload_n dX2_beneath_18 rfl rfl ?_
      refine e_callVP (z := MX2_findBeneath) dX2_beneath_19 ml_X2_47 cz_X2_findBeneath mk_X2_findBeneath ms_X2_findBeneath cb2 (by decide) hq0 rfl rfl (by simp [cat_rf, cat_i, cat_l, cat_r, cat_n]) (by decide) (by assumption) (lv1 _ 2 (fun _ => rfl)) (fun g hh => ?_)
      refine r_pc 22 rfl ?_
      refine r_astoreO dX2_beneath_22 (by decide) ?_
      refine r_aloadO dX2_beneath_24 rfl ?_
      refine e_ifnull 34 dX2_beneath_26 (by decide) (fun h26 => ?_) (fun h26 => ?_)
      · refine r_pc 34 rfl ?_
        refine r_aload_nO dX2_beneath_34 rfl rfl ?_
        refine r_aload_nO dX2_beneath_35 rfl rfl ?_
        refine r_aload_nO dX2_beneath_36 rfl rfl ?_
        refine e_getR (t := 1) (k := 2) (t1 := 3) 2 dX2_beneath_37 cb1 (by decide) mf_X2_25 (by rfl) (by rfl) (by decide) rfl (by assumption) (by assumption) ?_
        refine r_iload_n dX2_beneath_40 rfl rfl ?_
        refine r_iload_n dX2_beneath_41 rfl rfl ?_
        refine e_callV (z := MX2_newShape) (kc' := 0) (ks' := 0) dX2_beneath_42 ml_X2_42 cz_X2_newShape mk_X2_newShape ms_X2_newShape cb2 (by decide) (by rfl) (by rfl) (by simp [cat_rf, cat_i, cat_l, cat_r, cat_n]) (by decide) (by assumption) (lv1 _ 2 (fun _ => rfl)) (s_newShape ha ha4 hS hh) (by decide) (by decide) (fun w g hq => ?_)
        obtain ⟨A', σ', u, hh, rfl, hP⟩ := hq
        refine r_pc 45 rfl ?_
        exact r_aret dX2_beneath_45 rfl (Or.inl ⟨_, rfl⟩) ⟨A', σ', u, hh, rfl, hP.elim (fun ⟨a, b, c, e⟩ => Or.inl ⟨a, b, c, fun q => (e q).elim⟩) Or.inr, fun _ => ⟨h1, h10⟩⟩
      · refine r_pc 29 rfl ?_
        refine r_aloadO dX2_beneath_29 rfl ?_
        refine r_goto 45 dX2_beneath_31 (by decide) ?_
        exact r_aret dX2_beneath_45 rfl (Or.inl ⟨_, rfl⟩) ⟨A, σ, v, hh, rfl, Or.inl ⟨rfl, rfl, hv.1, hv.2⟩, fun _ => ⟨h1, h10⟩⟩
    · refine r_pc 13 rfl ?_
      refine e_null A 1 dX2_beneath_13 ?_
      exact r_aret dX2_beneath_14 rfl (Or.inl ⟨_, rfl⟩) ⟨A, σ, -1, hh, rfl, Or.inl ⟨rfl, rfl, ⟨by omega, by omega⟩, fun q => by omega⟩, fun q => by omega⟩
