/-! the constructors over the first cells -/
section RBR
variable {κ : KK} {y : MY} {d kc ks pc : Nat} {lv : List (Nat × Value)} {st : List Value} {g : GG} {Q : Option Value → GG → Prop} {b n : Nat} {f : Nat → Nat → Option Nat}
theorem q_new {cx idx N kc' ks' : Nat} {C : String} {T : u_T} {ty0 : Nat → FieldType} (lb : Nat) (hR : RB b n f g) (h1 : lbO n = lb) (h2 : lnO n = 0) (hd : decode y.2.1 pc = .ok (.new idx, 3)) (hb : CB cx C T N ty0) (hcl : Cond.classLink y.1.cls idx C ∈ AL) (hinst : Cond.instantiable C N ∈ AL) (hini : Cond.initialized C ∈ AL) (hc6 : cx < 6) (hlb : lb % 32 = cx) (hdef : ∀ j, j < N → defaultValue (ty0 j) = vp_V (Fs gZ 0 cx) j) (hmc : 1 + kc' ≤ kc) (hms : N + ks' ≤ ks)
    (kk : ∀ g', RB b (n + 1) (fN f n) g' → Wp κ y d kc' ks' (pc + 3) lv (.ref (b + n) :: st) g' Q) : Wp κ y d kc ks pc lv st g Q := by
  refine r_new lb hd hb.1 hb.2.1 hb.2.2.1 hcl hinst hini hc6 hlb hdef hmc hms ?_
  rw [hR.1]
  exact kk _ (rb_new hR h1 h2)
theorem q_newI {m kc' ks' : Nat} {v : Int} (lb : Nat) (hR : RB b n f g) (h1 : lbO n = lb) (h2 : lnO n = m) (hv : v = (m : Int)) (hd : decode y.2.1 pc = .ok (.newarray .int, 2)) (hsm : m ≤ 1000) (hlb : lb % 32 = 6) (hmc : 1 + kc' ≤ kc) (hms : m + ks' ≤ ks)
    (kk : ∀ g', RB b (n + 1) (fN f n) g' → Wp κ y d kc' ks' (pc + 2) lv (.ref (b + n) :: st) g' Q) : Wp κ y d kc ks pc lv (.int (iI v) :: st) g Q := by
  subst hv
  refine r_newI lb hd (iI_nI (by omega)) hsm hlb hmc hms ?_
  rw [hR.1]
  exact kk _ (rb_new hR h1 h2)
theorem q_newZ {m kc' ks' : Nat} {v : Int} (lb : Nat) (hR : RB b n f g) (h1 : lbO n = lb) (h2 : lnO n = m) (hv : v = (m : Int)) (hd : decode y.2.1 pc = .ok (.newarray .boolean, 2)) (hsm : m ≤ 1000) (hlb : lb % 32 = 7) (hmc : 1 + kc' ≤ kc) (hms : m + ks' ≤ ks)
    (kk : ∀ g', RB b (n + 1) (fN f n) g' → Wp κ y d kc' ks' (pc + 2) lv (.ref (b + n) :: st) g' Q) : Wp κ y d kc ks pc lv (.int (iI v) :: st) g Q := by
  subst hv
  refine r_newZ lb hd (iI_nI (by omega)) hsm hlb hmc hms ?_
  rw [hR.1]
  exact kk _ (rb_new hR h1 h2)
theorem q_newQ {cx idx m N kc' ks' : Nat} {C : String} {T : u_T} {v : Int} (lb : Nat) (hR : RB b n f g) (h1 : lbO n = lb) (h2 : lnO n = m) (hv : v = (m : Int)) (hd : decode y.2.1 pc = .ok (.anewarray idx, 3)) (hcx : cx = 0 ∨ cx = 1 ∨ cx = 3) (hc : vwCl[cx]? = some (C, T, N)) (hcl : Cond.classLink y.1.cls idx C ∈ AL) (hsm : m ≤ 1000) (hlb : elk (lb % 32) = cx ∧ 8 ≤ lb % 32 ∧ lb % 32 ≤ 10) (hmc : 1 + kc' ≤ kc) (hms : m + ks' ≤ ks)
    (kk : ∀ g', RB b (n + 1) (fN f n) g' → Wp κ y d kc' ks' (pc + 3) lv (.ref (b + n) :: st) g' Q) : Wp κ y d kc ks pc lv (.int (iI v) :: st) g Q := by
  subst hv
  refine r_newQ lb hd hcx hc hcl (iI_nI (by omega)) hsm hlb hmc hms ?_
  rw [hR.1]
  exact kk _ (rb_new hR h1 h2)
theorem q_put {t k idx N o x : Nat} {C : String} {T : u_T} {ty0 : Nat → FieldType} {ty : FieldType} (hR : RB b n f g) (hbs : bs κ ≤ b) (ho : o < n) (hl : lbO o % 32 = t) (hd : decode y.2.1 pc = .ok (.putfield idx, 3)) (hb : CB t C T N ty0) (hk : k < N) (hm : Cond.fieldLink y.1.cls idx (T k).1 (T k).2.1 (T k).2.2.1 ∈ AL) (hfin : (T k).2.2.2 = true) (hyn : y.1.name = "<init>") (hdecl : (T k).1 = y.1.cls) (hte : ty0 k = ty) (hn : narrow ty (.ref x) = .ref x) (hfit : fits ty (.ref x) = true) (hi : isRf t k = true)
    (kk : ∀ g', RB b n (up2 f o k (some x)) g' → Wp κ y d kc ks (pc + 3) lv st g' Q) : Wp κ y d kc ks pc lv (.ref x :: .ref (b + o) :: st) g Q :=
  r_putFRO (x := some x) hd hb.1 hb.2.1 hb.2.2.1 hb.2.2.2 hk hm hfin hyn hdecl hte hn hfit hi (rb_lab hR hbs ho hl) (kk _ (rb_set hR))
end RBR
def pF (b m : Nat) (f : Nat → Nat → Option Nat) : Nat → Nat → Option Nat := fun o c => if m < o then none else if o = m ∧ 1 ≤ c ∧ c ≤ 3 then some (b + m + c) else f o c
theorem s_initP {κ : KK} {b m : Nat} {f : Nat → Nat → Option Nat} {g : GG} (hbs : bs κ ≤ b) (hR : RB b (m + 1) f g) (hl0 : lbO m = 0) (hl1 : lbO (m + 1) = 9 ∧ lnO (m + 1) = 3) (hl2 : lbO (m + 2) = 6 ∧ lnO (m + 2) = 3) (hl3 : lbO (m + 3) = 6 ∧ lnO (m + 3) = 3) : Spec κ MX0_init 1 3 9 [.ref (b + m)] g (fun w h => w = none ∧ RB b (m + 4) (pF b m f) h) := by
  refine e_start rfl (by show (lg_sl _).length ≤ 1; simp [lg_sl, cat_rf, cat_i, cat_l, cat_r, cat_n]) (lv := [(0, .ref (b + m))]) (by simp [lv_args, cat_rf, cat_i, cat_l, cat_r, cat_n]) ?_
  refine r_aload_n dX0_init_0 rfl rfl ?_
  refine r_objInit dX0_init_1 ml_X0_3 (by decide) (by simp [cat_rf, cat_i, cat_l, cat_r, cat_n]) ?_
  refine r_aload_n dX0_init_4 rfl rfl ?_
  refine e_iconst dX0_init_5 ?_
  refine q_newQ (cx := 1) (kc' := 2) (ks' := 6) 9 hR hl1.1 hl1.2 rfl dX0_init_6 (by decide) rfl mc_X0_9 (by decide) (by decide) (by decide) (by decide) (fun g hR => ?_)
  refine q_put (t := 0) (k := 1) hR hbs (by omega) (by rw [hl0]) dX0_init_9 cb0 (by decide) mf_X0_11 (by rfl) (by rfl) (by rfl) (by rfl) (by rfl) (by rfl) (by rfl) (fun g hR => ?_)
  refine r_aload_n dX0_init_12 rfl rfl ?_
  refine e_iconst dX0_init_13 ?_
  refine q_newI (kc' := 1) (ks' := 3) 6 hR hl2.1 hl2.2 rfl dX0_init_14 (by decide) (by decide) (by decide) (by decide) (fun g hR => ?_)
  refine q_put (t := 0) (k := 2) hR hbs (by omega) (by rw [hl0]) dX0_init_16 cb0 (by decide) mf_X0_17 (by rfl) (by rfl) (by rfl) (by rfl) (by rfl) (by rfl) (by rfl) (fun g hR => ?_)
  refine r_aload_n dX0_init_19 rfl rfl ?_
  refine e_iconst dX0_init_20 ?_
  refine q_newI (kc' := 0) (ks' := 0) 6 hR hl3.1 hl3.2 rfl dX0_init_21 (by decide) (by decide) (by decide) (by decide) (fun g hR => ?_)
  refine q_put (t := 0) (k := 3) hR hbs (by omega) (by rw [hl0]) dX0_init_23 cb0 (by decide) mf_X0_21 (by rfl) (by rfl) (by rfl) (by rfl) (by rfl) (by rfl) (by rfl) (fun g hR => ?_)
  refine r_vret dX0_init_26 rfl ⟨rfl, rb_cg hR fun o ho c => ?_⟩
  simp only [pF, up2, fN]
  rcases Nat.lt_trichotomy o m with h | h | h
  · rw [if_neg (by omega), if_neg (by omega), if_neg (by omega), if_neg (by omega), if_neg (by omega), if_neg (by omega), if_neg (by omega), if_neg (by omega)]
  · subst h
    rw [if_neg (by omega : ¬ o < o)]
    by_cases h3 : c = 3
    · subst h3
      rw [if_pos ⟨rfl, rfl⟩, if_pos ⟨rfl, by omega, by omega⟩]
      rfl
    · rw [if_neg (fun e => h3 e.2), if_neg (by omega)]
      by_cases h2 : c = 2
      · subst h2
        rw [if_pos ⟨rfl, rfl⟩, if_pos ⟨rfl, by omega, by omega⟩]
        rfl
      · rw [if_neg (fun e => h2 e.2), if_neg (by omega)]
        by_cases h1 : c = 1
        · subst h1
          rw [if_pos ⟨rfl, rfl⟩, if_pos ⟨rfl, by omega, by omega⟩]
          rfl
        · rw [if_neg (fun e => h1 e.2), if_neg (by omega), if_neg (by omega)]
  · rw [if_neg (by omega), if_pos h]
    have e : o = m + 1 ∨ o = m + 2 ∨ o = m + 3 := by omega
    rcases e with rfl | rfl | rfl
    · rw [if_neg (by omega), if_neg (by omega), if_neg (by omega), if_neg (by omega), if_pos rfl]
    · rw [if_neg (by omega), if_neg (by omega), if_pos (by omega)]
    · rw [if_pos (by omega)]
def bF (b : Nat) (f : Nat → Nat → Option Nat) : Nat → Nat → Option Nat := fun o c => if o = 3 then none else if o = 2 ∧ c = 0 then some (b + 3) else f o c
theorem s_initB {κ : KK} {b : Nat} {f : Nat → Nat → Option Nat} {g : GG} (hbs : bs κ ≤ b) (hR : RB b 3 f g) : Spec κ MX2_init 1 1 80 [.ref (b + 2)] g (fun w h => w = none ∧ RB b 4 (bF b f) h) := by
  refine e_start rfl (by show (lg_sl _).length ≤ 1; simp [lg_sl, cat_rf, cat_i, cat_l, cat_r, cat_n]) (lv := [(0, .ref (b + 2))]) (by simp [lv_args, cat_rf, cat_i, cat_l, cat_r, cat_n]) ?_
  refine r_aload_n dX2_init_0 rfl rfl ?_
  refine r_objInit dX2_init_1 ml_X2_3 (by decide) (by simp [cat_rf, cat_i, cat_l, cat_r, cat_n]) ?_
  refine r_aload_n dX2_init_4 rfl rfl ?_
  refine e_bipush dX2_init_5 (by decide +kernel) ?_
  refine q_newQ (cx := 1) (kc' := 0) (ks' := 0) 9 hR rfl rfl rfl dX2_init_7 (by decide) rfl mc_X2_9 (by decide) (by decide) (by decide) (by decide) (fun g hR => ?_)
  refine q_put (t := 2) (k := 0) hR hbs (by omega) (by rfl) dX2_init_10 cb2 (by decide) mf_X2_11 (by rfl) (by rfl) (by rfl) (by rfl) (by rfl) (by rfl) (by rfl) (fun g hR => ?_)
  refine r_vret dX2_init_13 rfl ⟨rfl, rb_cg hR fun o ho c => ?_⟩
  simp only [bF, up2, fN]
  by_cases h3 : o = 3
  · subst h3
    rw [if_neg (by omega), if_pos rfl, if_pos rfl]
  · rw [if_neg h3, if_neg h3]
def oF (b : Nat) (f : Nat → Nat → Option Nat) : Nat → Nat → Option Nat := fun o c => if 31 ≤ o then fO b o c else f o c
theorem s_initO {κ : KK} {b : Nat} {f : Nat → Nat → Option Nat} {g : GG} (hbs : bs κ ≤ b) (hR : RB b 32 f g) (hf : ∀ c, f 31 c = none) : Spec κ MX5_init 1 28 384 [.ref (b + 31)] g (fun w h => w = none ∧ RB b 60 (oF b f) h) := by
  refine e_start rfl (by show (lg_sl _).length ≤ 1; simp [lg_sl, cat_rf, cat_i, cat_l, cat_r, cat_n]) (lv := [(0, .ref (b + 31))]) (by simp [lv_args, cat_rf, cat_i, cat_l, cat_r, cat_n]) ?_
  refine r_aload_n dX5_init_0 rfl rfl ?_
  refine r_objInit dX5_init_1 ml_X5_1 (by decide) (by simp [cat_rf, cat_i, cat_l, cat_r, cat_n]) ?_
  refine r_aload_n dX5_init_4 rfl rfl ?_
  refine e_bipush dX5_init_5 (by decide +kernel) ?_
  refine q_newI (kc' := 27) (ks' := 360) 6 hR rfl rfl rfl dX5_init_7 (by decide) (by decide) (by decide) (by decide) (fun g hR => ?_)
  refine q_put (t := 5) (k := 0) hR hbs (by omega) (by rfl) dX5_init_9 cb5 (by decide) mf_X5_7 (by rfl) (by rfl) (by rfl) (by rfl) (by rfl) (by rfl) (by rfl) (fun g hR => ?_)
  refine r_aload_n dX5_init_12 rfl rfl ?_
  refine e_bipush dX5_init_13 (by decide +kernel) ?_
  refine e_bipush dX5_init_15 (by decide +kernel) ?_
  refine r_multi (kc' := 2) (ks' := 48) dX5_init_17 mc_X5_13 (by decide +kernel) (by decide +kernel) (by decide) (by decide) ?_
  rw [show gn g = b + 33 from hR.1]
  generalize hg2 : mgG g = g2
  have hR2 := rb_multi hR
  rw [hg2] at hR2
  clear hg2 hR
  refine q_put (t := 5) (k := 1) hR2 hbs (by omega) (by rfl) dX5_init_21 cb5 (by decide) mf_X5_15 (by rfl) (by rfl) (by rfl) (by rfl) (by rfl) (by rfl) (by rfl) (fun g hR => ?_)
  refine r_aload_n dX5_init_24 rfl rfl ?_
  refine e_bipush dX5_init_25 (by decide +kernel) ?_
  refine q_newI (kc' := 1) (ks' := 24) 6 hR rfl rfl rfl dX5_init_27 (by decide) (by decide) (by decide) (by decide) (fun g hR => ?_)
  refine q_put (t := 5) (k := 2) hR hbs (by omega) (by rfl) dX5_init_29 cb5 (by decide) mf_X5_18 (by rfl) (by rfl) (by rfl) (by rfl) (by rfl) (by rfl) (by rfl) (fun g hR => ?_)
  refine r_aload_n dX5_init_32 rfl rfl ?_
  refine e_bipush dX5_init_33 (by decide +kernel) ?_
  refine q_newZ (kc' := 0) (ks' := 0) 7 hR rfl rfl rfl dX5_init_35 (by decide) (by decide) (by decide) (by decide) (fun g hR => ?_)
  refine q_put (t := 5) (k := 3) hR hbs (by omega) (by rfl) dX5_init_37 cb5 (by decide) mf_X5_21 (by rfl) (by rfl) (by rfl) (by rfl) (by rfl) (by rfl) (by rfl) (fun g hR => ?_)
  refine r_vret dX5_init_40 rfl ⟨rfl, rb_cg hR fun o ho c => ?_⟩
  simp only [oF, up2, fN]
  rcases Nat.lt_or_ge o 31 with h | h
  · simp only [show ¬ o = 31 by omega, show ¬ o = 59 by omega, show ¬ o = 58 by omega, show ¬ o = 33 by omega, show ¬ 34 ≤ o by omega, show ¬ o = 32 by omega, show ¬ 31 ≤ o by omega, false_and, if_false]
  · rw [if_pos h]
    unfold fO
    by_cases e : o = 31
    · subst e
      simp only [true_and, if_true, if_false, hf, show ¬ (31 : Nat) = 0 by decide, show ¬ (31 : Nat) = 2 by decide, show ¬ (31 : Nat) = 4 by decide, show ¬ (7 ≤ 31 ∧ 31 < 31 ∧ (31 - 7) % 4 = 0) by decide, show ¬ (31 : Nat) = 59 by decide, show ¬ (31 : Nat) = 58 by decide, show ¬ (31 : Nat) = 33 by decide, show ¬ 34 ≤ 31 by decide, show ¬ (31 : Nat) = 32 by decide]
      exact (if_neg (fun e => absurd e.2.1 (Nat.lt_irrefl 31))).symm
    · simp only [e, false_and, if_false, show ¬ o = 0 by omega, show ¬ o = 2 by omega, show ¬ o = 4 by omega, show ¬ (7 ≤ o ∧ o < 31 ∧ (o - 7) % 4 = 0) by omega]
      by_cases e2 : o = 33
      · subst e2
        simp
      · simp only [e2, if_false]
        by_cases e3 : 34 ≤ o
        · simp [e3]
        · simp [show o = 32 by omega]
