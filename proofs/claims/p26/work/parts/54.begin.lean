/-! the court, and the law from its start on -/
def fL (b i : Nat) : Nat → Nat → Option Nat := fun o c => if o = 4 ∧ i ≤ c then none else fO b o c
theorem lb_pl : ∀ j, j < 6 → lbO (7 + 4 * j) = 0 ∧ lnO (7 + 4 * j) = 0 ∧ (lbO (7 + 4 * j + 1) = 9 ∧ lnO (7 + 4 * j + 1) = 3) ∧ (lbO (7 + 4 * j + 2) = 6 ∧ lnO (7 + 4 * j + 2) = 3) ∧ lbO (7 + 4 * j + 3) = 6 ∧ lnO (7 + 4 * j + 3) = 3 := by decide +kernel
theorem fL_s {b j : Nat} (hj : j < 6) (o : Nat) (ho : o < 7 + 4 * j + 4) (c : Nat) : up2 (pF b (7 + 4 * j) (fN (fL b j) (7 + 4 * j))) 4 j (some (b + (7 + 4 * j))) o c = fL b (j + 1) o c := by
  simp only [up2, pF, fN, fL]
  by_cases h4 : o = 4
  · subst h4
    by_cases hc : c = j
    · subst hc
      rw [if_pos ⟨rfl, rfl⟩, if_neg (by omega)]
      unfold fO
      rw [if_neg (by decide), if_neg (by decide), if_pos rfl, if_pos hj]
    · rw [if_neg (fun e => hc e.2), if_neg (by omega), if_neg (by omega), if_neg (by omega)]
      by_cases h : j ≤ c
      · rw [if_pos ⟨rfl, h⟩, if_pos ⟨rfl, by omega⟩]
      · rw [if_neg (fun e => h e.2), if_neg (by omega)]
  · rw [if_neg (fun e => h4 e.1), if_neg (fun e : o = 4 ∧ j + 1 ≤ c => h4 e.1)]
    rcases Nat.lt_trichotomy o (7 + 4 * j) with h | h | h
    · rw [if_neg (by omega), if_neg (by omega), if_neg (by omega), if_neg (by omega)]
    · subst h
      rw [if_neg (Nat.lt_irrefl _)]
      unfold fO
      rw [if_neg (by omega : ¬ 7 + 4 * j = 0), if_neg (by omega : ¬ 7 + 4 * j = 2), if_neg (by omega : ¬ 7 + 4 * j = 4), if_pos (by omega : 7 ≤ 7 + 4 * j ∧ 7 + 4 * j < 31 ∧ (7 + 4 * j - 7) % 4 = 0)]
      by_cases h1 : 1 ≤ c ∧ c ≤ 3
      · rw [if_pos ⟨rfl, h1⟩, if_pos h1]
      · rw [if_neg (fun e => h1 e.2), if_neg h1, if_pos rfl]
    · rw [if_pos h]
      unfold fO
      rw [if_neg (by omega), if_neg (by omega), if_neg (by omega), if_neg (by omega), if_neg (by omega), if_neg (by omega)]
theorem s_initC {κ : KK} {b : Nat} {f : Nat → Nat → Option Nat} {g : GG} (hbs : bs κ ≤ b) (hR : RB b 1 f g) (hf : ∀ c, f 0 c = none) : Spec κ MX4_init 2 30 238 [.ref (b + 0)] g (fun w h => w = none ∧ RB b 31 (fL b 6) h) := by
  have loop : ∀ m j, j + m = 6 → ∀ g, RB b (7 + 4 * j) (fL b j) g → Wp κ MX4_init 2 (4 * m) (18 * m) 51 [(0, .ref (b + 0)), (1, .int (iI (j : Int)))] [] g (fun w h => w = none ∧ RB b 31 (fL b 6) h) := by
    intro m
    induction m with
    | zero =>
      intro j hj g hR
      obtain rfl : j = 6 := by omega
      refine r_iload_n dX4_init_51 rfl rfl ?_
      refine e_bipush dX4_init_52 (by decide +kernel) ?_
      refine e_ic_ge 76 dX4_init_54 (by decide) ⟨by omega, by omega⟩ ⟨by omega, by omega⟩ (fun h54 => ?_) (fun h54 => by exfalso; omega)
      exact r_vret dX4_init_76 rfl ⟨rfl, hR⟩
    | succ m ih =>
      intro j hj g hR
      obtain ⟨l0, l1, l2, l3, l4⟩ := lb_pl j (by omega)
      refine r_iload_n dX4_init_51 rfl rfl ?_
      refine e_bipush dX4_init_52 (by decide +kernel) ?_
      refine e_ic_ge 76 dX4_init_54 (by decide) ⟨by omega, by omega⟩ ⟨by omega, by omega⟩ (fun h54 => by exfalso; omega) (fun h54 => ?_)
      refine r_aload_n dX4_init_57 rfl rfl ?_
      have hv : (Fs g (b + 0) 4)[3]? = some (.ref (b + 4)) := by
        show some (va_rf (gr g (b + 0) 3)) = _
        rw [(hR.2 0 (by omega)).2.2.2 3, show fL b j 0 3 = some (b + 4) from if_neg (by omega)]
        rfl
      refine r_get (cx := 4) (k := 3) dX4_init_58 cb4.1 cb4.2.1 (by decide) mf_X4_24 (by decide) (rb_lab hR hbs (by omega) (by rfl)) hv ?_
      refine r_iload_n dX4_init_61 rfl rfl ?_
      refine q_new (cx := 0) (kc' := 3 + 4 * m) (ks' := 9 + 18 * m) 0 hR l0 l1 dX4_init_62 cb0 mc_X4_22 mn_X0 mi_X0 (by decide) (by decide) (by intro j hj; have e : j = 0 ∨ j = 1 ∨ j = 2 ∨ j = 3 ∨ j = 4 ∨ j = 5 ∨ j = 6 ∨ j = 7 ∨ j = 8 := (by omega); rcases e with rfl | rfl | rfl | rfl | rfl | rfl | rfl | rfl | rfl <;> rfl) (by omega) (by omega) (fun g hR => ?_)
      refine r_dup dX4_init_65 rfl ?_
      refine r_callIN (kc' := 4 * m) (ks' := 18 * m) (As := []) (rest := [.ref (b + (7 + 4 * j)), .int (iI (j : Int)), .ref (b + 4)]) dX4_init_66 (.tail _ (.head _)) cz_X0_init mk_X0_init rfl (s_initP hbs hR l0 l2 l3 l4) rfl rfl (by simp [cat_rf, cat_i, cat_l, cat_r, cat_n]) (by decide) (by omega) (by omega) ?_
      rintro v g ⟨rfl, hR⟩
      refine r_st (show (none : Option Value).toList ++ [.ref (b + (7 + 4 * j)), .int (iI (j : Int)), .ref (b + 4)] = [.ref (b + (7 + 4 * j)), .int (iI (j : Int)), .ref (b + 4)] from rfl) ?_
      have hl4 : gl g (b + 4) = 6 := (hR.2 4 (by omega)).2.1
      refine r_aast (k := 8) dX4_init_69 (by decide) (rb_lab hR hbs (by omega) (by rfl)) (rb_lab hR hbs (by omega) (by rw [l0]; rfl)) (iI_nI (by omega)) (by rw [hl4]; omega) (by rw [hl4]; decide) ?_
      refine e_iinc dX4_init_70 rfl (by decide) ?_
      refine r_goto 51 dX4_init_73 (by decide) ?_
      refine r_lv [(0, .ref (b + 0)), (1, .int (iI ((j + 1 : Nat) : Int)))] rfl ?_
      exact ih (j + 1) (by omega) _ (rb_cg (rb_set hR) (fL_s (by omega)))
  refine e_start rfl (by show (lg_sl _).length ≤ 2; simp [lg_sl, cat_rf, cat_i, cat_l, cat_r, cat_n]) (lv := [(0, .ref (b + 0))]) (by simp [lv_args, cat_rf, cat_i, cat_l, cat_r, cat_n]) ?_
  refine r_aload_n dX4_init_0 rfl rfl ?_
  refine r_objInit dX4_init_1 ml_X4_1 (by decide) (by simp [cat_rf, cat_i, cat_l, cat_r, cat_n]) ?_
  refine r_aload_n dX4_init_4 rfl rfl ?_
  refine e_bipush dX4_init_5 (by decide +kernel) ?_
  refine q_newQ (cx := 3) (kc' := 29) (ks' := 214) 10 hR rfl rfl rfl dX4_init_7 (by decide) rfl mc_X4_9 (by decide) (by decide) (by decide) (by decide) (fun g hR => ?_)
  refine q_put (t := 4) (k := 0) hR hbs (by omega) (by rfl) dX4_init_10 cb4 (by decide) mf_X4_11 (by rfl) (by rfl) (by rfl) (by rfl) (by rfl) (by rfl) (by rfl) (fun g hR => ?_)
  refine r_aload_n dX4_init_13 rfl rfl ?_
  refine q_new (cx := 2) (kc' := 28) (ks' := 212) 2 hR rfl rfl dX4_init_14 cb2 mc_X4_15 mn_X2 mi_X2 (by decide) (by decide) (by intro j hj; have e : j = 0 ∨ j = 1 := (by omega); rcases e with rfl | rfl <;> rfl) (by omega) (by omega) (fun g hR => ?_)
  refine r_dup dX4_init_17 rfl ?_
  refine r_callIN (kc' := 27) (ks' := 132) (As := []) (rest := [.ref (b + 2), .ref (b + 0)]) dX4_init_18 (.head _) cz_X2_init mk_X2_init rfl (s_initB hbs hR) rfl rfl (by simp [cat_rf, cat_i, cat_l, cat_r, cat_n]) (by decide) (by omega) (by omega) ?_
  rintro v g ⟨rfl, hR⟩
  refine r_st (show (none : Option Value).toList ++ [.ref (b + 2), .ref (b + 0)] = [.ref (b + 2), .ref (b + 0)] from rfl) ?_
  refine q_put (t := 4) (k := 2) hR hbs (by omega) (by rfl) dX4_init_21 cb4 (by decide) mf_X4_18 (by rfl) (by rfl) (by rfl) (by rfl) (by rfl) (by rfl) (by rfl) (fun g hR => ?_)
  refine r_aload_n dX4_init_24 rfl rfl ?_
  refine e_bipush dX4_init_25 (by decide +kernel) ?_
  refine q_newQ (cx := 0) (kc' := 26) (ks' := 126) 8 hR rfl rfl rfl dX4_init_27 (by decide) rfl mc_X4_22 (by decide) (by decide) (by decide) (by decide) (fun g hR => ?_)
  refine q_put (t := 4) (k := 3) hR hbs (by omega) (by rfl) dX4_init_30 cb4 (by decide) mf_X4_24 (by rfl) (by rfl) (by rfl) (by rfl) (by rfl) (by rfl) (by rfl) (fun g hR => ?_)
  refine r_aload_n dX4_init_33 rfl rfl ?_
  refine e_bipush dX4_init_34 (by decide +kernel) ?_
  refine q_newI (kc' := 25) (ks' := 120) 6 hR rfl rfl rfl dX4_init_36 (by decide) (by decide) (by decide) (by decide) (fun g hR => ?_)
  refine q_put (t := 4) (k := 4) hR hbs (by omega) (by rfl) dX4_init_38 cb4 (by decide) mf_X4_28 (by rfl) (by rfl) (by rfl) (by rfl) (by rfl) (by rfl) (by rfl) (fun g hR => ?_)
  refine r_aload_n dX4_init_41 rfl rfl ?_
  refine e_bipush dX4_init_42 (by decide +kernel) ?_
  refine q_newI (kc' := 24) (ks' := 108) 6 hR rfl rfl rfl dX4_init_44 (by decide) (by decide) (by decide) (by decide) (fun g hR => ?_)
  refine q_put (t := 4) (k := 5) hR hbs (by omega) (by rfl) dX4_init_46 cb4 (by decide) mf_X4_32 (by rfl) (by rfl) (by rfl) (by rfl) (by rfl) (by rfl) (by rfl) (fun g hR => ?_)
  refine e_iconst dX4_init_49 ?_
  refine r_istore_n dX4_init_50 rfl (by decide) ?_
  refine r_lv [(0, .ref (b + 0)), (1, .int (iI ((0 : Nat) : Int)))] rfl ?_
  refine loop 6 0 rfl _ (rb_cg hR fun o ho c => ?_)
  have e : o = 0 ∨ o = 1 ∨ o = 2 ∨ o = 3 ∨ o = 4 ∨ o = 5 ∨ o = 6 := by omega
  rcases e with rfl | rfl | rfl | rfl | rfl | rfl | rfl <;> simp [up2, fN, bF, fL, fO, hf]
theorem s_begin {κ : KK} {g : GG} {Q : Option Value → GG → Prop} (hg : RB (bs κ) 0 (fun _ _ => none) g) (kk : ∀ h, RB (bs κ) 60 (fO (bs κ)) h → Wp κ ML_law 11 1832 18360 16 [(0, .ref (sb κ)), (1, .ref (bs κ + 0)), (2, .ref (bs κ + 31))] [] h Q) : Wp κ ML_law 11 1892 18993 0 [(0, .ref (sb κ))] [] g Q := by
  obtain ⟨b, hb⟩ : ∃ b, b = bs κ := ⟨_, rfl⟩
  have hbs : bs κ ≤ b := by omega
  rw [← hb] at hg kk
  have hR := hg
  refine q_new (cx := 4) (kc' := 1891) (ks' := 18987) 4 hR rfl rfl dL_law_0 cb4 mc_L_9 mn_X4 mi_X4 (by decide) (by decide) (by intro j hj; have e : j = 0 ∨ j = 1 ∨ j = 2 ∨ j = 3 ∨ j = 4 ∨ j = 5 := (by omega); rcases e with rfl | rfl | rfl | rfl | rfl | rfl <;> rfl) (by omega) (by omega) (fun g hR => ?_)
  refine r_dup dL_law_3 rfl ?_
  refine r_callI (kc' := 1861) (ks' := 18749) (As := []) (rest := [.ref (b + 0)]) dL_law_4 ml_L_11 cz_X4_init mk_X4_init rfl (s_initC hbs hR (fun c => rfl)) rfl rfl (by simp [cat_rf, cat_i, cat_l, cat_r, cat_n]) (by decide) (by omega) (by omega) ?_
  rintro v g ⟨rfl, hR⟩
  refine r_st (show (none : Option Value).toList ++ [.ref (b + 0)] = [.ref (b + 0)] from rfl) ?_
  refine r_astore_n dL_law_7 rfl (by decide) ?_
  refine q_new (cx := 5) (kc' := 1860) (ks' := 18744) 5 hR rfl rfl dL_law_8 cb5 mc_L_12 mn_X5 mi_X5 (by decide) (by decide) (by intro j hj; have e : j = 0 ∨ j = 1 ∨ j = 2 ∨ j = 3 ∨ j = 4 := (by omega); rcases e with rfl | rfl | rfl | rfl | rfl <;> rfl) (by omega) (by omega) (fun g hR => ?_)
  refine r_dup dL_law_11 rfl ?_
  refine r_callIN (kc' := 1832) (ks' := 18360) (As := []) (rest := [.ref (b + 31)]) dL_law_12 (.tail _ (.tail _ (.head _))) cz_X5_init mk_X5_init rfl (s_initO hbs hR (fun c => if_pos rfl)) rfl rfl (by simp [cat_rf, cat_i, cat_l, cat_r, cat_n]) (by decide) (by omega) (by omega) ?_
  rintro v g ⟨rfl, hR⟩
  refine r_st (show (none : Option Value).toList ++ [.ref (b + 31)] = [.ref (b + 31)] from rfl) ?_
  refine r_astore_n dL_law_15 rfl (by decide) ?_
  refine r_lv [(0, .ref (sb κ)), (1, .ref (b + 0)), (2, .ref (b + 31))] rfl ?_
  refine kk _ (rb_cg hR fun o ho c => ?_)
  simp only [oF, fN, fL]
  by_cases h : 31 ≤ o
  · rw [if_pos h]
  · rw [if_neg h, if_neg (by omega)]
    by_cases h4 : o = 4 ∧ 6 ≤ c
    · rw [if_pos h4, h4.1]
      unfold fO
      rw [if_neg (by decide), if_neg (by decide), if_pos rfl, if_neg (by omega)]
    · rw [if_neg h4]
