theorem s_knows {κ : KK} {A : Nat → Int → Nat} {σ : ST} {p s n : Int} (hp : Lv σ 0 p) (hw : WP σ) (hs : -1 ≤ s ∧ s < cnt σ 1) (hn : 0 ≤ n ∧ n < 12) : PU κ A MX0_knows 0 σ [vr A 0 p, vr A 1 s, .int (iI n)] (.int (iI (bI (∃ e, (0 ≤ e ∧ e < σ 0 p 0) ∧ σ 11 p e = s ∧ σ 12 p e = n)))) := by
  intro g hh
  refine e_start rfl (by show (lg_sl _).length ≤ 4; simp [lg_sl, cat_rf, cat_i, cat_l, cat_r, cat_n]) (lv := [(0, vr A 0 p), (1, vr A 1 s), (2, .int (iI n))]) (by simp [lv_args, cat_rf, cat_i, cat_l, cat_r, cat_n]) ?_
  have hz := (hw p hp).1
  have loop : ∀ m : Nat, ∀ j : Int, 0 ≤ j → j + (m : Int) = σ 0 p 0 → (∀ e, (0 ≤ e ∧ e < j) → ¬ (σ 11 p e = s ∧ σ 12 p e = n)) → ∀ g, HR κ A g σ → Wp κ MX0_knows 0 0 0 2 [(0, vr A 0 p), (1, vr A 1 s), (2, .int (iI n)), (3, .int (iI j))] [] g (PQ κ A σ (some (.int (iI (bI (∃ e, (0 ≤ e ∧ e < σ 0 p 0) ∧ σ 11 p e = s ∧ σ 12 p e = n)))))) := by
    intro m
    induction m with
    | zero =>
      intro j hj0 hjm hno g hh
      refine r_iload_n dX0_knows_2 rfl rfl ?_
      refine r_aload_nO dX0_knows_3 rfl rfl ?_
      refine e_getI (t := 0) (k := 0) 0 dX0_knows_4 cb0 (by decide) mf_X0_24 (by rfl) rfl (by assumption) (by assumption) ?_
      refine e_ic_ge 38 dX0_knows_7 (by decide) ⟨by omega, by omega⟩ ⟨by omega, by omega⟩ (fun h7 => ?_) (fun h7 => by exfalso; omega)
      refine r_pc 38 rfl ?_
      refine e_iconst dX0_knows_38 ?_
      exact q_zret dX0_knows_39 rfl (by omega) (by exact (bI_f fun ⟨e, he, h⟩ => hno e (by omega) h).symm) (by assumption)
    | succ m ih =>
      intro j hj0 hjm hno g hh
      obtain ⟨hs1, hn1, -⟩ := (hw p hp).2 j (by omega)
      refine r_iload_n dX0_knows_2 rfl rfl ?_
      refine r_aload_nO dX0_knows_3 rfl rfl ?_
      refine e_getI (t := 0) (k := 0) 0 dX0_knows_4 cb0 (by decide) mf_X0_24 (by rfl) rfl (by assumption) (by assumption) ?_
      refine e_ic_ge 38 dX0_knows_7 (by decide) ⟨by omega, by omega⟩ ⟨by omega, by omega⟩ (fun h7 => by exfalso; omega) (fun h7 => ?_)
      refine r_pc 10 rfl ?_
      refine r_aload_nO dX0_knows_10 rfl rfl ?_
      refine e_getF (t := 0) (k := 1) (t1 := 11) dX0_knows_11 cb0 (by decide) mf_X0_11 (by rfl) (by rfl) (by decide) (by assumption) (by assumption) ?_
      refine r_iload_n dX0_knows_14 rfl rfl ?_
      refine e_aald (t := 11) (t1 := 1) dX0_knows_15 (by decide) (by decide) (by decide) (by intro _; rfl) (by decide) (by assumption) (by first | assumption | exact lv_as 0 (by assumption) (by rfl)) (by have e : ln 11 = 3 := rfl; omega) ?_
      refine r_aload_nO dX0_knows_16 rfl rfl ?_
      refine e_ac_ne (t := 1) 32 dX0_knows_17 (by decide) (by assumption) (by decide) ⟨by have := hs1.1; omega, hs1.2⟩ hs (fun h17 => ?_) (fun h17 => ?_)
      · refine r_pc 32 rfl ?_
        refine e_iinc dX0_knows_32 rfl (by decide) ?_
        refine r_goto 2 dX0_knows_35 (by decide) ?_
        refine r_lv [(0, vr A 0 p), (1, vr A 1 s), (2, .int (iI n)), (3, .int (iI (j + 1)))] rfl ?_
        exact ih (j + 1) (by omega) (by omega) (fun e he h => by by_cases q : e = j; (subst q; exact h17 h.1); exact hno e (by omega) h) g hh
      · refine r_pc 20 rfl ?_
        refine r_aload_nO dX0_knows_20 rfl rfl ?_
        refine e_getF (t := 0) (k := 2) (t1 := 12) dX0_knows_21 cb0 (by decide) mf_X0_17 (by rfl) (by rfl) (by decide) (by assumption) (by assumption) ?_
        refine r_iload_n dX0_knows_24 rfl rfl ?_
        refine e_iald (t := 12) dX0_knows_25 (by decide) (by decide) (by rfl) (by intro _; rfl) (by assumption) (by first | assumption | exact lv_as 0 (by assumption) (by rfl)) (by have e : ln 12 = 3 := rfl; omega) ?_
        refine r_iload_n dX0_knows_26 rfl rfl ?_
        refine e_ic_ne 32 dX0_knows_27 (by decide) ⟨by omega, by omega⟩ ⟨by omega, by omega⟩ (fun h27 => ?_) (fun h27 => ?_)
        · refine r_pc 32 rfl ?_
          refine e_iinc dX0_knows_32 rfl (by decide) ?_
          refine r_goto 2 dX0_knows_35 (by decide) ?_
          refine r_lv [(0, vr A 0 p), (1, vr A 1 s), (2, .int (iI n)), (3, .int (iI (j + 1)))] rfl ?_
          exact ih (j + 1) (by omega) (by omega) (fun e he h => by by_cases q : e = j; (subst q; exact h27 h.2); exact hno e (by omega) h) g hh
        · refine r_pc 30 rfl ?_
          refine e_iconst dX0_knows_30 ?_
          exact q_zret dX0_knows_31 rfl (by omega) (by exact (bI_t ⟨j, by omega, h17, h27⟩).symm) (by assumption)
  refine e_iconst dX0_knows_0 ?_
  refine r_istore_n dX0_knows_1 rfl (by decide) ?_
  refine r_lv [(0, vr A 0 p), (1, vr A 1 s), (2, .int (iI n)), (3, .int (iI 0))] rfl ?_
  exact loop (σ 0 p 0).toNat 0 (by omega) (by omega) (fun e he => by omega) g hh
theorem s_count1 {κ : KK} {A : Nat → Int → Nat} {σ : ST} {p c : Int} (hp : Lv σ 0 p) : PV κ A MX0_count 0 σ [vr A 0 p, .int (iI 1), .int (iI c)] none (up (up (up σ 0 p 4 (σ 0 p 4 + 1)) 0 p 7 c) 0 p 6 (σ 0 p 6 + c)) := by
  intro g hh
  refine e_start rfl (by show (lg_sl _).length ≤ 3; simp [lg_sl, cat_rf, cat_i, cat_l, cat_r, cat_n]) (lv := [(0, vr A 0 p), (1, .int (iI 1)), (2, .int (iI c))]) (by simp [lv_args, cat_rf, cat_i, cat_l, cat_r, cat_n]) ?_
  refine r_iload_n dX0_count_0 rfl rfl ?_
  refine e_if_eq 17 dX0_count_1 (by decide) ⟨by omega, by omega⟩ (fun h1 => by exfalso; omega) (fun h1 => ?_)
  refine r_pc 4 rfl ?_
  refine r_aload_nO dX0_count_4 rfl rfl ?_
  refine r_dup dX0_count_5 (by first | rfl | exact cat_rf _) ?_
  refine e_getI (t := 0) (k := 4) 4 dX0_count_6 cb0 (by decide) mf_X0_28 (by rfl) rfl (by assumption) (by assumption) ?_
  refine e_iconst dX0_count_9 ?_
  first | refine e_iadd dX0_count_10 ?_ | refine r_iadd dX0_count_10 ?_
  refine e_putI (t := 0) (k := 4) 4 dX0_count_11 cb0 (by decide) mf_X0_28 (by rfl) (by rfl) (by rfl) (by rfl) (by rfl) rfl (by assumption) (by assumption) (fun g hh => ?_)
  refine r_goto 27 dX0_count_14 (by decide) ?_
  refine r_aload_nO dX0_count_27 rfl rfl ?_
  refine r_iload_n dX0_count_28 rfl rfl ?_
  refine e_putI (t := 0) (k := 7) 7 dX0_count_29 cb0 (by decide) mf_X0_34 (by rfl) (by rfl) (by rfl) (by rfl) (by rfl) rfl (by assumption) (by assumption) (fun g hh => ?_)
  refine r_aload_nO dX0_count_32 rfl rfl ?_
  refine r_dup dX0_count_33 (by first | rfl | exact cat_rf _) ?_
  refine e_getI (t := 0) (k := 6) 6 dX0_count_34 cb0 (by decide) mf_X0_37 (by rfl) rfl (by assumption) (by assumption) ?_
  refine r_iload_n dX0_count_37 rfl rfl ?_
  first | refine e_iadd dX0_count_38 ?_ | refine r_iadd dX0_count_38 ?_
  refine e_putI (t := 0) (k := 6) 6 dX0_count_39 cb0 (by decide) mf_X0_37 (by rfl) (by rfl) (by rfl) (by rfl) (by rfl) rfl (by assumption) (by assumption) (fun g hh => ?_)
  exact q_vret dX0_count_42 rfl (by assumption)
theorem s_count0 {κ : KK} {A : Nat → Int → Nat} {σ : ST} {p c : Int} (hp : Lv σ 0 p) : PV κ A MX0_count 0 σ [vr A 0 p, .int (iI 0), .int (iI c)] none (up (up (up σ 0 p 5 (σ 0 p 5 + 1)) 0 p 7 c) 0 p 6 (σ 0 p 6 + c)) := by
  intro g hh
  refine e_start rfl (by show (lg_sl _).length ≤ 3; simp [lg_sl, cat_rf, cat_i, cat_l, cat_r, cat_n]) (lv := [(0, vr A 0 p), (1, .int (iI 0)), (2, .int (iI c))]) (by simp [lv_args, cat_rf, cat_i, cat_l, cat_r, cat_n]) ?_
  refine r_iload_n dX0_count_0 rfl rfl ?_
  refine e_if_eq 17 dX0_count_1 (by decide) ⟨by omega, by omega⟩ (fun h1 => ?_) (fun h1 => by exfalso; omega)
  refine r_pc 17 rfl ?_
  refine r_aload_nO dX0_count_17 rfl rfl ?_
  refine r_dup dX0_count_18 (by first | rfl | exact cat_rf _) ?_
  refine e_getI (t := 0) (k := 5) 5 dX0_count_19 cb0 (by decide) mf_X0_31 (by rfl) rfl (by assumption) (by assumption) ?_
  refine e_iconst dX0_count_22 ?_
  first | refine e_iadd dX0_count_23 ?_ | refine r_iadd dX0_count_23 ?_
  refine e_putI (t := 0) (k := 5) 5 dX0_count_24 cb0 (by decide) mf_X0_31 (by rfl) (by rfl) (by rfl) (by rfl) (by rfl) rfl (by assumption) (by assumption) (fun g hh => ?_)
  refine r_aload_nO dX0_count_27 rfl rfl ?_
  refine r_iload_n dX0_count_28 rfl rfl ?_
  refine e_putI (t := 0) (k := 7) 7 dX0_count_29 cb0 (by decide) mf_X0_34 (by rfl) (by rfl) (by rfl) (by rfl) (by rfl) rfl (by assumption) (by assumption) (fun g hh => ?_)
  refine r_aload_nO dX0_count_32 rfl rfl ?_
  refine r_dup dX0_count_33 (by first | rfl | exact cat_rf _) ?_
  refine e_getI (t := 0) (k := 6) 6 dX0_count_34 cb0 (by decide) mf_X0_37 (by rfl) rfl (by assumption) (by assumption) ?_
  refine r_iload_n dX0_count_37 rfl rfl ?_
  first | refine e_iadd dX0_count_38 ?_ | refine r_iadd dX0_count_38 ?_
  refine e_putI (t := 0) (k := 6) 6 dX0_count_39 cb0 (by decide) mf_X0_37 (by rfl) (by rfl) (by rfl) (by rfl) (by rfl) rfl (by assumption) (by assumption) (fun g hh => ?_)
  exact q_vret dX0_count_42 rfl (by assumption)
theorem s_fact0 {κ : KK} {A : Nat → Int → Nat} {σ : ST} {p : Int} (hp : Lv σ 0 p) : PU κ A MX0_fact 0 σ [vr A 0 p, .int (iI 0)] (.int (iI (σ 0 p 0))) := by
  intro g hh
  refine e_start rfl (by show (lg_sl _).length ≤ 2; simp [lg_sl, cat_rf, cat_i, cat_l, cat_r, cat_n]) (lv := [(0, vr A 0 p), (1, .int (iI 0))]) (by simp [lv_args, cat_rf, cat_i, cat_l, cat_r, cat_n]) ?_
  refine r_iload_n dX0_fact_0 rfl rfl ?_
  refine r_tblIn (off := 35) 36 dX0_fact_1 (by decide +kernel) (by decide +kernel) (by decide +kernel) (by decide) ?_
  refine r_aload_nO dX0_fact_36 rfl rfl ?_
  refine e_getI (t := 0) (k := 0) 0 dX0_fact_37 cb0 (by decide) mf_X0_24 (by rfl) rfl (by assumption) (by assumption) ?_
  exact q_iret dX0_fact_40 rfl (by rfl) (by assumption)
theorem s_fact1 {κ : KK} {A : Nat → Int → Nat} {σ : ST} {p : Int} (hp : Lv σ 0 p) : PU κ A MX0_fact 0 σ [vr A 0 p, .int (iI 1)] (.int (iI (σ 0 p 4))) := by
  intro g hh
  refine e_start rfl (by show (lg_sl _).length ≤ 2; simp [lg_sl, cat_rf, cat_i, cat_l, cat_r, cat_n]) (lv := [(0, vr A 0 p), (1, .int (iI 1))]) (by simp [lv_args, cat_rf, cat_i, cat_l, cat_r, cat_n]) ?_
  refine r_iload_n dX0_fact_0 rfl rfl ?_
  refine r_tblIn (off := 40) 41 dX0_fact_1 (by decide +kernel) (by decide +kernel) (by decide +kernel) (by decide) ?_
  refine r_aload_nO dX0_fact_41 rfl rfl ?_
  refine e_getI (t := 0) (k := 4) 4 dX0_fact_42 cb0 (by decide) mf_X0_28 (by rfl) rfl (by assumption) (by assumption) ?_
  exact q_iret dX0_fact_45 rfl (by rfl) (by assumption)
theorem s_fact2 {κ : KK} {A : Nat → Int → Nat} {σ : ST} {p : Int} (hp : Lv σ 0 p) : PU κ A MX0_fact 0 σ [vr A 0 p, .int (iI 2)] (.int (iI (σ 0 p 5))) := by
  intro g hh
  refine e_start rfl (by show (lg_sl _).length ≤ 2; simp [lg_sl, cat_rf, cat_i, cat_l, cat_r, cat_n]) (lv := [(0, vr A 0 p), (1, .int (iI 2))]) (by simp [lv_args, cat_rf, cat_i, cat_l, cat_r, cat_n]) ?_
  refine r_iload_n dX0_fact_0 rfl rfl ?_
  refine r_tblIn (off := 45) 46 dX0_fact_1 (by decide +kernel) (by decide +kernel) (by decide +kernel) (by decide) ?_
  refine r_aload_nO dX0_fact_46 rfl rfl ?_
  refine e_getI (t := 0) (k := 5) 5 dX0_fact_47 cb0 (by decide) mf_X0_31 (by rfl) rfl (by assumption) (by assumption) ?_
  exact q_iret dX0_fact_50 rfl (by rfl) (by assumption)
theorem s_fact3 {κ : KK} {A : Nat → Int → Nat} {σ : ST} {p : Int} (hp : Lv σ 0 p) : PU κ A MX0_fact 0 σ [vr A 0 p, .int (iI 3)] (.int (iI (σ 0 p 6))) := by
  intro g hh
  refine e_start rfl (by show (lg_sl _).length ≤ 2; simp [lg_sl, cat_rf, cat_i, cat_l, cat_r, cat_n]) (lv := [(0, vr A 0 p), (1, .int (iI 3))]) (by simp [lv_args, cat_rf, cat_i, cat_l, cat_r, cat_n]) ?_
  refine r_iload_n dX0_fact_0 rfl rfl ?_
  refine r_tblIn (off := 50) 51 dX0_fact_1 (by decide +kernel) (by decide +kernel) (by decide +kernel) (by decide) ?_
  refine r_aload_nO dX0_fact_51 rfl rfl ?_
  refine e_getI (t := 0) (k := 6) 6 dX0_fact_52 cb0 (by decide) mf_X0_37 (by rfl) rfl (by assumption) (by assumption) ?_
  exact q_iret dX0_fact_55 rfl (by rfl) (by assumption)
theorem s_fact4 {κ : KK} {A : Nat → Int → Nat} {σ : ST} {p : Int} (hp : Lv σ 0 p) : PU κ A MX0_fact 0 σ [vr A 0 p, .int (iI 4)] (.int (iI (σ 0 p 7))) := by
  intro g hh
  refine e_start rfl (by show (lg_sl _).length ≤ 2; simp [lg_sl, cat_rf, cat_i, cat_l, cat_r, cat_n]) (lv := [(0, vr A 0 p), (1, .int (iI 4))]) (by simp [lv_args, cat_rf, cat_i, cat_l, cat_r, cat_n]) ?_
  refine r_iload_n dX0_fact_0 rfl rfl ?_
  refine r_tblIn (off := 55) 56 dX0_fact_1 (by decide +kernel) (by decide +kernel) (by decide +kernel) (by decide) ?_
  refine r_aload_nO dX0_fact_56 rfl rfl ?_
  refine e_getI (t := 0) (k := 7) 7 dX0_fact_57 cb0 (by decide) mf_X0_34 (by rfl) rfl (by assumption) (by assumption) ?_
  exact q_iret dX0_fact_60 rfl (by rfl) (by assumption)
theorem s_fact5 {κ : KK} {A : Nat → Int → Nat} {σ : ST} {p : Int} (hp : Lv σ 0 p) : PU κ A MX0_fact 0 σ [vr A 0 p, .int (iI 5)] (.int (iI (σ 0 p 8))) := by
  intro g hh
  refine e_start rfl (by show (lg_sl _).length ≤ 2; simp [lg_sl, cat_rf, cat_i, cat_l, cat_r, cat_n]) (lv := [(0, vr A 0 p), (1, .int (iI 5))]) (by simp [lv_args, cat_rf, cat_i, cat_l, cat_r, cat_n]) ?_
  refine r_iload_n dX0_fact_0 rfl rfl ?_
  refine r_tblOut 61 dX0_fact_1 (by decide +kernel) (by decide) ?_
  refine r_aload_nO dX0_fact_61 rfl rfl ?_
  refine e_getI (t := 0) (k := 8) 8 dX0_fact_62 cb0 (by decide) mf_X0_44 (by rfl) rfl (by assumption) (by assumption) ?_
  exact q_iret dX0_fact_65 rfl (by rfl) (by assumption)
/-- the entries behind one move up, as far as j; and the whole of it -/
def shE (σ : ST) (p a j : Int) : ST := fun t r c => if (t = 11 ∨ t = 12 ∨ t = 13) ∧ r = p ∧ a ≤ c ∧ c < j then σ t r (c + 1) else σ t r c
def tkE (σ : ST) (p a : Int) : ST := up (shE σ p a (σ 0 p 0 - 1)) 0 p 0 (σ 0 p 0 - 1)
theorem shE_0 (σ : ST) (p a : Int) : shE σ p a a = σ := by
  funext t r c
  exact if_neg (by omega)
theorem shE_s {σ : ST} {p a j : Int} (h : a ≤ j) : up (up (up (shE σ p a j) 11 p j (σ 11 p (j + 1))) 12 p j (σ 12 p (j + 1))) 13 p j (σ 13 p (j + 1)) = shE σ p a (j + 1) := by
  funext t r c
  unfold up shE
  by_cases h1 : t = 11
  · subst h1
    by_cases h2 : r = p
    · subst h2
      by_cases h3 : c = j
      · subst h3
        simp
        omega
      · by_cases h4 : a ≤ c ∧ c < j
        · simp [h3, h4]
          omega
        · have h5 : ¬ (a ≤ c ∧ c < j + 1) := by omega
          simp [h3, h4, h5]
    · simp [h2]
  · by_cases h1' : t = 12
    · subst h1'
      by_cases h2 : r = p
      · subst h2
        by_cases h3 : c = j
        · subst h3
          simp
          omega
        · by_cases h4 : a ≤ c ∧ c < j
          · simp [h3, h4]
            omega
          · have h5 : ¬ (a ≤ c ∧ c < j + 1) := by omega
            simp [h3, h4, h5]
      · simp [h2]
    · by_cases h1'' : t = 13
      · subst h1''
        by_cases h2 : r = p
        · subst h2
          by_cases h3 : c = j
          · subst h3
            simp
            omega
          · by_cases h4 : a ≤ c ∧ c < j
            · simp [h3, h4]
              omega
            · have h5 : ¬ (a ≤ c ∧ c < j + 1) := by omega
              simp [h3, h4, h5]
        · simp [h2]
      · simp [h1, h1', h1'']
theorem shE_at {σ : ST} {p a j : Int} (t : Nat) (h : a ≤ j) : shE σ p a j t p (j + 1) = σ t p (j + 1) := if_neg (by omega)
theorem s_takeE {κ : KK} {A : Nat → Int → Nat} {σ : ST} {p a : Int} (hp : Lv σ 0 p) (hw : WP σ) (ha : 0 ≤ a ∧ a < σ 0 p 0) : PV κ A MX0_takeAway 0 σ [vr A 0 p, .int (iI a)] (none) (tkE σ p a) := by
  intro g hh
  refine e_start rfl (by show (lg_sl _).length ≤ 3; simp [lg_sl, cat_rf, cat_i, cat_l, cat_r, cat_n]) (lv := [(0, vr A 0 p), (1, .int (iI a))]) (by simp [lv_args, cat_rf, cat_i, cat_l, cat_r, cat_n]) ?_
  have hz := (hw p hp).1
  have loop : ∀ m : Nat, ∀ j : Int, 0 ≤ j → j + (m : Int) = σ 0 p 0 - 1 → a ≤ j → ∀ g, HR κ A g (shE σ p a j) → Wp κ MX0_takeAway 0 0 0 2 [(0, vr A 0 p), (1, .int (iI a)), (2, .int (iI j))] [] g (PQ κ A (tkE σ p a) (none)) := by
    intro m
    induction m with
    | zero =>
      intro j hj0 hjm hja g hh
      obtain rfl : j = σ 0 p 0 - 1 := by omega
      have h0 : shE σ p a (σ 0 p 0 - 1) 0 p 0 = σ 0 p 0 := rfl
      have hp' : Lv (shE σ p a (σ 0 p 0 - 1)) 0 p := hp
      refine r_iload_n dX0_takeAway_2 rfl rfl ?_
      refine e_iconst dX0_takeAway_3 ?_
      first | refine e_iadd dX0_takeAway_4 ?_ | refine r_iadd dX0_takeAway_4 ?_
      refine r_aload_nO dX0_takeAway_5 rfl rfl ?_
      refine e_getI (t := 0) (k := 0) 0 dX0_takeAway_6 cb0 (by decide) mf_X0_24 (by rfl) rfl (by assumption) (by assumption) ?_
      refine e_ic_ge 60 dX0_takeAway_9 (by decide) ⟨by omega, by omega⟩ ⟨by omega, by omega⟩ (fun h9 => ?_) (fun h9 => by exfalso; omega)
      refine r_pc 60 rfl ?_
      refine r_aload_nO dX0_takeAway_60 rfl rfl ?_
      refine r_dup dX0_takeAway_61 (by first | rfl | exact cat_rf _) ?_
      refine e_getI (t := 0) (k := 0) 0 dX0_takeAway_62 cb0 (by decide) mf_X0_24 (by rfl) rfl (by assumption) (by assumption) ?_
      refine e_iconst dX0_takeAway_65 ?_
      first | refine e_isub dX0_takeAway_66 ?_ | refine r_isub dX0_takeAway_66 ?_
      refine e_putI (t := 0) (k := 0) 0 dX0_takeAway_67 cb0 (by decide) mf_X0_24 (by rfl) (by rfl) (by rfl) (by rfl) (by rfl) rfl (by assumption) (by assumption) (fun g hh => ?_)
      exact q_vret dX0_takeAway_70 rfl (by assumption)
    | succ m ih =>
      intro j hj0 hjm hja g hh
      have h0 : shE σ p a j 0 p 0 = σ 0 p 0 := rfl
      have hp' : Lv (shE σ p a j) 0 p := hp
      obtain ⟨hs1, hn1, -⟩ := (hw p hp).2 (j + 1) (by omega)
      refine r_iload_n dX0_takeAway_2 rfl rfl ?_
      refine e_iconst dX0_takeAway_3 ?_
      first | refine e_iadd dX0_takeAway_4 ?_ | refine r_iadd dX0_takeAway_4 ?_
      refine r_aload_nO dX0_takeAway_5 rfl rfl ?_
      refine e_getI (t := 0) (k := 0) 0 dX0_takeAway_6 cb0 (by decide) mf_X0_24 (by rfl) rfl (by assumption) (by assumption) ?_
      refine e_ic_ge 60 dX0_takeAway_9 (by decide) ⟨by omega, by omega⟩ ⟨by omega, by omega⟩ (fun h9 => by exfalso; omega) (fun h9 => ?_)
      refine r_pc 12 rfl ?_
      refine r_aload_nO dX0_takeAway_12 rfl rfl ?_
      refine e_getF (t := 0) (k := 1) (t1 := 11) dX0_takeAway_13 cb0 (by decide) mf_X0_11 (by rfl) (by rfl) (by decide) (by assumption) (by assumption) ?_
      refine r_iload_n dX0_takeAway_16 rfl rfl ?_
      refine r_aload_nO dX0_takeAway_17 rfl rfl ?_
      refine e_getF (t := 0) (k := 1) (t1 := 11) dX0_takeAway_18 cb0 (by decide) mf_X0_11 (by rfl) (by rfl) (by decide) (by assumption) (by assumption) ?_
      refine r_iload_n dX0_takeAway_21 rfl rfl ?_
      refine e_iconst dX0_takeAway_22 ?_
      first | refine e_iadd dX0_takeAway_23 ?_ | refine r_iadd dX0_takeAway_23 ?_
      refine e_aald (t := 11) (t1 := 1) dX0_takeAway_24 (by decide) (by decide) (by decide) (by intro _; rfl) (by decide) (by assumption) (by first | assumption | exact lv_as 0 (by assumption) (by rfl)) (by have e : ln 11 = 3 := rfl; omega) ?_
      refine e_rv (shE_at 11 hja) ?_
      refine e_aast (t := 11) (t1 := 1) dX0_takeAway_25 (by decide) (by decide) (by decide) (by intro _; rfl) (by decide) (by intro _; rfl) (by intro _; rfl) (by decide) (by decide) (by rfl) (by assumption) (lv_as 0 hp' rfl) (by have e : ln 11 = 3 := rfl; omega) hs1 (fun g hh => ?_)
      refine r_aload_nO dX0_takeAway_26 rfl rfl ?_
      refine e_getF (t := 0) (k := 2) (t1 := 12) dX0_takeAway_27 cb0 (by decide) mf_X0_17 (by rfl) (by rfl) (by decide) (by assumption) (by assumption) ?_
      refine r_iload_n dX0_takeAway_30 rfl rfl ?_
      refine r_aload_nO dX0_takeAway_31 rfl rfl ?_
      refine e_getF (t := 0) (k := 2) (t1 := 12) dX0_takeAway_32 cb0 (by decide) mf_X0_17 (by rfl) (by rfl) (by decide) (by assumption) (by assumption) ?_
      refine r_iload_n dX0_takeAway_35 rfl rfl ?_
      refine e_iconst dX0_takeAway_36 ?_
      first | refine e_iadd dX0_takeAway_37 ?_ | refine r_iadd dX0_takeAway_37 ?_
      refine e_iald (t := 12) dX0_takeAway_38 (by decide) (by decide) (by rfl) (by intro _; rfl) (by assumption) (by first | assumption | exact lv_as 0 (by assumption) (by rfl)) (by have e : ln 12 = 3 := rfl; omega) ?_
      refine e_iv (show _ = σ 12 p (j + 1) from shE_at 12 hja) ?_
      refine e_iast (t := 12) dX0_takeAway_39 (by decide) (by decide) (by rfl) (by intro _; rfl) (by assumption) (by first | assumption | exact lv_as 0 (by assumption) (by rfl)) (by have e : ln 12 = 3 := rfl; omega) (fun g hh => ?_)
      refine r_aload_nO dX0_takeAway_40 rfl rfl ?_
      refine e_getF (t := 0) (k := 3) (t1 := 13) dX0_takeAway_41 cb0 (by decide) mf_X0_21 (by rfl) (by rfl) (by decide) (by assumption) (by assumption) ?_
      refine r_iload_n dX0_takeAway_44 rfl rfl ?_
      refine r_aload_nO dX0_takeAway_45 rfl rfl ?_
      refine e_getF (t := 0) (k := 3) (t1 := 13) dX0_takeAway_46 cb0 (by decide) mf_X0_21 (by rfl) (by rfl) (by decide) (by assumption) (by assumption) ?_
      refine r_iload_n dX0_takeAway_49 rfl rfl ?_
      refine e_iconst dX0_takeAway_50 ?_
      first | refine e_iadd dX0_takeAway_51 ?_ | refine r_iadd dX0_takeAway_51 ?_
      refine e_iald (t := 13) dX0_takeAway_52 (by decide) (by decide) (by rfl) (by intro _; rfl) (by assumption) (by first | assumption | exact lv_as 0 (by assumption) (by rfl)) (by have e : ln 13 = 3 := rfl; omega) ?_
      refine e_iv (show _ = σ 13 p (j + 1) from shE_at 13 hja) ?_
      refine e_iast (t := 13) dX0_takeAway_53 (by decide) (by decide) (by rfl) (by intro _; rfl) (by assumption) (by first | assumption | exact lv_as 0 (by assumption) (by rfl)) (by have e : ln 13 = 3 := rfl; omega) (fun g hh => ?_)
      rw [shE_s hja] at hh
      refine e_iinc dX0_takeAway_54 rfl (by decide) ?_
      refine r_goto 2 dX0_takeAway_57 (by decide) ?_
      refine r_lv [(0, vr A 0 p), (1, .int (iI a)), (2, .int (iI (j + 1)))] rfl ?_
      exact ih (j + 1) (by omega) (by omega) (by omega) g hh
  refine r_iload_n dX0_takeAway_0 rfl rfl ?_
  refine r_istore_n dX0_takeAway_1 rfl (by decide) ?_
  refine r_lv [(0, vr A 0 p), (1, .int (iI a)), (2, .int (iI a))] rfl ?_
  refine loop (σ 0 p 0 - 1 - a).toNat a (by omega) (by omega) (by omega) g ?_
  rw [shE_0]
  exact hh
theorem s_addE {κ : KK} {A : Nat → Int → Nat} {σ : ST} {p s n w : Int} (hp : Lv σ 0 p) (hw : WP σ) (hs : Lv σ 1 s) (hz : σ 0 p 0 < 3) : PV κ A MX0_addEntry 1 σ [vr A 0 p, vr A 1 s, .int (iI n), .int (iI w)] none (up (up (up (up σ 11 p (σ 0 p 0) s) 12 p (σ 0 p 0) n) 13 p (σ 0 p 0) w) 0 p 0 (σ 0 p 0 + 1)) := by
  intro g hh
  refine e_start rfl (by show (lg_sl _).length ≤ 4; simp [lg_sl, cat_rf, cat_i, cat_l, cat_r, cat_n]) (lv := [(0, vr A 0 p), (1, vr A 1 s), (2, .int (iI n)), (3, .int (iI w))]) (by simp [lv_args, cat_rf, cat_i, cat_l, cat_r, cat_n]) ?_
  have hz0 := (hw p hp).1
  refine r_aload_nO dX0_addEntry_0 rfl rfl ?_
  refine e_getI (t := 0) (k := 0) 0 dX0_addEntry_1 cb0 (by decide) mf_X0_24 (by rfl) rfl (by assumption) (by assumption) ?_
  refine e_iconst dX0_addEntry_4 ?_
  refine e_ic_lt 13 dX0_addEntry_5 (by decide) ⟨by omega, by omega⟩ ⟨by omega, by omega⟩ (fun h5 => ?_) (fun h5 => by exfalso; omega)
  refine r_pc 13 rfl ?_
  refine r_aload_nO dX0_addEntry_13 rfl rfl ?_
  refine e_getF (t := 0) (k := 1) (t1 := 11) dX0_addEntry_14 cb0 (by decide) mf_X0_11 (by rfl) (by rfl) (by decide) (by assumption) (by assumption) ?_
  refine r_aload_nO dX0_addEntry_17 rfl rfl ?_
  refine e_getI (t := 0) (k := 0) 0 dX0_addEntry_18 cb0 (by decide) mf_X0_24 (by rfl) rfl (by assumption) (by assumption) ?_
  refine r_aload_nO dX0_addEntry_21 rfl rfl ?_
  refine e_aast (t := 11) (t1 := 1) dX0_addEntry_22 (by decide) (by decide) (by decide) (by intro _; rfl) (by decide) (by intro _; rfl) (by intro _; rfl) (by decide) (by decide) (by rfl) (by assumption) (by first | assumption | exact lv_as 0 (by assumption) (by rfl)) (by have e : ln 11 = 3 := rfl; omega) (by assumption) (fun g hh => ?_)
  refine r_aload_nO dX0_addEntry_23 rfl rfl ?_
  refine e_getF (t := 0) (k := 2) (t1 := 12) dX0_addEntry_24 cb0 (by decide) mf_X0_17 (by rfl) (by rfl) (by decide) (by assumption) (by assumption) ?_
  refine r_aload_nO dX0_addEntry_27 rfl rfl ?_
  refine e_getI (t := 0) (k := 0) 0 dX0_addEntry_28 cb0 (by decide) mf_X0_24 (by rfl) rfl (by assumption) (by assumption) ?_
  refine e_iv (show _ = σ 0 p 0 from rfl) ?_
  refine r_iload_n dX0_addEntry_31 rfl rfl ?_
  refine e_iast (t := 12) dX0_addEntry_32 (by decide) (by decide) (by rfl) (by intro _; rfl) (by assumption) (by first | assumption | exact lv_as 0 (by assumption) (by rfl)) (by have e : ln 12 = 3 := rfl; omega) (fun g hh => ?_)
  refine r_aload_nO dX0_addEntry_33 rfl rfl ?_
  refine e_getF (t := 0) (k := 3) (t1 := 13) dX0_addEntry_34 cb0 (by decide) mf_X0_21 (by rfl) (by rfl) (by decide) (by assumption) (by assumption) ?_
  refine r_aload_nO dX0_addEntry_37 rfl rfl ?_
  refine e_getI (t := 0) (k := 0) 0 dX0_addEntry_38 cb0 (by decide) mf_X0_24 (by rfl) rfl (by assumption) (by assumption) ?_
  refine e_iv (show _ = σ 0 p 0 from rfl) ?_
  refine r_iload_n dX0_addEntry_41 rfl rfl ?_
  refine e_iast (t := 13) dX0_addEntry_42 (by decide) (by decide) (by rfl) (by intro _; rfl) (by assumption) (by first | assumption | exact lv_as 0 (by assumption) (by rfl)) (by have e : ln 13 = 3 := rfl; omega) (fun g hh => ?_)
  refine r_aload_nO dX0_addEntry_43 rfl rfl ?_
  refine r_dup dX0_addEntry_44 (by first | rfl | exact cat_rf _) ?_
  refine e_getI (t := 0) (k := 0) 0 dX0_addEntry_45 cb0 (by decide) mf_X0_24 (by rfl) rfl (by assumption) (by assumption) ?_
  refine e_iv (show _ = σ 0 p 0 from rfl) ?_
  refine e_iconst dX0_addEntry_48 ?_
  first | refine e_iadd dX0_addEntry_49 ?_ | refine r_iadd dX0_addEntry_49 ?_
  refine e_putI (t := 0) (k := 0) 0 dX0_addEntry_50 cb0 (by decide) mf_X0_24 (by rfl) (by rfl) (by rfl) (by rfl) (by rfl) rfl (by assumption) (by assumption) (fun g hh => ?_)
  exact q_vret dX0_addEntry_53 rfl (by assumption)
theorem tkE_sz (σ : ST) (p a : Int) : tkE σ p a 0 p 0 = σ 0 p 0 - 1 := up_at _ _ _ _ _
theorem tkE_lv {σ : ST} {p a : Int} {t : Nat} {r : Int} (h : Lv σ t r) : Lv (tkE σ p a) t r := h
theorem s_addE3 {κ : KK} {A : Nat → Int → Nat} {σ : ST} {p s n w : Int} (hp : Lv σ 0 p) (hw : WP σ) (hs : Lv σ 1 s) (hz : σ 0 p 0 = 3) : PV κ A MX0_addEntry 1 σ [vr A 0 p, vr A 1 s, .int (iI n), .int (iI w)] none (up (up (up (up (tkE σ p 0) 11 p (2) s) 12 p (2) n) 13 p (2) w) 0 p 0 (2 + 1)) := by
  intro g hh
  refine e_start rfl (by show (lg_sl _).length ≤ 4; simp [lg_sl, cat_rf, cat_i, cat_l, cat_r, cat_n]) (lv := [(0, vr A 0 p), (1, vr A 1 s), (2, .int (iI n)), (3, .int (iI w))]) (by simp [lv_args, cat_rf, cat_i, cat_l, cat_r, cat_n]) ?_
  have hz0 := (hw p hp).1
  refine r_aload_nO dX0_addEntry_0 rfl rfl ?_
  refine e_getI (t := 0) (k := 0) 0 dX0_addEntry_1 cb0 (by decide) mf_X0_24 (by rfl) rfl (by assumption) (by assumption) ?_
  refine e_iconst dX0_addEntry_4 ?_
  refine e_ic_lt 13 dX0_addEntry_5 (by decide) ⟨by omega, by omega⟩ ⟨by omega, by omega⟩ (fun h5 => by exfalso; omega) (fun h5 => ?_)
  refine r_pc 8 rfl ?_
  refine r_aload_nO dX0_addEntry_8 rfl rfl ?_
  refine e_iconst dX0_addEntry_9 ?_
  refine e_callVV (z := MX0_takeAway) dX0_addEntry_10 ml_X0_40 cz_X0_takeAway mk_X0_takeAway ms_X0_takeAway cb0 (by decide) (s_takeE hp hw (a := 0) (by omega)) rfl rfl (by simp [cat_rf, cat_i, cat_l, cat_r, cat_n]) (by decide) (by assumption) (by assumption) (fun g hh => ?_)
  refine r_pc 13 rfl ?_
  have hz2 : tkE σ p 0 0 p 0 = 2 := by rw [tkE_sz]; omega
  have hp' : Lv (tkE σ p 0) 0 p := hp
  have hs' : Lv (tkE σ p 0) 1 s := hs
  refine r_aload_nO dX0_addEntry_13 rfl rfl ?_
  refine e_getF (t := 0) (k := 1) (t1 := 11) dX0_addEntry_14 cb0 (by decide) mf_X0_11 (by rfl) (by rfl) (by decide) (by assumption) (by assumption) ?_
  refine r_aload_nO dX0_addEntry_17 rfl rfl ?_
  refine e_getI (t := 0) (k := 0) 0 dX0_addEntry_18 cb0 (by decide) mf_X0_24 (by rfl) rfl (by assumption) (by assumption) ?_
  refine e_iv hz2 ?_
  refine r_aload_nO dX0_addEntry_21 rfl rfl ?_
  refine e_aast (t := 11) (t1 := 1) dX0_addEntry_22 (by decide) (by decide) (by decide) (by intro _; rfl) (by decide) (by intro _; rfl) (by intro _; rfl) (by decide) (by decide) (by rfl) (by assumption) (by first | assumption | exact lv_as 0 (by assumption) (by rfl)) (by have e : ln 11 = 3 := rfl; omega) (by assumption) (fun g hh => ?_)
  refine r_aload_nO dX0_addEntry_23 rfl rfl ?_
  refine e_getF (t := 0) (k := 2) (t1 := 12) dX0_addEntry_24 cb0 (by decide) mf_X0_17 (by rfl) (by rfl) (by decide) (by assumption) (by assumption) ?_
  refine r_aload_nO dX0_addEntry_27 rfl rfl ?_
  refine e_getI (t := 0) (k := 0) 0 dX0_addEntry_28 cb0 (by decide) mf_X0_24 (by rfl) rfl (by assumption) (by assumption) ?_
  refine e_iv (show _ = (2 : Int) from hz2) ?_
  refine r_iload_n dX0_addEntry_31 rfl rfl ?_
  refine e_iast (t := 12) dX0_addEntry_32 (by decide) (by decide) (by rfl) (by intro _; rfl) (by assumption) (by first | assumption | exact lv_as 0 (by assumption) (by rfl)) (by have e : ln 12 = 3 := rfl; omega) (fun g hh => ?_)
  refine r_aload_nO dX0_addEntry_33 rfl rfl ?_
  refine e_getF (t := 0) (k := 3) (t1 := 13) dX0_addEntry_34 cb0 (by decide) mf_X0_21 (by rfl) (by rfl) (by decide) (by assumption) (by assumption) ?_
  refine r_aload_nO dX0_addEntry_37 rfl rfl ?_
  refine e_getI (t := 0) (k := 0) 0 dX0_addEntry_38 cb0 (by decide) mf_X0_24 (by rfl) rfl (by assumption) (by assumption) ?_
  refine e_iv (show _ = (2 : Int) from hz2) ?_
  refine r_iload_n dX0_addEntry_41 rfl rfl ?_
  refine e_iast (t := 13) dX0_addEntry_42 (by decide) (by decide) (by rfl) (by intro _; rfl) (by assumption) (by first | assumption | exact lv_as 0 (by assumption) (by rfl)) (by have e : ln 13 = 3 := rfl; omega) (fun g hh => ?_)
  refine r_aload_nO dX0_addEntry_43 rfl rfl ?_
  refine r_dup dX0_addEntry_44 (by first | rfl | exact cat_rf _) ?_
  refine e_getI (t := 0) (k := 0) 0 dX0_addEntry_45 cb0 (by decide) mf_X0_24 (by rfl) rfl (by assumption) (by assumption) ?_
  refine e_iv (show _ = (2 : Int) from hz2) ?_
  refine e_iconst dX0_addEntry_48 ?_
  first | refine e_iadd dX0_addEntry_49 ?_ | refine r_iadd dX0_addEntry_49 ?_
  refine e_putI (t := 0) (k := 0) 0 dX0_addEntry_50 cb0 (by decide) mf_X0_24 (by rfl) (by rfl) (by rfl) (by rfl) (by rfl) rfl (by assumption) (by assumption) (fun g hh => ?_)
  exact q_vret dX0_addEntry_53 rfl (by assumption)
theorem s_eF0 {κ : KK} {A : Nat → Int → Nat} {σ : ST} {p e : Int} (hp : Lv σ 0 p) (hw : WP σ) (hS : WS σ) (he : 0 ≤ e ∧ e < σ 0 p 0) : PU κ A MX0_entryFact 0 σ [vr A 0 p, .int (iI e), .int (iI 0)] (.int (iI (σ 11 p e))) := by
  intro g hh
  refine e_start rfl (by show (lg_sl _).length ≤ 3; simp [lg_sl, cat_rf, cat_i, cat_l, cat_r, cat_n]) (lv := [(0, vr A 0 p), (1, .int (iI e)), (2, .int (iI 0))]) (by simp [lv_args, cat_rf, cat_i, cat_l, cat_r, cat_n]) ?_
  have hz := (hw p hp).1
  obtain ⟨hs1, hn1, -⟩ := (hw p hp).2 e (by omega)
  refine r_iload_n dX0_entryFact_0 rfl rfl ?_
  refine r_lookup (off := 27) 28 dX0_entryFact_1 (by decide +kernel) (by decide +kernel) (by decide) ?_
  refine r_aload_nO dX0_entryFact_28 rfl rfl ?_
  refine e_getF (t := 0) (k := 1) (t1 := 11) dX0_entryFact_29 cb0 (by decide) mf_X0_11 (by rfl) (by rfl) (by decide) (by assumption) (by assumption) ?_
  refine r_iload_n dX0_entryFact_32 rfl rfl ?_
  refine e_aald (t := 11) (t1 := 1) dX0_entryFact_33 (by decide) (by decide) (by decide) (by intro _; rfl) (by decide) (by assumption) (by first | assumption | exact lv_as 0 (by assumption) (by rfl)) (by have e : ln 11 = 3 := rfl; omega) ?_
  refine e_getI (t := 1) (k := 0) 0 dX0_entryFact_34 cb1 (by decide) mf_X0_47 (by rfl) rfl (by assumption) (by assumption) ?_
  refine e_iv (hS.2.2 _ hs1).2.1 ?_
  exact q_iret dX0_entryFact_37 rfl (by rfl) (by assumption)
theorem s_eF1 {κ : KK} {A : Nat → Int → Nat} {σ : ST} {p e : Int} (hp : Lv σ 0 p) (hw : WP σ) (hS : WS σ) (he : 0 ≤ e ∧ e < σ 0 p 0) : PU κ A MX0_entryFact 0 σ [vr A 0 p, .int (iI e), .int (iI 1)] (.int (iI (σ 12 p e))) := by
  intro g hh
  refine e_start rfl (by show (lg_sl _).length ≤ 3; simp [lg_sl, cat_rf, cat_i, cat_l, cat_r, cat_n]) (lv := [(0, vr A 0 p), (1, .int (iI e)), (2, .int (iI 1))]) (by simp [lv_args, cat_rf, cat_i, cat_l, cat_r, cat_n]) ?_
  have hz := (hw p hp).1
  obtain ⟨hs1, hn1, -⟩ := (hw p hp).2 e (by omega)
  refine r_iload_n dX0_entryFact_0 rfl rfl ?_
  refine r_lookup (off := 37) 38 dX0_entryFact_1 (by decide +kernel) (by decide +kernel) (by decide) ?_
  refine r_aload_nO dX0_entryFact_38 rfl rfl ?_
  refine e_getF (t := 0) (k := 2) (t1 := 12) dX0_entryFact_39 cb0 (by decide) mf_X0_17 (by rfl) (by rfl) (by decide) (by assumption) (by assumption) ?_
  refine r_iload_n dX0_entryFact_42 rfl rfl ?_
  refine e_iald (t := 12) dX0_entryFact_43 (by decide) (by decide) (by rfl) (by intro _; rfl) (by assumption) (by first | assumption | exact lv_as 0 (by assumption) (by rfl)) (by have e : ln 12 = 3 := rfl; omega) ?_
  exact q_iret dX0_entryFact_44 rfl (by rfl) (by assumption)
theorem s_eF2 {κ : KK} {A : Nat → Int → Nat} {σ : ST} {p e : Int} (hp : Lv σ 0 p) (hw : WP σ) (hS : WS σ) (he : 0 ≤ e ∧ e < σ 0 p 0) : PU κ A MX0_entryFact 0 σ [vr A 0 p, .int (iI e), .int (iI 2)] (.int (iI (σ 13 p e))) := by
  intro g hh
  refine e_start rfl (by show (lg_sl _).length ≤ 3; simp [lg_sl, cat_rf, cat_i, cat_l, cat_r, cat_n]) (lv := [(0, vr A 0 p), (1, .int (iI e)), (2, .int (iI 2))]) (by simp [lv_args, cat_rf, cat_i, cat_l, cat_r, cat_n]) ?_
  have hz := (hw p hp).1
  obtain ⟨hs1, hn1, -⟩ := (hw p hp).2 e (by omega)
  refine r_iload_n dX0_entryFact_0 rfl rfl ?_
  refine r_lookup (off := 44) 45 dX0_entryFact_1 (by decide +kernel) (by decide +kernel) (by decide) ?_
  refine r_aload_nO dX0_entryFact_45 rfl rfl ?_
  refine e_getF (t := 0) (k := 3) (t1 := 13) dX0_entryFact_46 cb0 (by decide) mf_X0_21 (by rfl) (by rfl) (by decide) (by assumption) (by assumption) ?_
  refine r_iload_n dX0_entryFact_49 rfl rfl ?_
  refine e_iald (t := 13) dX0_entryFact_50 (by decide) (by decide) (by rfl) (by intro _; rfl) (by assumption) (by first | assumption | exact lv_as 0 (by assumption) (by rfl)) (by have e : ln 13 = 3 := rfl; omega) ?_
  exact q_iret dX0_entryFact_51 rfl (by rfl) (by assumption)
theorem s_countOf {κ : KK} {A : Nat → Int → Nat} {σ : ST} {p s : Int} (hp : Lv σ 0 p) (hw : WP σ) (hs : -1 ≤ s ∧ s < cnt σ 1) : ∃ v : Int, True ∧ PU κ A MX0_countOf 0 σ [vr A 0 p, vr A 1 s] (.int (iI v)) := by
  have hz := (hw p hp).1
  have loop : ∀ m : Nat, ∀ j : Int, ∀ c : Int, 0 ≤ j → j + (m : Int) = σ 0 p 0 → ∃ v : Int, True ∧ ∀ g, HR κ A g σ → Wp κ MX0_countOf 0 0 0 4 [(0, vr A 0 p), (1, vr A 1 s), (2, .int (iI c)), (3, .int (iI j))] [] g (PQ κ A σ (some (.int (iI v)))) := by
    intro m
    induction m with
    | zero =>
      intro j c hj0 hjm
      refine ⟨c, trivial, fun g hh => ?_⟩
      refine r_iload_n dX0_countOf_4 rfl rfl ?_
      refine r_aload_nO dX0_countOf_5 rfl rfl ?_
      refine e_getI (t := 0) (k := 0) 0 dX0_countOf_6 cb0 (by decide) mf_X0_24 (by rfl) rfl (by assumption) (by assumption) ?_
      refine e_ic_ge 31 dX0_countOf_9 (by decide) ⟨by omega, by omega⟩ ⟨by omega, by omega⟩ (fun h9 => ?_) (fun h9 => by exfalso; omega)
      refine r_pc 31 rfl ?_
      refine r_iload_n dX0_countOf_31 rfl rfl ?_
      exact q_iret dX0_countOf_32 rfl (by rfl) (by assumption)
    | succ m ih =>
      intro j c hj0 hjm
      obtain ⟨hs1, hn1, -⟩ := (hw p hp).2 j (by omega)
      by_cases hc : σ 11 p j = s
      · obtain ⟨v, hv, hq⟩ := ih (j + 1) (c + 1) (by omega) (by omega)
        refine ⟨v, hv, fun g hh => ?_⟩
        refine r_iload_n dX0_countOf_4 rfl rfl ?_
        refine r_aload_nO dX0_countOf_5 rfl rfl ?_
        refine e_getI (t := 0) (k := 0) 0 dX0_countOf_6 cb0 (by decide) mf_X0_24 (by rfl) rfl (by assumption) (by assumption) ?_
        refine e_ic_ge 31 dX0_countOf_9 (by decide) ⟨by omega, by omega⟩ ⟨by omega, by omega⟩ (fun h9 => by exfalso; omega) (fun h9 => ?_)
        refine r_pc 12 rfl ?_
        refine r_aload_nO dX0_countOf_12 rfl rfl ?_
        refine e_getF (t := 0) (k := 1) (t1 := 11) dX0_countOf_13 cb0 (by decide) mf_X0_11 (by rfl) (by rfl) (by decide) (by assumption) (by assumption) ?_
        refine r_iload_n dX0_countOf_16 rfl rfl ?_
        refine e_aald (t := 11) (t1 := 1) dX0_countOf_17 (by decide) (by decide) (by decide) (by intro _; rfl) (by decide) (by assumption) (by first | assumption | exact lv_as 0 (by assumption) (by rfl)) (by have e : ln 11 = 3 := rfl; omega) ?_
        refine r_aload_nO dX0_countOf_18 rfl rfl ?_
        refine e_ac_ne (t := 1) 25 dX0_countOf_19 (by decide) (by assumption) (by decide) ⟨by have := hs1.1; omega, hs1.2⟩ hs (fun h19 => by exact absurd hc h19) (fun h19 => ?_)
        refine r_pc 22 rfl ?_
        refine e_iinc dX0_countOf_22 rfl (by decide) ?_
        refine r_stw (by repeat' first | exact True.intro | refine And.intro (fun h => by first | rfl | exact cat_rf _ | exact absurd h (by decide)) ?_) ?_
        refine e_iinc dX0_countOf_25 rfl (by decide) ?_
        refine r_goto 4 dX0_countOf_28 (by decide) ?_
        refine r_lv [(0, vr A 0 p), (1, vr A 1 s), (2, .int (iI (c + 1))), (3, .int (iI (j + 1)))] rfl ?_
        exact hq g hh
      · obtain ⟨v, hv, hq⟩ := ih (j + 1) c (by omega) (by omega)
        refine ⟨v, hv, fun g hh => ?_⟩
        refine r_iload_n dX0_countOf_4 rfl rfl ?_
        refine r_aload_nO dX0_countOf_5 rfl rfl ?_
        refine e_getI (t := 0) (k := 0) 0 dX0_countOf_6 cb0 (by decide) mf_X0_24 (by rfl) rfl (by assumption) (by assumption) ?_
        refine e_ic_ge 31 dX0_countOf_9 (by decide) ⟨by omega, by omega⟩ ⟨by omega, by omega⟩ (fun h9 => by exfalso; omega) (fun h9 => ?_)
        refine r_pc 12 rfl ?_
        refine r_aload_nO dX0_countOf_12 rfl rfl ?_
        refine e_getF (t := 0) (k := 1) (t1 := 11) dX0_countOf_13 cb0 (by decide) mf_X0_11 (by rfl) (by rfl) (by decide) (by assumption) (by assumption) ?_
        refine r_iload_n dX0_countOf_16 rfl rfl ?_
        refine e_aald (t := 11) (t1 := 1) dX0_countOf_17 (by decide) (by decide) (by decide) (by intro _; rfl) (by decide) (by assumption) (by first | assumption | exact lv_as 0 (by assumption) (by rfl)) (by have e : ln 11 = 3 := rfl; omega) ?_
        refine r_aload_nO dX0_countOf_18 rfl rfl ?_
        refine e_ac_ne (t := 1) 25 dX0_countOf_19 (by decide) (by assumption) (by decide) ⟨by have := hs1.1; omega, hs1.2⟩ hs (fun h19 => ?_) (fun h19 => by exact absurd h19 hc)
        refine r_pc 25 rfl ?_
        refine e_iinc dX0_countOf_25 rfl (by decide) ?_
        refine r_goto 4 dX0_countOf_28 (by decide) ?_
        refine r_lv [(0, vr A 0 p), (1, vr A 1 s), (2, .int (iI c)), (3, .int (iI (j + 1)))] rfl ?_
        exact hq g hh
  obtain ⟨v, hv, hq⟩ := loop (σ 0 p 0).toNat 0 0 (by omega) (by omega)
  refine ⟨v, hv, ?_⟩
  intro g hh
  refine e_start rfl (by show (lg_sl _).length ≤ 4; simp [lg_sl, cat_rf, cat_i, cat_l, cat_r, cat_n]) (lv := [(0, vr A 0 p), (1, vr A 1 s)]) (by simp [lv_args, cat_rf, cat_i, cat_l, cat_r, cat_n]) ?_
  refine e_iconst dX0_countOf_0 ?_
  refine r_istore_n dX0_countOf_1 rfl (by decide) ?_
  refine r_stw (by repeat' first | exact True.intro | refine And.intro (fun h => by first | rfl | exact cat_rf _ | exact absurd h (by decide)) ?_) ?_
  refine e_iconst dX0_countOf_2 ?_
  refine r_istore_n dX0_countOf_3 rfl (by decide) ?_
  refine r_lv [(0, vr A 0 p), (1, vr A 1 s), (2, .int (iI 0)), (3, .int (iI 0))] rfl ?_
  exact hq g hh
