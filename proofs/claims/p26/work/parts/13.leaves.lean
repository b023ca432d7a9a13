theorem s_pairs {κ : KK} {A : Nat → Int → Nat} {σ : ST} {k : Int} (hk : Lv σ 3 k) (hF : WF σ) : ∃ v : Int, True ∧ PU κ A MX3_pairs 1 σ [vr A 3 k] (.int (iI v)) := by
  have loop : ∀ m : Nat, ∀ j : Int, ∀ c : Int, 0 ≤ j → j + (m : Int) = 12 → ∃ v : Int, True ∧ ∀ g, HR κ A g σ → Wp κ MX3_pairs 1 0 0 4 [(0, vr A 3 k), (1, .int (iI c)), (2, .int (iI j))] [] g (PQ κ A σ (some (.int (iI v)))) := by
    intro m
    induction m with
    | zero =>
      intro j c hj0 hjm
      refine ⟨c, trivial, fun g hh => ?_⟩
      refine r_iload_n dX3_pairs_4 rfl rfl ?_
      refine e_bipush dX3_pairs_5 (by decide +kernel) ?_
      refine e_ic_ge 28 dX3_pairs_7 (by decide) ⟨by omega, by omega⟩ ⟨by omega, by omega⟩ (fun h7 => ?_) (fun h7 => by exfalso; omega)
      refine r_pc 28 rfl ?_
      refine r_iload_n dX3_pairs_28 rfl rfl ?_
      exact q_iret dX3_pairs_29 rfl (by rfl) (by assumption)
    | succ m ih =>
      intro j c hj0 hjm
      have h32 := ((hF k hk).2.1 j (by omega)).1
      by_cases hc : isPr (σ 15 k j)
      · obtain ⟨v, hv, hq⟩ := ih (j + 1) (c + 1) (by omega) (by omega)
        refine ⟨v, hv, fun g hh => ?_⟩
        refine r_iload_n dX3_pairs_4 rfl rfl ?_
        refine e_bipush dX3_pairs_5 (by decide +kernel) ?_
        refine e_ic_ge 28 dX3_pairs_7 (by decide) ⟨by omega, by omega⟩ ⟨by omega, by omega⟩ (fun h7 => by exfalso; omega) (fun h7 => ?_)
        refine r_pc 10 rfl ?_
        refine r_aload_nO dX3_pairs_10 rfl rfl ?_
        refine r_iload_n dX3_pairs_11 rfl rfl ?_
        refine e_iconst dX3_pairs_12 ?_
        refine e_callVP (z := MX3_is) dX3_pairs_13 ml_X3_41 cz_X3_is mk_X3_is ms_X3_is cb3 (by decide) (s_is2 hk (by omega) h32) rfl rfl (by simp [cat_rf, cat_i, cat_l, cat_r, cat_n]) (by decide) (by assumption) (by assumption) (fun g hh => ?_)
        refine r_pc 16 rfl ?_
        refine e_ifeq_b 22 dX3_pairs_16 (by decide) (fun h16 => by exact absurd hc h16) (fun h16 => ?_)
        refine r_pc 19 rfl ?_
        refine e_iinc dX3_pairs_19 rfl (by decide) ?_
        refine r_stw (by repeat' first | exact True.intro | refine And.intro (fun h => by first | rfl | exact cat_rf _ | exact absurd h (by decide)) ?_) ?_
        refine e_iinc dX3_pairs_22 rfl (by decide) ?_
        refine r_goto 4 dX3_pairs_25 (by decide) ?_
        refine r_lv [(0, vr A 3 k), (1, .int (iI (c + 1))), (2, .int (iI (j + 1)))] rfl ?_
        exact hq g hh
      · obtain ⟨v, hv, hq⟩ := ih (j + 1) c (by omega) (by omega)
        refine ⟨v, hv, fun g hh => ?_⟩
        refine r_iload_n dX3_pairs_4 rfl rfl ?_
        refine e_bipush dX3_pairs_5 (by decide +kernel) ?_
        refine e_ic_ge 28 dX3_pairs_7 (by decide) ⟨by omega, by omega⟩ ⟨by omega, by omega⟩ (fun h7 => by exfalso; omega) (fun h7 => ?_)
        refine r_pc 10 rfl ?_
        refine r_aload_nO dX3_pairs_10 rfl rfl ?_
        refine r_iload_n dX3_pairs_11 rfl rfl ?_
        refine e_iconst dX3_pairs_12 ?_
        refine e_callVP (z := MX3_is) dX3_pairs_13 ml_X3_41 cz_X3_is mk_X3_is ms_X3_is cb3 (by decide) (s_is2 hk (by omega) h32) rfl rfl (by simp [cat_rf, cat_i, cat_l, cat_r, cat_n]) (by decide) (by assumption) (by assumption) (fun g hh => ?_)
        refine r_pc 16 rfl ?_
        refine e_ifeq_b 22 dX3_pairs_16 (by decide) (fun h16 => ?_) (fun h16 => by exact absurd h16 hc)
        refine r_pc 22 rfl ?_
        refine e_iinc dX3_pairs_22 rfl (by decide) ?_
        refine r_goto 4 dX3_pairs_25 (by decide) ?_
        refine r_lv [(0, vr A 3 k), (1, .int (iI c)), (2, .int (iI (j + 1)))] rfl ?_
        exact hq g hh
  obtain ⟨v, hv, hq⟩ := loop 12 0 0 (by omega) (by omega)
  refine ⟨v, hv, ?_⟩
  intro g hh
  refine e_start rfl (by show (lg_sl _).length ≤ 3; simp [lg_sl, cat_rf, cat_i, cat_l, cat_r, cat_n]) (lv := [(0, vr A 3 k)]) (by simp [lv_args, cat_rf, cat_i, cat_l, cat_r, cat_n]) ?_
  refine e_iconst dX3_pairs_0 ?_
  refine r_istore_n dX3_pairs_1 rfl (by decide) ?_
  refine r_stw (by repeat' first | exact True.intro | refine And.intro (fun h => by first | rfl | exact cat_rf _ | exact absurd h (by decide)) ?_) ?_
  refine e_iconst dX3_pairs_2 ?_
  refine r_istore_n dX3_pairs_3 rfl (by decide) ?_
  refine r_lv [(0, vr A 3 k), (1, .int (iI 0)), (2, .int (iI 0))] rfl ?_
  exact hq g hh
theorem s_nameBits {κ : KK} {A : Nat → Int → Nat} {σ : ST} {k : Int} (hk : Lv σ 3 k) (hT : WT σ) (hF : WF σ) : ∃ v : Int32, True ∧ PU κ A MX3_nameBits 0 σ [vr A 3 k] (.int v) := by
  have hz := wt_sz hT hk
  have loop : ∀ m : Nat, ∀ j : Int, ∀ x : Int32, 0 ≤ j → j + (m : Int) = σ 3 k 5 → ∃ v : Int32, True ∧ ∀ g, HR κ A g σ → Wp κ MX3_nameBits 0 0 0 4 [(0, vr A 3 k), (1, .int x), (2, .int (iI j))] [] g (PQ κ A σ (some (.int v))) := by
    intro m
    induction m with
    | zero =>
      intro j x hj0 hjm
      refine ⟨x, trivial, fun g hh => ?_⟩
      refine r_iload_n dX3_nameBits_4 rfl rfl ?_
      refine r_aload_nO dX3_nameBits_5 rfl rfl ?_
      refine e_getI (t := 3) (k := 5) 5 dX3_nameBits_6 cb3 (by decide) mf_X3_38 (by rfl) rfl (by assumption) (by assumption) ?_
      refine e_ic_ge 29 dX3_nameBits_9 (by decide) ⟨by omega, by omega⟩ ⟨by omega, by omega⟩ (fun h9 => ?_) (fun h9 => by exfalso; omega)
      refine r_pc 29 rfl ?_
      refine r_iload_n dX3_nameBits_29 rfl rfl ?_
      exact r_iret dX3_nameBits_30 rfl ⟨rfl, by assumption⟩
    | succ m ih =>
      intro j x hj0 hjm
      obtain ⟨v, hv, hq⟩ := ih (j + 1) (x ||| (iI 1 <<< (iI (σ 14 k j) &&& 31))) (by omega) (by omega)
      refine ⟨v, hv, fun g hh => ?_⟩
      refine r_iload_n dX3_nameBits_4 rfl rfl ?_
      refine r_aload_nO dX3_nameBits_5 rfl rfl ?_
      refine e_getI (t := 3) (k := 5) 5 dX3_nameBits_6 cb3 (by decide) mf_X3_38 (by rfl) rfl (by assumption) (by assumption) ?_
      refine e_ic_ge 29 dX3_nameBits_9 (by decide) ⟨by omega, by omega⟩ ⟨by omega, by omega⟩ (fun h9 => by exfalso; omega) (fun h9 => ?_)
      refine r_pc 12 rfl ?_
      refine r_iload_n dX3_nameBits_12 rfl rfl ?_
      refine e_iconst dX3_nameBits_13 ?_
      refine r_aload_nO dX3_nameBits_14 rfl rfl ?_
      refine e_getF (t := 3) (k := 6) (t1 := 14) dX3_nameBits_15 cb3 (by decide) mf_X3_9 (by rfl) (by rfl) (by decide) (by assumption) (by assumption) ?_
      refine r_iload_n dX3_nameBits_18 rfl rfl ?_
      refine e_iald (t := 14) dX3_nameBits_19 (by decide) (by decide) (by rfl) (by intro _; rfl) (by assumption) (by first | assumption | exact lv_as 3 (by assumption) (by rfl)) (by have e : ln 14 = 12 := rfl; omega) ?_
      refine r_ishl dX3_nameBits_20 ?_
      refine r_ior dX3_nameBits_21 ?_
      refine r_istore_n dX3_nameBits_22 rfl (by decide) ?_
      refine r_stw (by repeat' first | exact True.intro | refine And.intro (fun h => by first | rfl | exact cat_rf _ | exact absurd h (by decide)) ?_) ?_
      refine e_iinc dX3_nameBits_23 rfl (by decide) ?_
      refine r_goto 4 dX3_nameBits_26 (by decide) ?_
      refine r_lv [(0, vr A 3 k), (1, .int (x ||| (iI 1 <<< (iI (σ 14 k j) &&& 31)))), (2, .int (iI (j + 1)))] rfl ?_
      exact hq g hh
  obtain ⟨v, hv, hq⟩ := loop (σ 3 k 5).toNat 0 (iI 0) (by omega) (by omega)
  refine ⟨v, hv, ?_⟩
  intro g hh
  refine e_start rfl (by show (lg_sl _).length ≤ 3; simp [lg_sl, cat_rf, cat_i, cat_l, cat_r, cat_n]) (lv := [(0, vr A 3 k)]) (by simp [lv_args, cat_rf, cat_i, cat_l, cat_r, cat_n]) ?_
  refine e_iconst dX3_nameBits_0 ?_
  refine r_istore_n dX3_nameBits_1 rfl (by decide) ?_
  refine r_stw (by repeat' first | exact True.intro | refine And.intro (fun h => by first | rfl | exact cat_rf _ | exact absurd h (by decide)) ?_) ?_
  refine e_iconst dX3_nameBits_2 ?_
  refine r_istore_n dX3_nameBits_3 rfl (by decide) ?_
  refine r_lv [(0, vr A 3 k), (1, .int (iI 0)), (2, .int (iI 0))] rfl ?_
  exact hq g hh
theorem s_fF0 {κ : KK} {A : Nat → Int → Nat} {σ : ST} {k n : Int} (hk : Lv σ 3 k) (hn : 0 ≤ n ∧ n < 12) (h32 : TrOk (σ 15 k n)) : PU κ A MX3_fieldFact 2 σ [vr A 3 k, .int (iI n), .int (iI 0)] (.int (iI (bI (¬ σ 15 k n = 0) + bI (isPr (σ 15 k n))))) := by
  intro g hh
  refine e_start rfl (by show (lg_sl _).length ≤ 3; simp [lg_sl, cat_rf, cat_i, cat_l, cat_r, cat_n]) (lv := [(0, vr A 3 k), (1, .int (iI n)), (2, .int (iI 0))]) (by simp [lv_args, cat_rf, cat_i, cat_l, cat_r, cat_n]) ?_
  refine r_iload_n dX3_fieldFact_0 rfl rfl ?_
  refine r_tblIn (off := 39) 40 dX3_fieldFact_1 (by decide +kernel) (by decide +kernel) (by decide +kernel) (by decide) ?_
  refine r_aload_nO dX3_fieldFact_40 rfl rfl ?_
  refine r_iload_n dX3_fieldFact_41 rfl rfl ?_
  refine e_callVP (z := MX3_kind) dX3_fieldFact_42 ml_X3_45 cz_X3_kind mk_X3_kind ms_X3_kind cb3 (by decide) (s_kind hk hn h32) rfl rfl (by simp [cat_rf, cat_i, cat_l, cat_r, cat_n]) (by decide) (by assumption) (by assumption) (fun g hh => ?_)
  refine r_pc 45 rfl ?_
  exact q_iret dX3_fieldFact_45 rfl (by rfl) (by assumption)
theorem s_fF1 {κ : KK} {A : Nat → Int → Nat} {σ : ST} {k n : Int} (hk : Lv σ 3 k) (hn : 0 ≤ n ∧ n < 12) : PU κ A MX3_fieldFact 2 σ [vr A 3 k, .int (iI n), .int (iI 1)] (.int (iI (σ 16 k n))) := by
  intro g hh
  refine e_start rfl (by show (lg_sl _).length ≤ 3; simp [lg_sl, cat_rf, cat_i, cat_l, cat_r, cat_n]) (lv := [(0, vr A 3 k), (1, .int (iI n)), (2, .int (iI 1))]) (by simp [lv_args, cat_rf, cat_i, cat_l, cat_r, cat_n]) ?_
  refine r_iload_n dX3_fieldFact_0 rfl rfl ?_
  refine r_tblIn (off := 45) 46 dX3_fieldFact_1 (by decide +kernel) (by decide +kernel) (by decide +kernel) (by decide) ?_
  refine r_aload_nO dX3_fieldFact_46 rfl rfl ?_
  refine e_getF (t := 3) (k := 8) (t1 := 16) dX3_fieldFact_47 cb3 (by decide) mf_X3_18 (by rfl) (by rfl) (by decide) (by assumption) (by assumption) ?_
  refine r_iload_n dX3_fieldFact_50 rfl rfl ?_
  refine e_iald (t := 16) dX3_fieldFact_51 (by decide) (by decide) (by rfl) (by intro _; rfl) (by assumption) (by first | assumption | exact lv_as 3 (by assumption) (by rfl)) (by have e : ln 16 = 12 := rfl; omega) ?_
  exact q_iret dX3_fieldFact_52 rfl (by rfl) (by assumption)
theorem s_fF4 {κ : KK} {A : Nat → Int → Nat} {σ : ST} {k n : Int} (hk : Lv σ 3 k) (hn : 0 ≤ n ∧ n < 12) : PU κ A MX3_fieldFact 2 σ [vr A 3 k, .int (iI n), .int (iI 4)] (.int (iI (σ 17 k n))) := by
  intro g hh
  refine e_start rfl (by show (lg_sl _).length ≤ 3; simp [lg_sl, cat_rf, cat_i, cat_l, cat_r, cat_n]) (lv := [(0, vr A 3 k), (1, .int (iI n)), (2, .int (iI 4))]) (by simp [lv_args, cat_rf, cat_i, cat_l, cat_r, cat_n]) ?_
  refine r_iload_n dX3_fieldFact_0 rfl rfl ?_
  refine r_tblIn (off := 83) 84 dX3_fieldFact_1 (by decide +kernel) (by decide +kernel) (by decide +kernel) (by decide) ?_
  refine r_aload_nO dX3_fieldFact_84 rfl rfl ?_
  refine e_getF (t := 3) (k := 9) (t1 := 17) dX3_fieldFact_85 cb3 (by decide) mf_X3_21 (by rfl) (by rfl) (by decide) (by assumption) (by assumption) ?_
  refine r_iload_n dX3_fieldFact_88 rfl rfl ?_
  refine e_iald (t := 17) dX3_fieldFact_89 (by decide) (by decide) (by rfl) (by intro _; rfl) (by assumption) (by first | assumption | exact lv_as 3 (by assumption) (by rfl)) (by have e : ln 17 = 12 := rfl; omega) ?_
  exact q_iret dX3_fieldFact_90 rfl (by rfl) (by assumption)
theorem s_fF5 {κ : KK} {A : Nat → Int → Nat} {σ : ST} {k n : Int} (hk : Lv σ 3 k) (hn : 0 ≤ n ∧ n < 12) : PU κ A MX3_fieldFact 2 σ [vr A 3 k, .int (iI n), .int (iI 5)] (.int (iI (σ 18 k n))) := by
  intro g hh
  refine e_start rfl (by show (lg_sl _).length ≤ 3; simp [lg_sl, cat_rf, cat_i, cat_l, cat_r, cat_n]) (lv := [(0, vr A 3 k), (1, .int (iI n)), (2, .int (iI 5))]) (by simp [lv_args, cat_rf, cat_i, cat_l, cat_r, cat_n]) ?_
  refine r_iload_n dX3_fieldFact_0 rfl rfl ?_
  refine r_tblIn (off := 90) 91 dX3_fieldFact_1 (by decide +kernel) (by decide +kernel) (by decide +kernel) (by decide) ?_
  refine r_aload_nO dX3_fieldFact_91 rfl rfl ?_
  refine e_getF (t := 3) (k := 10) (t1 := 18) dX3_fieldFact_92 cb3 (by decide) mf_X3_24 (by rfl) (by rfl) (by decide) (by assumption) (by assumption) ?_
  refine r_iload_n dX3_fieldFact_95 rfl rfl ?_
  refine e_iald (t := 18) dX3_fieldFact_96 (by decide) (by decide) (by rfl) (by intro _; rfl) (by assumption) (by first | assumption | exact lv_as 3 (by assumption) (by rfl)) (by have e : ln 18 = 12 := rfl; omega) ?_
  exact q_iret dX3_fieldFact_97 rfl (by rfl) (by assumption)
theorem s_fF2 {κ : KK} {A : Nat → Int → Nat} {σ : ST} {k n : Int} (hk : Lv σ 3 k) (hn : 0 ≤ n ∧ n < 12) (h32 : TrOk (σ 15 k n)) : PU κ A MX3_fieldFact 2 σ [vr A 3 k, .int (iI n), .int (iI 2)] (.int (iI (bI (isFx (σ 15 k n))))) := by
  intro g hh
  refine e_start rfl (by show (lg_sl _).length ≤ 3; simp [lg_sl, cat_rf, cat_i, cat_l, cat_r, cat_n]) (lv := [(0, vr A 3 k), (1, .int (iI n)), (2, .int (iI 2))]) (by simp [lv_args, cat_rf, cat_i, cat_l, cat_r, cat_n]) ?_
  refine r_iload_n dX3_fieldFact_0 rfl rfl ?_
  refine r_tblIn (off := 52) 53 dX3_fieldFact_1 (by decide +kernel) (by decide +kernel) (by decide +kernel) (by decide) ?_
  refine r_aload_nO dX3_fieldFact_53 rfl rfl ?_
  refine r_iload_n dX3_fieldFact_54 rfl rfl ?_
  refine e_iconst dX3_fieldFact_55 ?_
  refine e_callVP (z := MX3_is) dX3_fieldFact_56 ml_X3_41 cz_X3_is mk_X3_is ms_X3_is cb3 (by decide) (s_is4 hk hn h32) rfl rfl (by simp [cat_rf, cat_i, cat_l, cat_r, cat_n]) (by decide) (by assumption) (by assumption) (fun g hh => ?_)
  refine r_pc 59 rfl ?_
  refine e_ifeq_b 66 dX3_fieldFact_59 (by decide) (fun h59 => ?_) (fun h59 => ?_)
  · refine r_pc 66 rfl ?_
    refine e_iconst dX3_fieldFact_66 ?_
    exact q_iret dX3_fieldFact_67 rfl (by rw [bI_f h59]) (by assumption)
  · refine r_pc 62 rfl ?_
    refine e_iconst dX3_fieldFact_62 ?_
    refine r_goto 67 dX3_fieldFact_63 (by decide) ?_
    exact q_iret dX3_fieldFact_67 rfl (by rw [bI_t h59]) (by assumption)
theorem s_fF3 {κ : KK} {A : Nat → Int → Nat} {σ : ST} {k n : Int} (hk : Lv σ 3 k) (hn : 0 ≤ n ∧ n < 12) (h32 : TrOk (σ 15 k n)) : PU κ A MX3_fieldFact 2 σ [vr A 3 k, .int (iI n), .int (iI 3)] (.int (iI (bI (isHd (σ 15 k n))))) := by
  intro g hh
  refine e_start rfl (by show (lg_sl _).length ≤ 3; simp [lg_sl, cat_rf, cat_i, cat_l, cat_r, cat_n]) (lv := [(0, vr A 3 k), (1, .int (iI n)), (2, .int (iI 3))]) (by simp [lv_args, cat_rf, cat_i, cat_l, cat_r, cat_n]) ?_
  refine r_iload_n dX3_fieldFact_0 rfl rfl ?_
  refine r_tblIn (off := 67) 68 dX3_fieldFact_1 (by decide +kernel) (by decide +kernel) (by decide +kernel) (by decide) ?_
  refine r_aload_nO dX3_fieldFact_68 rfl rfl ?_
  refine r_iload_n dX3_fieldFact_69 rfl rfl ?_
  refine e_bipush dX3_fieldFact_70 (by decide +kernel) ?_
  refine e_callVP (z := MX3_is) dX3_fieldFact_72 ml_X3_41 cz_X3_is mk_X3_is ms_X3_is cb3 (by decide) (s_is8 hk hn h32) rfl rfl (by simp [cat_rf, cat_i, cat_l, cat_r, cat_n]) (by decide) (by assumption) (by assumption) (fun g hh => ?_)
  refine r_pc 75 rfl ?_
  refine e_ifeq_b 82 dX3_fieldFact_75 (by decide) (fun h75 => ?_) (fun h75 => ?_)
  · refine r_pc 82 rfl ?_
    refine e_iconst dX3_fieldFact_82 ?_
    exact q_iret dX3_fieldFact_83 rfl (by rw [bI_f h75]) (by assumption)
  · refine r_pc 78 rfl ?_
    refine e_iconst dX3_fieldFact_78 ?_
    refine r_goto 83 dX3_fieldFact_79 (by decide) ?_
    exact q_iret dX3_fieldFact_83 rfl (by rw [bI_t h75]) (by assumption)
theorem s_fF6 {κ : KK} {A : Nat → Int → Nat} {σ : ST} {k n : Int} (hk : Lv σ 3 k) (hn : 0 ≤ n ∧ n < 12) (hT : WT σ) (hF : WF σ) : ∃ v : Int, True ∧ PU κ A MX3_fieldFact 2 σ [vr A 3 k, .int (iI n), .int (iI 6)] (.int (iI v)) := by
  obtain ⟨v, hv, hq⟩ := s_placeIn (κ := κ) (A := A) hk hn (wt_sz hT hk) (fun j hj => ((hF k hk).1 j hj).1)
  refine ⟨v, hv, ?_⟩
  intro g hh
  refine e_start rfl (by show (lg_sl _).length ≤ 3; simp [lg_sl, cat_rf, cat_i, cat_l, cat_r, cat_n]) (lv := [(0, vr A 3 k), (1, .int (iI n)), (2, .int (iI 6))]) (by simp [lv_args, cat_rf, cat_i, cat_l, cat_r, cat_n]) ?_
  refine r_iload_n dX3_fieldFact_0 rfl rfl ?_
  refine r_tblOut 98 dX3_fieldFact_1 (by decide +kernel) (by decide) ?_
  refine r_aload_nO dX3_fieldFact_98 rfl rfl ?_
  refine r_iload_n dX3_fieldFact_99 rfl rfl ?_
  refine e_callVP (z := MX3_placeInOrder) dX3_fieldFact_100 ml_X3_49 cz_X3_placeInOrder mk_X3_placeInOrder ms_X3_placeInOrder cb3 (by decide) hq rfl rfl (by simp [cat_rf, cat_i, cat_l, cat_r, cat_n]) (by decide) (by assumption) (by assumption) (fun g hh => ?_)
  refine r_pc 103 rfl ?_
  exact q_iret dX3_fieldFact_103 rfl (by rfl) (by assumption)
def shO (σ : ST) (k q j : Int) : ST := fun t r c => if t = 14 ∧ r = k ∧ q ≤ c ∧ c < j then σ 14 k (c + 1) else σ t r c
theorem shO_0 (σ : ST) (k q : Int) {j : Int} (h : j ≤ q) : shO σ k q j = σ := by
  funext t r c
  exact if_neg (by omega)
theorem shO_at {σ : ST} {k q j : Int} (i : Int) (h : j ≤ i) : shO σ k q j 14 k i = σ 14 k i := if_neg (by omega)
theorem shO_s {σ : ST} {k q j c : Int} (h : ¬ j = q) (hc : (j ≤ q ∧ c = j) ∨ (q < j ∧ c = j - 1)) : up (shO σ k q (j - 1)) 14 k c (σ 14 k j) = shO σ k q j := by
  funext t r d
  unfold up shO
  by_cases h1 : t = 14
  · subst h1
    by_cases h2 : r = k
    · subst h2
      by_cases h3 : d = c
      · subst h3
        rcases hc with ⟨a, b⟩ | ⟨a, b⟩
        · subst b
          rw [if_pos ⟨rfl, rfl, rfl⟩, if_neg (by omega)]
        · have e : d + 1 = j := by omega
          rw [if_pos ⟨rfl, rfl, rfl⟩, if_pos ⟨rfl, rfl, by omega, by omega⟩, e]
      · rw [if_neg (by omega)]
        by_cases h4 : q ≤ d ∧ d < j - 1
        · rw [if_pos ⟨rfl, rfl, h4⟩, if_pos ⟨rfl, rfl, by omega, by omega⟩]
        · rw [if_neg (by omega), if_neg (by omega)]
    · rw [if_neg (by omega), if_neg (by omega), if_neg (by omega)]
  · rw [if_neg (by omega), if_neg (by omega), if_neg (by omega)]
def tkF (σ : ST) (k q n : Int) : ST := up (up (up (up (up (up (shO σ k q (σ 3 k 5 - 1)) 3 k 5 (σ 3 k 5 - 1)) 15 k n 0) 16 k n (-1000)) 17 k n (-1)) 18 k n (-1)) 19 k n 0
theorem s_takeF {κ : KK} {A : Nat → Int → Nat} {σ : ST} {q : Int} {k n : Int} (hk : Lv σ 3 k) (hn : 0 ≤ n ∧ n < 12) (hT : WT σ) (hF : WF σ) (hq : 0 ≤ q ∧ q < σ 3 k 5) (hn2 : σ 14 k q = n) : PV κ A MX3_takeAway 1 σ [vr A 3 k, .int (iI n)] (none) (tkF σ k q n) := by
  intro g hh
  refine e_start rfl (by show (lg_sl _).length ≤ 4; simp [lg_sl, cat_rf, cat_i, cat_l, cat_r, cat_n]) (lv := [(0, vr A 3 k), (1, .int (iI n))]) (by simp [lv_args, cat_rf, cat_i, cat_l, cat_r, cat_n]) ?_
  have hz := wt_sz hT hk
  have loop : ∀ m : Nat, ∀ j : Int, ∀ c : Int, 0 ≤ j → j + (m : Int) = σ 3 k 5 → ((j ≤ q ∧ c = j) ∨ (q < j ∧ c = j - 1)) → ∀ g, HR κ A g (shO σ k q (j - 1)) → Wp κ MX3_takeAway 1 0 0 4 [(0, vr A 3 k), (1, .int (iI n)), (2, .int (iI c)), (3, .int (iI j))] [] g (PQ κ A (tkF σ k q n) (none)) := by
    intro m
    induction m with
    | zero =>
      intro j c hj0 hjm hc g hh
      obtain rfl : j = σ 3 k 5 := by omega
      obtain rfl : c = σ 3 k 5 - 1 := by omega
      have h0 : shO σ k q (σ 3 k 5 - 1) 3 k 5 = σ 3 k 5 := rfl
      have hk' : Lv (shO σ k q (σ 3 k 5 - 1)) 3 k := hk
      refine r_iload_n dX3_takeAway_4 rfl rfl ?_
      refine r_aload_nO dX3_takeAway_5 rfl rfl ?_
      refine e_getI (t := 3) (k := 5) 5 dX3_takeAway_6 cb3 (by decide) mf_X3_38 (by rfl) rfl (by assumption) (by assumption) ?_
      refine e_ic_ge 43 dX3_takeAway_9 (by decide) ⟨by omega, by omega⟩ ⟨by omega, by omega⟩ (fun h9 => ?_) (fun h9 => by exfalso; omega)
      refine r_pc 43 rfl ?_
      refine r_aload_nO dX3_takeAway_43 rfl rfl ?_
      refine r_iload_n dX3_takeAway_44 rfl rfl ?_
      refine e_putI (t := 3) (k := 5) 5 dX3_takeAway_45 cb3 (by decide) mf_X3_38 (by rfl) (by rfl) (by rfl) (by rfl) (by rfl) rfl (by assumption) (by assumption) (fun g hh => ?_)
      refine r_aload_nO dX3_takeAway_48 rfl rfl ?_
      refine e_getF (t := 3) (k := 7) (t1 := 15) dX3_takeAway_49 cb3 (by decide) mf_X3_15 (by rfl) (by rfl) (by decide) (by assumption) (by assumption) ?_
      refine r_iload_n dX3_takeAway_52 rfl rfl ?_
      refine e_iconst dX3_takeAway_53 ?_
      refine e_iast (t := 15) dX3_takeAway_54 (by decide) (by decide) (by rfl) (by intro _; rfl) (by assumption) (by first | assumption | exact lv_as 3 (by assumption) (by rfl)) (by have e : ln 15 = 12 := rfl; omega) (fun g hh => ?_)
      refine r_aload_nO dX3_takeAway_55 rfl rfl ?_
      refine r_iload_n dX3_takeAway_56 rfl rfl ?_
      refine e_sipush dX3_takeAway_57 (by decide +kernel) ?_
      refine e_iconst dX3_takeAway_60 ?_
      refine e_iconst dX3_takeAway_61 ?_
      refine e_iconst dX3_takeAway_62 ?_
      refine e_callVV (z := MX3_fill) dX3_takeAway_63 ml_X3_34 cz_X3_fill mk_X3_fill ms_X3_fill cb3 (by decide) (s_fill (σ := up (up (shO σ k q (σ 3 k 5 - 1)) 3 k 5 (σ 3 k 5 - 1)) 15 k n 0) hk hn) rfl rfl (by simp [cat_rf, cat_i, cat_l, cat_r, cat_n]) (by decide) (by assumption) (by assumption) (fun g hh => ?_)
      refine r_pc 66 rfl ?_
      exact q_vret dX3_takeAway_66 rfl (by assumption)
    | succ m ih =>
      intro j c hj0 hjm hc g hh
      have h0 : shO σ k q (j - 1) 3 k 5 = σ 3 k 5 := rfl
      have hk' : Lv (shO σ k q (j - 1)) 3 k := hk
      have ho := ((hF k hk).1 j (by omega)).1
      refine r_iload_n dX3_takeAway_4 rfl rfl ?_
      refine r_aload_nO dX3_takeAway_5 rfl rfl ?_
      refine e_getI (t := 3) (k := 5) 5 dX3_takeAway_6 cb3 (by decide) mf_X3_38 (by rfl) rfl (by assumption) (by assumption) ?_
      refine e_ic_ge 43 dX3_takeAway_9 (by decide) ⟨by omega, by omega⟩ ⟨by omega, by omega⟩ (fun h9 => by exfalso; omega) (fun h9 => ?_)
      refine r_pc 12 rfl ?_
      refine r_aload_nO dX3_takeAway_12 rfl rfl ?_
      refine e_getF (t := 3) (k := 6) (t1 := 14) dX3_takeAway_13 cb3 (by decide) mf_X3_9 (by rfl) (by rfl) (by decide) (by assumption) (by assumption) ?_
      refine r_iload_n dX3_takeAway_16 rfl rfl ?_
      refine e_iald (t := 14) dX3_takeAway_17 (by decide) (by decide) (by rfl) (by intro _; rfl) (by assumption) (by first | assumption | exact lv_as 3 (by assumption) (by rfl)) (by have e : ln 14 = 12 := rfl; omega) ?_
      refine e_iv (show _ = σ 14 k j from shO_at j (by omega)) ?_
      refine r_iload_n dX3_takeAway_18 rfl rfl ?_
      refine e_ic_eq 37 dX3_takeAway_19 (by decide) ⟨by omega, by omega⟩ ⟨by omega, by omega⟩ (fun h19 => ?_) (fun h19 => ?_)
      · refine r_pc 37 rfl ?_
        have hjq : j = q := (hF k hk).2.2 j q (by omega) hq (by omega)
        subst hjq
        obtain rfl : c = j := by omega
        rw [shO_0 _ _ _ (by omega : c - 1 ≤ c)] at hh
        refine e_iinc dX3_takeAway_37 rfl (by decide) ?_
        refine r_goto 4 dX3_takeAway_40 (by decide) ?_
        refine r_lv [(0, vr A 3 k), (1, .int (iI n)), (2, .int (iI c)), (3, .int (iI (c + 1)))] rfl ?_
        refine ih (c + 1) c (by omega) (by omega) (by omega) g ?_
        rw [show c + 1 - 1 = c by omega, shO_0 _ _ _ (Int.le_refl c)]
        exact hh
      · refine r_pc 22 rfl ?_
        have hjq : ¬ j = q := fun e => h19 (by rw [e]; exact hn2)
        refine r_aload_nO dX3_takeAway_22 rfl rfl ?_
        refine e_getF (t := 3) (k := 6) (t1 := 14) dX3_takeAway_23 cb3 (by decide) mf_X3_9 (by rfl) (by rfl) (by decide) (by assumption) (by assumption) ?_
        refine r_iload_n dX3_takeAway_26 rfl rfl ?_
        refine r_aload_nO dX3_takeAway_27 rfl rfl ?_
        refine e_getF (t := 3) (k := 6) (t1 := 14) dX3_takeAway_28 cb3 (by decide) mf_X3_9 (by rfl) (by rfl) (by decide) (by assumption) (by assumption) ?_
        refine r_iload_n dX3_takeAway_31 rfl rfl ?_
        refine e_iald (t := 14) dX3_takeAway_32 (by decide) (by decide) (by rfl) (by intro _; rfl) (by assumption) (by first | assumption | exact lv_as 3 (by assumption) (by rfl)) (by have e : ln 14 = 12 := rfl; omega) ?_
        refine e_iv (show _ = σ 14 k j from shO_at j (by omega)) ?_
        refine e_iast (t := 14) dX3_takeAway_33 (by decide) (by decide) (by rfl) (by intro _; rfl) (by assumption) (by first | assumption | exact lv_as 3 (by assumption) (by rfl)) (by have e : ln 14 = 12 := rfl; omega) (fun g hh => ?_)
        rw [shO_s hjq hc] at hh
        refine e_iinc dX3_takeAway_34 rfl (by decide) ?_
        refine e_iinc dX3_takeAway_37 rfl (by decide) ?_
        refine r_goto 4 dX3_takeAway_40 (by decide) ?_
        refine r_lv [(0, vr A 3 k), (1, .int (iI n)), (2, .int (iI (c + 1))), (3, .int (iI (j + 1)))] rfl ?_
        refine ih (j + 1) (c + 1) (by omega) (by omega) (by omega) g ?_
        rw [show j + 1 - 1 = j by omega]
        exact hh
  refine e_iconst dX3_takeAway_0 ?_
  refine r_istore_n dX3_takeAway_1 rfl (by decide) ?_
  refine e_iconst dX3_takeAway_2 ?_
  refine r_istore_n dX3_takeAway_3 rfl (by decide) ?_
  refine r_lv [(0, vr A 3 k), (1, .int (iI n)), (2, .int (iI 0)), (3, .int (iI 0))] rfl ?_
  refine loop (σ 3 k 5).toNat 0 0 (by omega) (by omega) (by omega) g ?_
  rw [shO_0 _ _ _ (by omega)]
  exact hh
