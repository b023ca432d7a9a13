theorem lkF_r {σ : ST} {L : Int → List Int} (hL : WL σ L) {v n : Int} (hv : -1 ≤ v ∧ v < σ 99 3 0) : 0 ≤ lkF σ n (lo L v) ∧ lkF σ n (lo L v) ≤ 25 := by
  have h := wF_r σ n (lo L v)
  have h2 := lo_len hL hv
  unfold lkF
  split <;> omega
theorem gF_r {σ : ST} {L : Int → List Int} (hT : WT σ) (hL : WL σ L) (hV : WV σ) {v n : Int} (hv : -1 ≤ v ∧ v < σ 99 3 0) (hn : 0 ≤ n ∧ n < 12) : -1 ≤ gF σ n (lo L v) ∧ gF σ n (lo L v) < 12 := by
  unfold gF
  split
  · omega
  · exact (hV _ n (hF_lv hT hL hv (by omega)) hn).1
theorem kd3 {σ : ST} {k : Int} (hk : Lv σ 3 k) : -1 ≤ k ∧ k < σ 99 3 0 := ⟨by have := hk.1; omega, hk.2⟩
theorem s_costAt {κ : KK} {A : Nat → Int → Nat} {σ : ST} {L : Int → List Int} {p : Int} (hp : Lv σ 0 p) {k n : Int} (hk : Lv σ 3 k) (hn : 0 ≤ n ∧ n < 12) (hT : WT σ) (hL : WL σ L) (hS : WS σ) (hP : WP σ) (hF' : WF σ) (hV : WV σ) : ∃ v : Int, (0 < v ∧ v ≤ 400) ∧ PU κ A MX4_costAt 3 σ [vr A 0 p, vr A 3 k, .int (iI n)] (.int (iI v)) := by
  have hkd := kd3 hk
  have hsd := (hT.2.2 k hk).2.2.2.1
  have loop : ∀ m : Nat, ∀ j : Int, ∀ c : Int, ∀ y : Int, 0 ≤ j → j + (m : Int) = 6 → (0 < c ∧ c ≤ 30 + 27 * j) → (-1 ≤ y ∧ y < 12) → ∃ v : Int, (0 < v ∧ v ≤ 400) ∧ ∀ g, HR κ A g σ → Wp κ MX4_costAt 3 0 0 34 [(0, vr A 0 p), (1, vr A 3 k), (2, .int (iI n)), (3, .int (iI c)), (4, .int (iI y)), (5, .int (iI j))] [] g (PQ κ A σ (some (.int (iI v)))) := by
    intro m
    induction m with
    | zero =>
      intro j c y hj0 hjm hcb hyb
      refine ⟨c, ⟨by omega, by omega⟩, fun g hh => ?_⟩
      refine r_iload dX4_costAt_34 rfl ?_
      refine e_bipush dX4_costAt_36 (by decide +kernel) ?_
      refine e_ic_ge 72 dX4_costAt_38 (by decide) ⟨by omega, by omega⟩ ⟨by omega, by omega⟩ (fun h38 => ?_) (fun h38 => by exfalso; omega)
      refine r_pc 72 rfl ?_
      refine r_iload_n dX4_costAt_72 rfl rfl ?_
      exact q_iret dX4_costAt_73 rfl (by rfl) (by assumption)
    | succ m ih =>
      intro j c y hj0 hjm hcb hyb
      by_cases hc0 : y = -1
      · refine ⟨c, ⟨by omega, by omega⟩, fun g hh => ?_⟩
        refine r_iload dX4_costAt_34 rfl ?_
        refine e_bipush dX4_costAt_36 (by decide +kernel) ?_
        refine e_ic_ge 72 dX4_costAt_38 (by decide) ⟨by omega, by omega⟩ ⟨by omega, by omega⟩ (fun h38 => by exfalso; omega) (fun h38 => ?_)
        refine r_pc 41 rfl ?_
        refine r_iload dX4_costAt_41 rfl ?_
        refine e_iconst dX4_costAt_43 ?_
        refine e_ic_eq 72 dX4_costAt_44 (by decide) ⟨by omega, by omega⟩ ⟨by omega, by omega⟩ (fun h44 => ?_) (fun h44 => by exfalso; omega)
        refine r_pc 72 rfl ?_
        refine r_iload_n dX4_costAt_72 rfl rfl ?_
        exact q_iret dX4_costAt_73 rfl (by rfl) (by assumption)
      · have hlk := lkF_r (n := y) hL hkd
        have hgr := gF_r (n := y) hT hL hV hkd (by omega)
        obtain ⟨v, hv, hw⟩ := ih (j + 1) (c + (2 + lkF σ y (lo L k))) (gF σ y (lo L k)) (by omega) (by omega) (by omega) (by omega)
        refine ⟨v, hv, fun g hh => ?_⟩
        refine r_iload dX4_costAt_34 rfl ?_
        refine e_bipush dX4_costAt_36 (by decide +kernel) ?_
        refine e_ic_ge 72 dX4_costAt_38 (by decide) ⟨by omega, by omega⟩ ⟨by omega, by omega⟩ (fun h38 => by exfalso; omega) (fun h38 => ?_)
        refine r_pc 41 rfl ?_
        refine r_iload dX4_costAt_41 rfl ?_
        refine e_iconst dX4_costAt_43 ?_
        refine e_ic_eq 72 dX4_costAt_44 (by decide) ⟨by omega, by omega⟩ ⟨by omega, by omega⟩ (fun h44 => by exfalso; omega) (fun h44 => ?_)
        refine r_pc 47 rfl ?_
        refine r_iload_n dX4_costAt_47 rfl rfl ?_
        refine e_iconst dX4_costAt_48 ?_
        refine r_aload_nO dX4_costAt_49 rfl rfl ?_
        refine r_iload dX4_costAt_50 rfl ?_
        refine e_callSP (z := MX4_lookedAt) dX4_costAt_52 ml_X4_313 cz_X4_lookedAt mk_X4_lookedAt (s_lookedAt hkd (by omega) hT hL hF') rfl rfl (by simp [cat_rf, cat_i, cat_l, cat_r, cat_n]) (by decide) (by assumption) (fun g hh => ?_)
        refine r_pc 55 rfl ?_
        first | refine e_iadd dX4_costAt_55 ?_ | refine r_iadd dX4_costAt_55 ?_
        first | refine e_iadd dX4_costAt_56 ?_ | refine r_iadd dX4_costAt_56 ?_
        refine r_istore_n dX4_costAt_57 rfl (by decide) ?_
        refine r_aload_nO dX4_costAt_58 rfl rfl ?_
        refine r_iload dX4_costAt_59 rfl ?_
        refine e_callSP (z := MX4_getterOf) dX4_costAt_61 ml_X4_316 cz_X4_getterOf mk_X4_getterOf (s_getterOf hkd (by omega) hT hL hF') rfl rfl (by simp [cat_rf, cat_i, cat_l, cat_r, cat_n]) (by decide) (by assumption) (fun g hh => ?_)
        refine r_pc 64 rfl ?_
        refine r_istore dX4_costAt_64 (by decide) ?_
        refine e_iinc dX4_costAt_66 rfl (by decide) ?_
        refine r_goto 34 dX4_costAt_69 (by decide) ?_
        refine r_lv [(0, vr A 0 p), (1, vr A 3 k), (2, .int (iI n)), (3, .int (iI (c + (2 + lkF σ y (lo L k))))), (4, .int (iI (gF σ y (lo L k)))), (5, .int (iI (j + 1)))] rfl ?_
        exact hw g hh
  have hlk := lkF_r (n := n) hL hkd
  have hgr := gF_r (n := n) hT hL hV hkd hn
  by_cases hkn : ∃ e, (0 ≤ e ∧ e < σ 0 p 0) ∧ σ 11 p e = σ 3 k 2 ∧ σ 12 p e = n
  · obtain ⟨v, hv, hw⟩ := loop 6 0 1 (gF σ n (lo L k)) (by omega) (by omega) (by omega) hgr
    refine ⟨v, hv, ?_⟩
    intro g hh
    refine e_start rfl (by show (lg_sl _).length ≤ 6; simp [lg_sl, cat_rf, cat_i, cat_l, cat_r, cat_n]) (lv := [(0, vr A 0 p), (1, vr A 3 k), (2, .int (iI n))]) (by simp [lv_args, cat_rf, cat_i, cat_l, cat_r, cat_n]) ?_
    refine r_aload_nO dX4_costAt_0 rfl rfl ?_
    refine r_aload_nO dX4_costAt_1 rfl rfl ?_
    refine e_getR (t := 3) (k := 2) (t1 := 1) 2 dX4_costAt_2 cb3 (by decide) mf_X4_62 (by rfl) (by rfl) (by decide) rfl (by assumption) (by assumption) ?_
    refine r_iload_n dX4_costAt_5 rfl rfl ?_
    refine e_callVP (z := MX0_knows) dX4_costAt_6 ml_X4_159 cz_X0_knows mk_X0_knows ms_X0_knows cb0 (by decide) (s_knows hp hP hsd hn) rfl rfl (by simp [cat_rf, cat_i, cat_l, cat_r, cat_n]) (by decide) (by assumption) (by assumption) (fun g hh => ?_)
    refine r_pc 9 rfl ?_
    refine e_ifeq_b 16 dX4_costAt_9 (by decide) (fun h9 => by contradiction) (fun h9 => ?_)
    refine r_pc 12 rfl ?_
    refine e_iconst dX4_costAt_12 ?_
    refine r_goto 23 dX4_costAt_13 (by decide) ?_
    refine r_istore_n dX4_costAt_23 rfl (by decide) ?_
    refine r_aload_nO dX4_costAt_24 rfl rfl ?_
    refine r_iload_n dX4_costAt_25 rfl rfl ?_
    refine e_callSP (z := MX4_getterOf) dX4_costAt_26 ml_X4_316 cz_X4_getterOf mk_X4_getterOf (s_getterOf hkd hn hT hL hF') rfl rfl (by simp [cat_rf, cat_i, cat_l, cat_r, cat_n]) (by decide) (by assumption) (fun g hh => ?_)
    refine r_pc 29 rfl ?_
    refine r_istore dX4_costAt_29 (by decide) ?_
    refine e_iconst dX4_costAt_31 ?_
    refine r_istore dX4_costAt_32 (by decide) ?_
    refine r_lv [(0, vr A 0 p), (1, vr A 3 k), (2, .int (iI n)), (3, .int (iI 1)), (4, .int (iI (gF σ n (lo L k)))), (5, .int (iI 0))] rfl ?_
    exact hw g hh
  · obtain ⟨v, hv, hw⟩ := loop 6 0 (4 + lkF σ n (lo L k)) (gF σ n (lo L k)) (by omega) (by omega) (by omega) hgr
    refine ⟨v, hv, ?_⟩
    intro g hh
    refine e_start rfl (by show (lg_sl _).length ≤ 6; simp [lg_sl, cat_rf, cat_i, cat_l, cat_r, cat_n]) (lv := [(0, vr A 0 p), (1, vr A 3 k), (2, .int (iI n))]) (by simp [lv_args, cat_rf, cat_i, cat_l, cat_r, cat_n]) ?_
    refine r_aload_nO dX4_costAt_0 rfl rfl ?_
    refine r_aload_nO dX4_costAt_1 rfl rfl ?_
    refine e_getR (t := 3) (k := 2) (t1 := 1) 2 dX4_costAt_2 cb3 (by decide) mf_X4_62 (by rfl) (by rfl) (by decide) rfl (by assumption) (by assumption) ?_
    refine r_iload_n dX4_costAt_5 rfl rfl ?_
    refine e_callVP (z := MX0_knows) dX4_costAt_6 ml_X4_159 cz_X0_knows mk_X0_knows ms_X0_knows cb0 (by decide) (s_knows hp hP hsd hn) rfl rfl (by simp [cat_rf, cat_i, cat_l, cat_r, cat_n]) (by decide) (by assumption) (by assumption) (fun g hh => ?_)
    refine r_pc 9 rfl ?_
    refine e_ifeq_b 16 dX4_costAt_9 (by decide) (fun h9 => ?_) (fun h9 => by contradiction)
    refine r_pc 16 rfl ?_
    refine e_iconst dX4_costAt_16 ?_
    refine r_aload_nO dX4_costAt_17 rfl rfl ?_
    refine r_iload_n dX4_costAt_18 rfl rfl ?_
    refine e_callSP (z := MX4_lookedAt) dX4_costAt_19 ml_X4_313 cz_X4_lookedAt mk_X4_lookedAt (s_lookedAt hkd hn hT hL hF') rfl rfl (by simp [cat_rf, cat_i, cat_l, cat_r, cat_n]) (by decide) (by assumption) (fun g hh => ?_)
    refine r_pc 22 rfl ?_
    first | refine e_iadd dX4_costAt_22 ?_ | refine r_iadd dX4_costAt_22 ?_
    refine r_istore_n dX4_costAt_23 rfl (by decide) ?_
    refine r_aload_nO dX4_costAt_24 rfl rfl ?_
    refine r_iload_n dX4_costAt_25 rfl rfl ?_
    refine e_callSP (z := MX4_getterOf) dX4_costAt_26 ml_X4_316 cz_X4_getterOf mk_X4_getterOf (s_getterOf hkd hn hT hL hF') rfl rfl (by simp [cat_rf, cat_i, cat_l, cat_r, cat_n]) (by decide) (by assumption) (fun g hh => ?_)
    refine r_pc 29 rfl ?_
    refine r_istore dX4_costAt_29 (by decide) ?_
    refine e_iconst dX4_costAt_31 ?_
    refine r_istore dX4_costAt_32 (by decide) ?_
    refine r_lv [(0, vr A 0 p), (1, vr A 3 k), (2, .int (iI n)), (3, .int (iI (4 + lkF σ n (lo L k)))), (4, .int (iI (gF σ n (lo L k)))), (5, .int (iI 0))] rfl ?_
    exact hw g hh
theorem s_wouldCost {κ : KK} {A : Nat → Int → Nat} {σ : ST} {L : Int → List Int} {p : Int} (hp : Lv σ 0 p) {k n : Int} (hk : Lv σ 3 k) (hn : 0 ≤ n ∧ n < 12) (hT : WT σ) (hL : WL σ L) (hS : WS σ) (hP : WP σ) (hF' : WF σ) (hV : WV σ) : ∃ v : Int, ((0 < v ∧ v ≤ 400) ∧ PU κ A MX4_costAt 3 σ [vr A 0 p, vr A 3 k, .int (iI n)] (.int (iI v))) ∧ PU κ A MX4_wouldCost 4 σ [vr A 4 0, .int (iI p), .int (iI k), .int (iI n)] (.int (iI v)) := by
  obtain ⟨v, hv, hq⟩ := s_costAt (κ := κ) (A := A) hp hk hn hT hL hS hP hF' hV
  refine ⟨v, ⟨hv, hq⟩, ?_⟩
  intro g hh
  refine e_start rfl (by show (lg_sl _).length ≤ 6; simp [lg_sl, cat_rf, cat_i, cat_l, cat_r, cat_n]) (lv := [(0, vr A 4 0), (1, .int (iI p)), (2, .int (iI k)), (3, .int (iI n))]) (by simp [lv_args, cat_rf, cat_i, cat_l, cat_r, cat_n]) ?_
  refine r_aload_nO dX4_wouldCost_0 rfl rfl ?_
  refine r_iload_n dX4_wouldCost_1 rfl rfl ?_
  refine e_callVP (z := MX4_placeAt) dX4_wouldCost_2 ml_X4_155 cz_X4_placeAt mk_X4_placeAt ms_X4_placeAt cb4 (by decide) (s_placeAt hp) rfl rfl (by simp [cat_rf, cat_i, cat_l, cat_r, cat_n]) (by decide) (by assumption) (lv1 _ 4 (fun _ => rfl)) (fun g hh => ?_)
  refine r_pc 5 rfl ?_
  refine r_astoreO dX4_wouldCost_5 (by decide) ?_
  refine r_aload_nO dX4_wouldCost_7 rfl rfl ?_
  refine r_iload_n dX4_wouldCost_8 rfl rfl ?_
  refine e_callVP (z := MX4_thingAt) dX4_wouldCost_9 ml_X4_69 cz_X4_thingAt mk_X4_thingAt ms_X4_thingAt cb4 (by decide) (s_thingAt hk hT) rfl rfl (by simp [cat_rf, cat_i, cat_l, cat_r, cat_n]) (by decide) (by assumption) (lv1 _ 4 (fun _ => rfl)) (fun g hh => ?_)
  refine r_pc 12 rfl ?_
  refine r_astoreO dX4_wouldCost_12 (by decide) ?_
  refine r_stw (by repeat' first | exact True.intro | refine And.intro (fun h => by first | rfl | exact cat_rf _ | exact absurd h (by decide)) ?_) ?_
  refine r_iload_n dX4_wouldCost_14 rfl rfl ?_
  refine e_callSV (z := MX4_needName) dX4_wouldCost_15 ml_X4_72 cz_X4_needName mk_X4_needName (s_needName hn) rfl rfl (by simp [cat_rf, cat_i, cat_l, cat_r, cat_n]) (by decide) (by assumption) (fun g hh => ?_)
  refine r_pc 18 rfl ?_
  refine r_aloadO dX4_wouldCost_18 rfl ?_
  refine r_aloadO dX4_wouldCost_20 rfl ?_
  refine r_iload_n dX4_wouldCost_22 rfl rfl ?_
  refine e_callSP (z := MX4_costAt) dX4_wouldCost_23 ml_X4_163 cz_X4_costAt mk_X4_costAt hq rfl rfl (by simp [cat_rf, cat_i, cat_l, cat_r, cat_n]) (by decide) (by assumption) (fun g hh => ?_)
  refine r_pc 26 rfl ?_
  exact q_iret dX4_wouldCost_26 rfl (by rfl) (by assumption)
theorem s_read {κ : KK} {A : Nat → Int → Nat} {σ : ST} {L : Int → List Int} {k n : Int} (hk : Lv σ 3 k) (hn : 0 ≤ n ∧ n < 12) (hT : WT σ) (hL : WL σ L) (hS : WS σ) (hP : WP σ) (hF' : WF σ) (hV : WV σ) : PU κ A MX4_read 3 σ [vr A 4 0, .int (iI k), .int (iI n)] (.int (iI (rdv σ (lo L k) 6 n))) := by
  intro g hh
  refine e_start rfl (by show (lg_sl _).length ≤ 4; simp [lg_sl, cat_rf, cat_i, cat_l, cat_r, cat_n]) (lv := [(0, vr A 4 0), (1, .int (iI k)), (2, .int (iI n))]) (by simp [lv_args, cat_rf, cat_i, cat_l, cat_r, cat_n]) ?_
  refine r_aload_nO dX4_read_0 rfl rfl ?_
  refine r_iload_n dX4_read_1 rfl rfl ?_
  refine e_callVP (z := MX4_thingAt) dX4_read_2 ml_X4_69 cz_X4_thingAt mk_X4_thingAt ms_X4_thingAt cb4 (by decide) (s_thingAt hk hT) rfl rfl (by simp [cat_rf, cat_i, cat_l, cat_r, cat_n]) (by decide) (by assumption) (lv1 _ 4 (fun _ => rfl)) (fun g hh => ?_)
  refine r_pc 5 rfl ?_
  refine r_astore_nO dX4_read_5 rfl (by decide) ?_
  refine r_iload_n dX4_read_6 rfl rfl ?_
  refine e_callSV (z := MX4_needName) dX4_read_7 ml_X4_72 cz_X4_needName mk_X4_needName (s_needName hn) rfl rfl (by simp [cat_rf, cat_i, cat_l, cat_r, cat_n]) (by decide) (by assumption) (fun g hh => ?_)
  refine r_pc 10 rfl ?_
  refine r_aload_nO dX4_read_10 rfl rfl ?_
  refine r_aload_nO dX4_read_11 rfl rfl ?_
  refine r_iload_n dX4_read_12 rfl rfl ?_
  refine e_callVP (z := MX4_valueOf) dX4_read_13 ml_X4_75 cz_X4_valueOf mk_X4_valueOf ms_X4_valueOf cb4 (by decide) (s_valueOf hk hn hT hL hF' hV) rfl rfl (by simp [cat_rf, cat_i, cat_l, cat_r, cat_n]) (by decide) (by assumption) (lv1 _ 4 (fun _ => rfl)) (fun g hh => ?_)
  refine r_pc 16 rfl ?_
  exact q_iret dX4_read_16 rfl (by rfl) (by assumption)
theorem s_ofPlace0 {κ : KK} {A : Nat → Int → Nat} {σ : ST} {p : Int} (hp : Lv σ 0 p) : PU κ A MX4_ofPlace 1 σ [vr A 4 0, .int (iI p), .int (iI 0)] (.int (iI (σ 0 p 0))) := by
  intro g hh
  refine e_start rfl (by show (lg_sl _).length ≤ 4; simp [lg_sl, cat_rf, cat_i, cat_l, cat_r, cat_n]) (lv := [(0, vr A 4 0), (1, .int (iI p)), (2, .int (iI 0))]) (by simp [lv_args, cat_rf, cat_i, cat_l, cat_r, cat_n]) ?_
  refine r_aload_nO dX4_ofPlace_0 rfl rfl ?_
  refine r_iload_n dX4_ofPlace_1 rfl rfl ?_
  refine e_callVP (z := MX4_placeAt) dX4_ofPlace_2 ml_X4_155 cz_X4_placeAt mk_X4_placeAt ms_X4_placeAt cb4 (by decide) (s_placeAt hp) rfl rfl (by simp [cat_rf, cat_i, cat_l, cat_r, cat_n]) (by decide) (by assumption) (lv1 _ 4 (fun _ => rfl)) (fun g hh => ?_)
  refine r_pc 5 rfl ?_
  refine r_astore_nO dX4_ofPlace_5 rfl (by decide) ?_
  refine r_iload_n dX4_ofPlace_6 rfl rfl ?_
  refine e_iconst dX4_ofPlace_7 ?_
  refine e_callSV (z := MX4_needWhat) dX4_ofPlace_8 ml_X4_178 cz_X4_needWhat mk_X4_needWhat (s_needWhat (by omega)) rfl rfl (by simp [cat_rf, cat_i, cat_l, cat_r, cat_n]) (by decide) (by assumption) (fun g hh => ?_)
  refine r_pc 11 rfl ?_
  refine r_aload_nO dX4_ofPlace_11 rfl rfl ?_
  refine r_iload_n dX4_ofPlace_12 rfl rfl ?_
  refine e_callVP (z := MX0_fact) dX4_ofPlace_13 ml_X4_182 cz_X0_fact mk_X0_fact ms_X0_fact cb0 (by decide) (s_fact0 hp) rfl rfl (by simp [cat_rf, cat_i, cat_l, cat_r, cat_n]) (by decide) (by assumption) (by assumption) (fun g hh => ?_)
  refine r_pc 16 rfl ?_
  exact q_iret dX4_ofPlace_16 rfl (by rfl) (by assumption)
theorem s_ofPlace2 {κ : KK} {A : Nat → Int → Nat} {σ : ST} {p : Int} (hp : Lv σ 0 p) : PU κ A MX4_ofPlace 1 σ [vr A 4 0, .int (iI p), .int (iI 2)] (.int (iI (σ 0 p 5))) := by
  intro g hh
  refine e_start rfl (by show (lg_sl _).length ≤ 4; simp [lg_sl, cat_rf, cat_i, cat_l, cat_r, cat_n]) (lv := [(0, vr A 4 0), (1, .int (iI p)), (2, .int (iI 2))]) (by simp [lv_args, cat_rf, cat_i, cat_l, cat_r, cat_n]) ?_
  refine r_aload_nO dX4_ofPlace_0 rfl rfl ?_
  refine r_iload_n dX4_ofPlace_1 rfl rfl ?_
  refine e_callVP (z := MX4_placeAt) dX4_ofPlace_2 ml_X4_155 cz_X4_placeAt mk_X4_placeAt ms_X4_placeAt cb4 (by decide) (s_placeAt hp) rfl rfl (by simp [cat_rf, cat_i, cat_l, cat_r, cat_n]) (by decide) (by assumption) (lv1 _ 4 (fun _ => rfl)) (fun g hh => ?_)
  refine r_pc 5 rfl ?_
  refine r_astore_nO dX4_ofPlace_5 rfl (by decide) ?_
  refine r_iload_n dX4_ofPlace_6 rfl rfl ?_
  refine e_iconst dX4_ofPlace_7 ?_
  refine e_callSV (z := MX4_needWhat) dX4_ofPlace_8 ml_X4_178 cz_X4_needWhat mk_X4_needWhat (s_needWhat (by omega)) rfl rfl (by simp [cat_rf, cat_i, cat_l, cat_r, cat_n]) (by decide) (by assumption) (fun g hh => ?_)
  refine r_pc 11 rfl ?_
  refine r_aload_nO dX4_ofPlace_11 rfl rfl ?_
  refine r_iload_n dX4_ofPlace_12 rfl rfl ?_
  refine e_callVP (z := MX0_fact) dX4_ofPlace_13 ml_X4_182 cz_X0_fact mk_X0_fact ms_X0_fact cb0 (by decide) (s_fact2 hp) rfl rfl (by simp [cat_rf, cat_i, cat_l, cat_r, cat_n]) (by decide) (by assumption) (by assumption) (fun g hh => ?_)
  refine r_pc 16 rfl ?_
  exact q_iret dX4_ofPlace_16 rfl (by rfl) (by assumption)
theorem s_ofPlace4 {κ : KK} {A : Nat → Int → Nat} {σ : ST} {p : Int} (hp : Lv σ 0 p) : PU κ A MX4_ofPlace 1 σ [vr A 4 0, .int (iI p), .int (iI 4)] (.int (iI (σ 0 p 7))) := by
  intro g hh
  refine e_start rfl (by show (lg_sl _).length ≤ 4; simp [lg_sl, cat_rf, cat_i, cat_l, cat_r, cat_n]) (lv := [(0, vr A 4 0), (1, .int (iI p)), (2, .int (iI 4))]) (by simp [lv_args, cat_rf, cat_i, cat_l, cat_r, cat_n]) ?_
  refine r_aload_nO dX4_ofPlace_0 rfl rfl ?_
  refine r_iload_n dX4_ofPlace_1 rfl rfl ?_
  refine e_callVP (z := MX4_placeAt) dX4_ofPlace_2 ml_X4_155 cz_X4_placeAt mk_X4_placeAt ms_X4_placeAt cb4 (by decide) (s_placeAt hp) rfl rfl (by simp [cat_rf, cat_i, cat_l, cat_r, cat_n]) (by decide) (by assumption) (lv1 _ 4 (fun _ => rfl)) (fun g hh => ?_)
  refine r_pc 5 rfl ?_
  refine r_astore_nO dX4_ofPlace_5 rfl (by decide) ?_
  refine r_iload_n dX4_ofPlace_6 rfl rfl ?_
  refine e_iconst dX4_ofPlace_7 ?_
  refine e_callSV (z := MX4_needWhat) dX4_ofPlace_8 ml_X4_178 cz_X4_needWhat mk_X4_needWhat (s_needWhat (by omega)) rfl rfl (by simp [cat_rf, cat_i, cat_l, cat_r, cat_n]) (by decide) (by assumption) (fun g hh => ?_)
  refine r_pc 11 rfl ?_
  refine r_aload_nO dX4_ofPlace_11 rfl rfl ?_
  refine r_iload_n dX4_ofPlace_12 rfl rfl ?_
  refine e_callVP (z := MX0_fact) dX4_ofPlace_13 ml_X4_182 cz_X0_fact mk_X0_fact ms_X0_fact cb0 (by decide) (s_fact4 hp) rfl rfl (by simp [cat_rf, cat_i, cat_l, cat_r, cat_n]) (by decide) (by assumption) (by assumption) (fun g hh => ?_)
  refine r_pc 16 rfl ?_
  exact q_iret dX4_ofPlace_16 rfl (by rfl) (by assumption)
theorem s_ofPlace5 {κ : KK} {A : Nat → Int → Nat} {σ : ST} {p : Int} (hp : Lv σ 0 p) : PU κ A MX4_ofPlace 1 σ [vr A 4 0, .int (iI p), .int (iI 5)] (.int (iI (σ 0 p 8))) := by
  intro g hh
  refine e_start rfl (by show (lg_sl _).length ≤ 4; simp [lg_sl, cat_rf, cat_i, cat_l, cat_r, cat_n]) (lv := [(0, vr A 4 0), (1, .int (iI p)), (2, .int (iI 5))]) (by simp [lv_args, cat_rf, cat_i, cat_l, cat_r, cat_n]) ?_
  refine r_aload_nO dX4_ofPlace_0 rfl rfl ?_
  refine r_iload_n dX4_ofPlace_1 rfl rfl ?_
  refine e_callVP (z := MX4_placeAt) dX4_ofPlace_2 ml_X4_155 cz_X4_placeAt mk_X4_placeAt ms_X4_placeAt cb4 (by decide) (s_placeAt hp) rfl rfl (by simp [cat_rf, cat_i, cat_l, cat_r, cat_n]) (by decide) (by assumption) (lv1 _ 4 (fun _ => rfl)) (fun g hh => ?_)
  refine r_pc 5 rfl ?_
  refine r_astore_nO dX4_ofPlace_5 rfl (by decide) ?_
  refine r_iload_n dX4_ofPlace_6 rfl rfl ?_
  refine e_iconst dX4_ofPlace_7 ?_
  refine e_callSV (z := MX4_needWhat) dX4_ofPlace_8 ml_X4_178 cz_X4_needWhat mk_X4_needWhat (s_needWhat (by omega)) rfl rfl (by simp [cat_rf, cat_i, cat_l, cat_r, cat_n]) (by decide) (by assumption) (fun g hh => ?_)
  refine r_pc 11 rfl ?_
  refine r_aload_nO dX4_ofPlace_11 rfl rfl ?_
  refine r_iload_n dX4_ofPlace_12 rfl rfl ?_
  refine e_callVP (z := MX0_fact) dX4_ofPlace_13 ml_X4_182 cz_X0_fact mk_X0_fact ms_X0_fact cb0 (by decide) (s_fact5 hp) rfl rfl (by simp [cat_rf, cat_i, cat_l, cat_r, cat_n]) (by decide) (by assumption) (by assumption) (fun g hh => ?_)
  refine r_pc 16 rfl ?_
  exact q_iret dX4_ofPlace_16 rfl (by rfl) (by assumption)
theorem s_entry0 {κ : KK} {A : Nat → Int → Nat} {σ : ST} {p e : Int} (hp : Lv σ 0 p) (hP : WP σ) (hS : WS σ) (he : 0 ≤ e ∧ e < σ 0 p 0) : PU κ A MX4_entry 1 σ [vr A 4 0, .int (iI p), .int (iI e), .int (iI 0)] (.int (iI (σ 11 p e))) := by
  intro g hh
  refine e_start rfl (by show (lg_sl _).length ≤ 5; simp [lg_sl, cat_rf, cat_i, cat_l, cat_r, cat_n]) (lv := [(0, vr A 4 0), (1, .int (iI p)), (2, .int (iI e)), (3, .int (iI 0))]) (by simp [lv_args, cat_rf, cat_i, cat_l, cat_r, cat_n]) ?_
  have hz := (hP p hp).1
  refine r_aload_nO dX4_entry_0 rfl rfl ?_
  refine r_iload_n dX4_entry_1 rfl rfl ?_
  refine e_callVP (z := MX4_placeAt) dX4_entry_2 ml_X4_155 cz_X4_placeAt mk_X4_placeAt ms_X4_placeAt cb4 (by decide) (s_placeAt hp) rfl rfl (by simp [cat_rf, cat_i, cat_l, cat_r, cat_n]) (by decide) (by assumption) (lv1 _ 4 (fun _ => rfl)) (fun g hh => ?_)
  refine r_pc 5 rfl ?_
  refine r_astoreO dX4_entry_5 (by decide) ?_
  refine r_iload_n dX4_entry_7 rfl rfl ?_
  refine e_if_lt 20 dX4_entry_8 (by decide) ⟨by omega, by omega⟩ (fun h8 => by exfalso; omega) (fun h8 => ?_)
  refine r_pc 11 rfl ?_
  refine r_iload_n dX4_entry_11 rfl rfl ?_
  refine r_aloadO dX4_entry_12 rfl ?_
  refine e_getI (t := 0) (k := 0) 0 dX4_entry_14 cb0 (by decide) mf_X4_186 (by rfl) rfl (by assumption) (by assumption) ?_
  refine e_ic_lt 30 dX4_entry_17 (by decide) ⟨by omega, by omega⟩ ⟨by omega, by omega⟩ (fun h17 => ?_) (fun h17 => by exfalso; omega)
  refine r_pc 30 rfl ?_
  refine r_iload_n dX4_entry_30 rfl rfl ?_
  refine e_iconst dX4_entry_31 ?_
  refine e_callSV (z := MX4_needWhat) dX4_entry_32 ml_X4_178 cz_X4_needWhat mk_X4_needWhat (s_needWhat (by omega)) rfl rfl (by simp [cat_rf, cat_i, cat_l, cat_r, cat_n]) (by decide) (by assumption) (fun g hh => ?_)
  refine r_pc 35 rfl ?_
  refine r_aloadO dX4_entry_35 rfl ?_
  refine r_iload_n dX4_entry_37 rfl rfl ?_
  refine r_iload_n dX4_entry_38 rfl rfl ?_
  refine e_callVP (z := MX0_entryFact) dX4_entry_39 ml_X4_192 cz_X0_entryFact mk_X0_entryFact ms_X0_entryFact cb0 (by decide) (s_eF0 hp hP hS he) rfl rfl (by simp [cat_rf, cat_i, cat_l, cat_r, cat_n]) (by decide) (by assumption) (by assumption) (fun g hh => ?_)
  refine r_pc 42 rfl ?_
  exact q_iret dX4_entry_42 rfl (by rfl) (by assumption)
theorem s_entry1 {κ : KK} {A : Nat → Int → Nat} {σ : ST} {p e : Int} (hp : Lv σ 0 p) (hP : WP σ) (hS : WS σ) (he : 0 ≤ e ∧ e < σ 0 p 0) : PU κ A MX4_entry 1 σ [vr A 4 0, .int (iI p), .int (iI e), .int (iI 1)] (.int (iI (σ 12 p e))) := by
  intro g hh
  refine e_start rfl (by show (lg_sl _).length ≤ 5; simp [lg_sl, cat_rf, cat_i, cat_l, cat_r, cat_n]) (lv := [(0, vr A 4 0), (1, .int (iI p)), (2, .int (iI e)), (3, .int (iI 1))]) (by simp [lv_args, cat_rf, cat_i, cat_l, cat_r, cat_n]) ?_
  have hz := (hP p hp).1
  refine r_aload_nO dX4_entry_0 rfl rfl ?_
  refine r_iload_n dX4_entry_1 rfl rfl ?_
  refine e_callVP (z := MX4_placeAt) dX4_entry_2 ml_X4_155 cz_X4_placeAt mk_X4_placeAt ms_X4_placeAt cb4 (by decide) (s_placeAt hp) rfl rfl (by simp [cat_rf, cat_i, cat_l, cat_r, cat_n]) (by decide) (by assumption) (lv1 _ 4 (fun _ => rfl)) (fun g hh => ?_)
  refine r_pc 5 rfl ?_
  refine r_astoreO dX4_entry_5 (by decide) ?_
  refine r_iload_n dX4_entry_7 rfl rfl ?_
  refine e_if_lt 20 dX4_entry_8 (by decide) ⟨by omega, by omega⟩ (fun h8 => by exfalso; omega) (fun h8 => ?_)
  refine r_pc 11 rfl ?_
  refine r_iload_n dX4_entry_11 rfl rfl ?_
  refine r_aloadO dX4_entry_12 rfl ?_
  refine e_getI (t := 0) (k := 0) 0 dX4_entry_14 cb0 (by decide) mf_X4_186 (by rfl) rfl (by assumption) (by assumption) ?_
  refine e_ic_lt 30 dX4_entry_17 (by decide) ⟨by omega, by omega⟩ ⟨by omega, by omega⟩ (fun h17 => ?_) (fun h17 => by exfalso; omega)
  refine r_pc 30 rfl ?_
  refine r_iload_n dX4_entry_30 rfl rfl ?_
  refine e_iconst dX4_entry_31 ?_
  refine e_callSV (z := MX4_needWhat) dX4_entry_32 ml_X4_178 cz_X4_needWhat mk_X4_needWhat (s_needWhat (by omega)) rfl rfl (by simp [cat_rf, cat_i, cat_l, cat_r, cat_n]) (by decide) (by assumption) (fun g hh => ?_)
  refine r_pc 35 rfl ?_
  refine r_aloadO dX4_entry_35 rfl ?_
  refine r_iload_n dX4_entry_37 rfl rfl ?_
  refine r_iload_n dX4_entry_38 rfl rfl ?_
  refine e_callVP (z := MX0_entryFact) dX4_entry_39 ml_X4_192 cz_X0_entryFact mk_X0_entryFact ms_X0_entryFact cb0 (by decide) (s_eF1 hp hP hS he) rfl rfl (by simp [cat_rf, cat_i, cat_l, cat_r, cat_n]) (by decide) (by assumption) (by assumption) (fun g hh => ?_)
  refine r_pc 42 rfl ?_
  exact q_iret dX4_entry_42 rfl (by rfl) (by assumption)
theorem s_entry2 {κ : KK} {A : Nat → Int → Nat} {σ : ST} {p e : Int} (hp : Lv σ 0 p) (hP : WP σ) (hS : WS σ) (he : 0 ≤ e ∧ e < σ 0 p 0) : PU κ A MX4_entry 1 σ [vr A 4 0, .int (iI p), .int (iI e), .int (iI 2)] (.int (iI (σ 13 p e))) := by
  intro g hh
  refine e_start rfl (by show (lg_sl _).length ≤ 5; simp [lg_sl, cat_rf, cat_i, cat_l, cat_r, cat_n]) (lv := [(0, vr A 4 0), (1, .int (iI p)), (2, .int (iI e)), (3, .int (iI 2))]) (by simp [lv_args, cat_rf, cat_i, cat_l, cat_r, cat_n]) ?_
  have hz := (hP p hp).1
  refine r_aload_nO dX4_entry_0 rfl rfl ?_
  refine r_iload_n dX4_entry_1 rfl rfl ?_
  refine e_callVP (z := MX4_placeAt) dX4_entry_2 ml_X4_155 cz_X4_placeAt mk_X4_placeAt ms_X4_placeAt cb4 (by decide) (s_placeAt hp) rfl rfl (by simp [cat_rf, cat_i, cat_l, cat_r, cat_n]) (by decide) (by assumption) (lv1 _ 4 (fun _ => rfl)) (fun g hh => ?_)
  refine r_pc 5 rfl ?_
  refine r_astoreO dX4_entry_5 (by decide) ?_
  refine r_iload_n dX4_entry_7 rfl rfl ?_
  refine e_if_lt 20 dX4_entry_8 (by decide) ⟨by omega, by omega⟩ (fun h8 => by exfalso; omega) (fun h8 => ?_)
  refine r_pc 11 rfl ?_
  refine r_iload_n dX4_entry_11 rfl rfl ?_
  refine r_aloadO dX4_entry_12 rfl ?_
  refine e_getI (t := 0) (k := 0) 0 dX4_entry_14 cb0 (by decide) mf_X4_186 (by rfl) rfl (by assumption) (by assumption) ?_
  refine e_ic_lt 30 dX4_entry_17 (by decide) ⟨by omega, by omega⟩ ⟨by omega, by omega⟩ (fun h17 => ?_) (fun h17 => by exfalso; omega)
  refine r_pc 30 rfl ?_
  refine r_iload_n dX4_entry_30 rfl rfl ?_
  refine e_iconst dX4_entry_31 ?_
  refine e_callSV (z := MX4_needWhat) dX4_entry_32 ml_X4_178 cz_X4_needWhat mk_X4_needWhat (s_needWhat (by omega)) rfl rfl (by simp [cat_rf, cat_i, cat_l, cat_r, cat_n]) (by decide) (by assumption) (fun g hh => ?_)
  refine r_pc 35 rfl ?_
  refine r_aloadO dX4_entry_35 rfl ?_
  refine r_iload_n dX4_entry_37 rfl rfl ?_
  refine r_iload_n dX4_entry_38 rfl rfl ?_
  refine e_callVP (z := MX0_entryFact) dX4_entry_39 ml_X4_192 cz_X0_entryFact mk_X0_entryFact ms_X0_entryFact cb0 (by decide) (s_eF2 hp hP hS he) rfl rfl (by simp [cat_rf, cat_i, cat_l, cat_r, cat_n]) (by decide) (by assumption) (by assumption) (fun g hh => ?_)
  refine r_pc 42 rfl ?_
  exact q_iret dX4_entry_42 rfl (by rfl) (by assumption)
theorem s_numberOf {κ : KK} {A : Nat → Int → Nat} {σ : ST} {q : Int} (hq : -1 ≤ q ∧ q < σ 99 3 0) (hT : WT σ) : PU κ A MX4_numberOf 0 σ [vr A 3 q] (.int (iI q)) := by
  intro g hh
  refine e_start rfl (by show (lg_sl _).length ≤ 1; simp [lg_sl, cat_rf, cat_i, cat_l, cat_r, cat_n]) (lv := [(0, vr A 3 q)]) (by simp [lv_args, cat_rf, cat_i, cat_l, cat_r, cat_n]) ?_
  refine r_aload_nO dX4_numberOf_0 rfl rfl ?_
  refine e_ifnonnull 8 dX4_numberOf_1 (by decide) (fun h1 => ?_) (fun h1 => ?_)
  · refine r_pc 8 rfl ?_
    have hqk : Lv σ 3 q := ⟨h1, hq.2⟩
    refine r_aload_nO dX4_numberOf_8 rfl rfl ?_
    refine e_getI (t := 3) (k := 0) 0 dX4_numberOf_9 cb3 (by decide) mf_X4_66 (by rfl) rfl (by assumption) (by assumption) ?_
    refine e_iv (hT.2.2 q hqk).2.1 ?_
    exact q_iret dX4_numberOf_12 rfl (by rfl) (by assumption)
  · refine r_pc 4 rfl ?_
    refine e_iconst dX4_numberOf_4 ?_
    refine r_goto 12 dX4_numberOf_5 (by decide) ?_
    exact q_iret dX4_numberOf_12 rfl (by omega) (by assumption)
theorem s_oF0 {κ : KK} {A : Nat → Int → Nat} {σ : ST} {k : Int} (hk : Lv σ 3 k) (hT : WT σ) : PU κ A MX4_objectFact 4 σ [vr A 4 0, vr A 3 k, .int (iI 0)] (.int (iI (σ 3 k 1))) := by
  intro g hh
  obtain ⟨ht1, ht2, ht3, ht4, ht5, ht6, ht7⟩ := hT.2.2 k hk
  refine e_start rfl (by show (lg_sl _).length ≤ 3; simp [lg_sl, cat_rf, cat_i, cat_l, cat_r, cat_n]) (lv := [(0, vr A 4 0), (1, vr A 3 k), (2, .int (iI 0))]) (by simp [lv_args, cat_rf, cat_i, cat_l, cat_r, cat_n]) ?_
  refine r_iload_n dX4_objectFact_0 rfl rfl ?_
  refine r_tblIn (off := 43) 44 dX4_objectFact_1 (by decide +kernel) (by decide +kernel) (by decide +kernel) (by decide) ?_
  refine r_aload_nO dX4_objectFact_44 rfl rfl ?_
  refine e_getR (t := 3) (k := 1) (t1 := 3) 1 dX4_objectFact_45 cb3 (by decide) mf_X4_129 (by rfl) (by rfl) (by decide) rfl (by assumption) (by assumption) ?_
  refine e_callSP (z := MX4_numberOf) dX4_objectFact_48 ml_X4_338 cz_X4_numberOf mk_X4_numberOf (s_numberOf ht3 hT) rfl rfl (by simp [cat_rf, cat_i, cat_l, cat_r, cat_n]) (by decide) (by assumption) (fun g hh => ?_)
  refine r_pc 51 rfl ?_
  exact q_iret dX4_objectFact_51 rfl (by rfl) (by assumption)
theorem s_ofObject0 {κ : KK} {A : Nat → Int → Nat} {σ : ST} {k : Int} (hk : Lv σ 3 k) (hT : WT σ) : PU κ A MX4_ofObject 5 σ [vr A 4 0, .int (iI k), .int (iI 0)] (.int (iI (σ 3 k 1))) := by
  intro g hh
  refine e_start rfl (by show (lg_sl _).length ≤ 4; simp [lg_sl, cat_rf, cat_i, cat_l, cat_r, cat_n]) (lv := [(0, vr A 4 0), (1, .int (iI k)), (2, .int (iI 0))]) (by simp [lv_args, cat_rf, cat_i, cat_l, cat_r, cat_n]) ?_
  refine r_aload_nO dX4_ofObject_0 rfl rfl ?_
  refine r_iload_n dX4_ofObject_1 rfl rfl ?_
  refine e_callVP (z := MX4_thingAt) dX4_ofObject_2 ml_X4_69 cz_X4_thingAt mk_X4_thingAt ms_X4_thingAt cb4 (by decide) (s_thingAt hk hT) rfl rfl (by simp [cat_rf, cat_i, cat_l, cat_r, cat_n]) (by decide) (by assumption) (lv1 _ 4 (fun _ => rfl)) (fun g hh => ?_)
  refine r_pc 5 rfl ?_
  refine r_astore_nO dX4_ofObject_5 rfl (by decide) ?_
  refine r_iload_n dX4_ofObject_6 rfl rfl ?_
  refine e_bipush dX4_ofObject_7 (by decide +kernel) ?_
  refine e_callSV (z := MX4_needWhat) dX4_ofObject_9 ml_X4_178 cz_X4_needWhat mk_X4_needWhat (s_needWhat (by omega)) rfl rfl (by simp [cat_rf, cat_i, cat_l, cat_r, cat_n]) (by decide) (by assumption) (fun g hh => ?_)
  refine r_pc 12 rfl ?_
  refine r_aload_nO dX4_ofObject_12 rfl rfl ?_
  refine r_aload_nO dX4_ofObject_13 rfl rfl ?_
  refine r_iload_n dX4_ofObject_14 rfl rfl ?_
  refine e_callVP (z := MX4_objectFact) dX4_ofObject_15 ml_X4_195 cz_X4_objectFact mk_X4_objectFact ms_X4_objectFact cb4 (by decide) (s_oF0 hk hT) rfl rfl (by simp [cat_rf, cat_i, cat_l, cat_r, cat_n]) (by decide) (by assumption) (lv1 _ 4 (fun _ => rfl)) (fun g hh => ?_)
  refine r_pc 18 rfl ?_
  exact q_iret dX4_ofObject_18 rfl (by rfl) (by assumption)
theorem s_oF1 {κ : KK} {A : Nat → Int → Nat} {σ : ST} {k : Int} (hk : Lv σ 3 k) (hT : WT σ) : PU κ A MX4_objectFact 4 σ [vr A 4 0, vr A 3 k, .int (iI 1)] (.int (iI (σ 3 k 5))) := by
  intro g hh
  obtain ⟨ht1, ht2, ht3, ht4, ht5, ht6, ht7⟩ := hT.2.2 k hk
  refine e_start rfl (by show (lg_sl _).length ≤ 3; simp [lg_sl, cat_rf, cat_i, cat_l, cat_r, cat_n]) (lv := [(0, vr A 4 0), (1, vr A 3 k), (2, .int (iI 1))]) (by simp [lv_args, cat_rf, cat_i, cat_l, cat_r, cat_n]) ?_
  refine r_iload_n dX4_objectFact_0 rfl rfl ?_
  refine r_tblIn (off := 51) 52 dX4_objectFact_1 (by decide +kernel) (by decide +kernel) (by decide +kernel) (by decide) ?_
  refine r_aload_nO dX4_objectFact_52 rfl rfl ?_
  refine e_getI (t := 3) (k := 5) 5 dX4_objectFact_53 cb3 (by decide) mf_X4_141 (by rfl) rfl (by assumption) (by assumption) ?_
  exact q_iret dX4_objectFact_56 rfl (by rfl) (by assumption)
theorem s_ofObject1 {κ : KK} {A : Nat → Int → Nat} {σ : ST} {k : Int} (hk : Lv σ 3 k) (hT : WT σ) : PU κ A MX4_ofObject 5 σ [vr A 4 0, .int (iI k), .int (iI 1)] (.int (iI (σ 3 k 5))) := by
  intro g hh
  refine e_start rfl (by show (lg_sl _).length ≤ 4; simp [lg_sl, cat_rf, cat_i, cat_l, cat_r, cat_n]) (lv := [(0, vr A 4 0), (1, .int (iI k)), (2, .int (iI 1))]) (by simp [lv_args, cat_rf, cat_i, cat_l, cat_r, cat_n]) ?_
  refine r_aload_nO dX4_ofObject_0 rfl rfl ?_
  refine r_iload_n dX4_ofObject_1 rfl rfl ?_
  refine e_callVP (z := MX4_thingAt) dX4_ofObject_2 ml_X4_69 cz_X4_thingAt mk_X4_thingAt ms_X4_thingAt cb4 (by decide) (s_thingAt hk hT) rfl rfl (by simp [cat_rf, cat_i, cat_l, cat_r, cat_n]) (by decide) (by assumption) (lv1 _ 4 (fun _ => rfl)) (fun g hh => ?_)
  refine r_pc 5 rfl ?_
  refine r_astore_nO dX4_ofObject_5 rfl (by decide) ?_
  refine r_iload_n dX4_ofObject_6 rfl rfl ?_
  refine e_bipush dX4_ofObject_7 (by decide +kernel) ?_
  refine e_callSV (z := MX4_needWhat) dX4_ofObject_9 ml_X4_178 cz_X4_needWhat mk_X4_needWhat (s_needWhat (by omega)) rfl rfl (by simp [cat_rf, cat_i, cat_l, cat_r, cat_n]) (by decide) (by assumption) (fun g hh => ?_)
  refine r_pc 12 rfl ?_
  refine r_aload_nO dX4_ofObject_12 rfl rfl ?_
  refine r_aload_nO dX4_ofObject_13 rfl rfl ?_
  refine r_iload_n dX4_ofObject_14 rfl rfl ?_
  refine e_callVP (z := MX4_objectFact) dX4_ofObject_15 ml_X4_195 cz_X4_objectFact mk_X4_objectFact ms_X4_objectFact cb4 (by decide) (s_oF1 hk hT) rfl rfl (by simp [cat_rf, cat_i, cat_l, cat_r, cat_n]) (by decide) (by assumption) (lv1 _ 4 (fun _ => rfl)) (fun g hh => ?_)
  refine r_pc 18 rfl ?_
  exact q_iret dX4_ofObject_18 rfl (by rfl) (by assumption)
theorem s_oF2 {κ : KK} {A : Nat → Int → Nat} {σ : ST} {k : Int} (hk : Lv σ 3 k) (hT : WT σ) (hS : WS σ) : PU κ A MX4_objectFact 4 σ [vr A 4 0, vr A 3 k, .int (iI 2)] (.int (iI (σ 3 k 2))) := by
  intro g hh
  obtain ⟨ht1, ht2, ht3, ht4, ht5, ht6, ht7⟩ := hT.2.2 k hk
  refine e_start rfl (by show (lg_sl _).length ≤ 3; simp [lg_sl, cat_rf, cat_i, cat_l, cat_r, cat_n]) (lv := [(0, vr A 4 0), (1, vr A 3 k), (2, .int (iI 2))]) (by simp [lv_args, cat_rf, cat_i, cat_l, cat_r, cat_n]) ?_
  refine r_iload_n dX4_objectFact_0 rfl rfl ?_
  refine r_tblIn (off := 56) 57 dX4_objectFact_1 (by decide +kernel) (by decide +kernel) (by decide +kernel) (by decide) ?_
  refine r_aload_nO dX4_objectFact_57 rfl rfl ?_
  refine e_getR (t := 3) (k := 2) (t1 := 1) 2 dX4_objectFact_58 cb3 (by decide) mf_X4_62 (by rfl) (by rfl) (by decide) rfl (by assumption) (by assumption) ?_
  refine e_ifnonnull 68 dX4_objectFact_61 (by decide) (fun h61 => ?_) (fun h61 => ?_)
  · refine r_pc 68 rfl ?_
    have hsk : Lv σ 1 (σ 3 k 2) := ⟨h61, ht4.2⟩
    refine r_aload_nO dX4_objectFact_68 rfl rfl ?_
    refine e_getR (t := 3) (k := 2) (t1 := 1) 2 dX4_objectFact_69 cb3 (by decide) mf_X4_62 (by rfl) (by rfl) (by decide) rfl (by assumption) (by assumption) ?_
    refine e_getI (t := 1) (k := 0) 0 dX4_objectFact_72 cb1 (by decide) mf_X4_341 (by rfl) rfl (by assumption) (by assumption) ?_
    refine e_iv (hS.2.2 _ hsk).2.1 ?_
    exact q_iret dX4_objectFact_75 rfl (by rfl) (by assumption)
  · refine r_pc 64 rfl ?_
    refine e_iconst dX4_objectFact_64 ?_
    refine r_goto 75 dX4_objectFact_65 (by decide) ?_
    exact q_iret dX4_objectFact_75 rfl (by omega) (by assumption)
theorem s_ofObject2 {κ : KK} {A : Nat → Int → Nat} {σ : ST} {k : Int} (hk : Lv σ 3 k) (hT : WT σ) (hS : WS σ) : PU κ A MX4_ofObject 5 σ [vr A 4 0, .int (iI k), .int (iI 2)] (.int (iI (σ 3 k 2))) := by
  intro g hh
  refine e_start rfl (by show (lg_sl _).length ≤ 4; simp [lg_sl, cat_rf, cat_i, cat_l, cat_r, cat_n]) (lv := [(0, vr A 4 0), (1, .int (iI k)), (2, .int (iI 2))]) (by simp [lv_args, cat_rf, cat_i, cat_l, cat_r, cat_n]) ?_
  refine r_aload_nO dX4_ofObject_0 rfl rfl ?_
  refine r_iload_n dX4_ofObject_1 rfl rfl ?_
  refine e_callVP (z := MX4_thingAt) dX4_ofObject_2 ml_X4_69 cz_X4_thingAt mk_X4_thingAt ms_X4_thingAt cb4 (by decide) (s_thingAt hk hT) rfl rfl (by simp [cat_rf, cat_i, cat_l, cat_r, cat_n]) (by decide) (by assumption) (lv1 _ 4 (fun _ => rfl)) (fun g hh => ?_)
  refine r_pc 5 rfl ?_
  refine r_astore_nO dX4_ofObject_5 rfl (by decide) ?_
  refine r_iload_n dX4_ofObject_6 rfl rfl ?_
  refine e_bipush dX4_ofObject_7 (by decide +kernel) ?_
  refine e_callSV (z := MX4_needWhat) dX4_ofObject_9 ml_X4_178 cz_X4_needWhat mk_X4_needWhat (s_needWhat (by omega)) rfl rfl (by simp [cat_rf, cat_i, cat_l, cat_r, cat_n]) (by decide) (by assumption) (fun g hh => ?_)
  refine r_pc 12 rfl ?_
  refine r_aload_nO dX4_ofObject_12 rfl rfl ?_
  refine r_aload_nO dX4_ofObject_13 rfl rfl ?_
  refine r_iload_n dX4_ofObject_14 rfl rfl ?_
  refine e_callVP (z := MX4_objectFact) dX4_ofObject_15 ml_X4_195 cz_X4_objectFact mk_X4_objectFact ms_X4_objectFact cb4 (by decide) (s_oF2 hk hT hS) rfl rfl (by simp [cat_rf, cat_i, cat_l, cat_r, cat_n]) (by decide) (by assumption) (lv1 _ 4 (fun _ => rfl)) (fun g hh => ?_)
  refine r_pc 18 rfl ?_
  exact q_iret dX4_ofObject_18 rfl (by rfl) (by assumption)
theorem s_oF3 {κ : KK} {A : Nat → Int → Nat} {σ : ST} {k : Int} (hk : Lv σ 3 k) (hT : WT σ) : PU κ A MX4_objectFact 4 σ [vr A 4 0, vr A 3 k, .int (iI 3)] (.int (iI (σ 3 k 3))) := by
  intro g hh
  obtain ⟨ht1, ht2, ht3, ht4, ht5, ht6, ht7⟩ := hT.2.2 k hk
  refine e_start rfl (by show (lg_sl _).length ≤ 3; simp [lg_sl, cat_rf, cat_i, cat_l, cat_r, cat_n]) (lv := [(0, vr A 4 0), (1, vr A 3 k), (2, .int (iI 3))]) (by simp [lv_args, cat_rf, cat_i, cat_l, cat_r, cat_n]) ?_
  refine r_iload_n dX4_objectFact_0 rfl rfl ?_
  refine r_tblIn (off := 75) 76 dX4_objectFact_1 (by decide +kernel) (by decide +kernel) (by decide +kernel) (by decide) ?_
  refine r_aload_nO dX4_objectFact_76 rfl rfl ?_
  refine e_getI (t := 3) (k := 3) 3 dX4_objectFact_77 cb3 (by decide) mf_X4_133 (by rfl) rfl (by assumption) (by assumption) ?_
  refine e_if_eq 87 dX4_objectFact_80 (by decide) ⟨by omega, by omega⟩ (fun h80 => ?_) (fun h80 => ?_)
  · refine r_pc 87 rfl ?_
    refine e_iconst dX4_objectFact_87 ?_
    exact q_iret dX4_objectFact_88 rfl (by omega) (by assumption)
  · refine r_pc 83 rfl ?_
    refine e_iconst dX4_objectFact_83 ?_
    refine r_goto 88 dX4_objectFact_84 (by decide) ?_
    exact q_iret dX4_objectFact_88 rfl (by omega) (by assumption)
theorem s_ofObject3 {κ : KK} {A : Nat → Int → Nat} {σ : ST} {k : Int} (hk : Lv σ 3 k) (hT : WT σ) : PU κ A MX4_ofObject 5 σ [vr A 4 0, .int (iI k), .int (iI 3)] (.int (iI (σ 3 k 3))) := by
  intro g hh
  refine e_start rfl (by show (lg_sl _).length ≤ 4; simp [lg_sl, cat_rf, cat_i, cat_l, cat_r, cat_n]) (lv := [(0, vr A 4 0), (1, .int (iI k)), (2, .int (iI 3))]) (by simp [lv_args, cat_rf, cat_i, cat_l, cat_r, cat_n]) ?_
  refine r_aload_nO dX4_ofObject_0 rfl rfl ?_
  refine r_iload_n dX4_ofObject_1 rfl rfl ?_
  refine e_callVP (z := MX4_thingAt) dX4_ofObject_2 ml_X4_69 cz_X4_thingAt mk_X4_thingAt ms_X4_thingAt cb4 (by decide) (s_thingAt hk hT) rfl rfl (by simp [cat_rf, cat_i, cat_l, cat_r, cat_n]) (by decide) (by assumption) (lv1 _ 4 (fun _ => rfl)) (fun g hh => ?_)
  refine r_pc 5 rfl ?_
  refine r_astore_nO dX4_ofObject_5 rfl (by decide) ?_
  refine r_iload_n dX4_ofObject_6 rfl rfl ?_
  refine e_bipush dX4_ofObject_7 (by decide +kernel) ?_
  refine e_callSV (z := MX4_needWhat) dX4_ofObject_9 ml_X4_178 cz_X4_needWhat mk_X4_needWhat (s_needWhat (by omega)) rfl rfl (by simp [cat_rf, cat_i, cat_l, cat_r, cat_n]) (by decide) (by assumption) (fun g hh => ?_)
  refine r_pc 12 rfl ?_
  refine r_aload_nO dX4_ofObject_12 rfl rfl ?_
  refine r_aload_nO dX4_ofObject_13 rfl rfl ?_
  refine r_iload_n dX4_ofObject_14 rfl rfl ?_
  refine e_callVP (z := MX4_objectFact) dX4_ofObject_15 ml_X4_195 cz_X4_objectFact mk_X4_objectFact ms_X4_objectFact cb4 (by decide) (s_oF3 hk hT) rfl rfl (by simp [cat_rf, cat_i, cat_l, cat_r, cat_n]) (by decide) (by assumption) (lv1 _ 4 (fun _ => rfl)) (fun g hh => ?_)
  refine r_pc 18 rfl ?_
  exact q_iret dX4_ofObject_18 rfl (by rfl) (by assumption)
theorem s_oF7 {κ : KK} {A : Nat → Int → Nat} {σ : ST} {k : Int} (hk : Lv σ 3 k) (hT : WT σ) (hF' : WF σ) : PU κ A MX4_objectFact 4 σ [vr A 4 0, vr A 3 k, .int (iI 7)] (.int (iI (wds σ k))) := by
  intro g hh
  obtain ⟨ht1, ht2, ht3, ht4, ht5, ht6, ht7⟩ := hT.2.2 k hk
  refine e_start rfl (by show (lg_sl _).length ≤ 3; simp [lg_sl, cat_rf, cat_i, cat_l, cat_r, cat_n]) (lv := [(0, vr A 4 0), (1, vr A 3 k), (2, .int (iI 7))]) (by simp [lv_args, cat_rf, cat_i, cat_l, cat_r, cat_n]) ?_
  refine r_iload_n dX4_objectFact_0 rfl rfl ?_
  refine r_tblOut 113 dX4_objectFact_1 (by decide +kernel) (by decide) ?_
  refine r_aload_nO dX4_objectFact_113 rfl rfl ?_
  refine e_callSP (z := MX4_wordsOf) dX4_objectFact_114 ml_X4_345 cz_X4_wordsOf mk_X4_wordsOf (s_wordsOf hk hF') rfl rfl (by simp [cat_rf, cat_i, cat_l, cat_r, cat_n]) (by decide) (by assumption) (fun g hh => ?_)
  refine r_pc 117 rfl ?_
  exact q_iret dX4_objectFact_117 rfl (by rfl) (by assumption)
theorem s_ofObject7 {κ : KK} {A : Nat → Int → Nat} {σ : ST} {k : Int} (hk : Lv σ 3 k) (hT : WT σ) (hF' : WF σ) : PU κ A MX4_ofObject 5 σ [vr A 4 0, .int (iI k), .int (iI 7)] (.int (iI (wds σ k))) := by
  intro g hh
  refine e_start rfl (by show (lg_sl _).length ≤ 4; simp [lg_sl, cat_rf, cat_i, cat_l, cat_r, cat_n]) (lv := [(0, vr A 4 0), (1, .int (iI k)), (2, .int (iI 7))]) (by simp [lv_args, cat_rf, cat_i, cat_l, cat_r, cat_n]) ?_
  refine r_aload_nO dX4_ofObject_0 rfl rfl ?_
  refine r_iload_n dX4_ofObject_1 rfl rfl ?_
  refine e_callVP (z := MX4_thingAt) dX4_ofObject_2 ml_X4_69 cz_X4_thingAt mk_X4_thingAt ms_X4_thingAt cb4 (by decide) (s_thingAt hk hT) rfl rfl (by simp [cat_rf, cat_i, cat_l, cat_r, cat_n]) (by decide) (by assumption) (lv1 _ 4 (fun _ => rfl)) (fun g hh => ?_)
  refine r_pc 5 rfl ?_
  refine r_astore_nO dX4_ofObject_5 rfl (by decide) ?_
  refine r_iload_n dX4_ofObject_6 rfl rfl ?_
  refine e_bipush dX4_ofObject_7 (by decide +kernel) ?_
  refine e_callSV (z := MX4_needWhat) dX4_ofObject_9 ml_X4_178 cz_X4_needWhat mk_X4_needWhat (s_needWhat (by omega)) rfl rfl (by simp [cat_rf, cat_i, cat_l, cat_r, cat_n]) (by decide) (by assumption) (fun g hh => ?_)
  refine r_pc 12 rfl ?_
  refine r_aload_nO dX4_ofObject_12 rfl rfl ?_
  refine r_aload_nO dX4_ofObject_13 rfl rfl ?_
  refine r_iload_n dX4_ofObject_14 rfl rfl ?_
  refine e_callVP (z := MX4_objectFact) dX4_ofObject_15 ml_X4_195 cz_X4_objectFact mk_X4_objectFact ms_X4_objectFact cb4 (by decide) (s_oF7 hk hT hF') rfl rfl (by simp [cat_rf, cat_i, cat_l, cat_r, cat_n]) (by decide) (by assumption) (lv1 _ 4 (fun _ => rfl)) (fun g hh => ?_)
  refine r_pc 18 rfl ?_
  exact q_iret dX4_ofObject_18 rfl (by rfl) (by assumption)
theorem s_sF0 {κ : KK} {A : Nat → Int → Nat} {σ : ST} {s : Int} (hs : Lv σ 1 s) (hT : WT σ) (hS : WS σ) : PU κ A MX4_shapeFact 2 σ [vr A 4 0, vr A 1 s, .int (iI 0)] (.int (iI (σ 1 s 1))) := by
  intro g hh
  obtain ⟨ht1, ht2, ht3, ht4, ht5, ht6, ht7⟩ := hS.2.2 s hs
  refine e_start rfl (by show (lg_sl _).length ≤ 3; simp [lg_sl, cat_rf, cat_i, cat_l, cat_r, cat_n]) (lv := [(0, vr A 4 0), (1, vr A 1 s), (2, .int (iI 0))]) (by simp [lv_args, cat_rf, cat_i, cat_l, cat_r, cat_n]) ?_
  refine r_iload_n dX4_shapeFact_0 rfl rfl ?_
  refine r_tblIn (off := 39) 40 dX4_shapeFact_1 (by decide +kernel) (by decide +kernel) (by decide +kernel) (by decide) ?_
  refine r_aload_nO dX4_shapeFact_40 rfl rfl ?_
  refine e_getR (t := 1) (k := 1) (t1 := 1) 1 dX4_shapeFact_41 cb1 (by decide) mf_X4_348 (by rfl) (by rfl) (by decide) rfl (by assumption) (by assumption) ?_
  refine e_ifnonnull 51 dX4_shapeFact_44 (by decide) (fun h44 => ?_) (fun h44 => ?_)
  · refine r_pc 51 rfl ?_
    have hsk : Lv σ 1 (σ 1 s 1) := ⟨h44, by have := hs.2; omega⟩
    refine r_aload_nO dX4_shapeFact_51 rfl rfl ?_
    refine e_getR (t := 1) (k := 1) (t1 := 1) 1 dX4_shapeFact_52 cb1 (by decide) mf_X4_348 (by rfl) (by rfl) (by decide) rfl (by assumption) (by assumption) ?_
    refine e_getI (t := 1) (k := 0) 0 dX4_shapeFact_55 cb1 (by decide) mf_X4_341 (by rfl) rfl (by assumption) (by assumption) ?_
    refine e_iv (hS.2.2 _ hsk).2.1 ?_
    exact q_iret dX4_shapeFact_58 rfl (by rfl) (by assumption)
  · refine r_pc 47 rfl ?_
    refine e_iconst dX4_shapeFact_47 ?_
    refine r_goto 58 dX4_shapeFact_48 (by decide) ?_
    exact q_iret dX4_shapeFact_58 rfl (by omega) (by assumption)
theorem s_ofShape0 {κ : KK} {A : Nat → Int → Nat} {σ : ST} {s : Int} (hs : Lv σ 1 s) (hT : WT σ) (hS : WS σ) : PU κ A MX4_ofShape 3 σ [vr A 4 0, .int (iI s), .int (iI 0)] (.int (iI (σ 1 s 1))) := by
  intro g hh
  refine e_start rfl (by show (lg_sl _).length ≤ 3; simp [lg_sl, cat_rf, cat_i, cat_l, cat_r, cat_n]) (lv := [(0, vr A 4 0), (1, .int (iI s)), (2, .int (iI 0))]) (by simp [lv_args, cat_rf, cat_i, cat_l, cat_r, cat_n]) ?_
  have hs1 := hS.1
  have hs2 := hS.2.1
  have hs3 : 0 ≤ s ∧ s < σ 99 1 0 := hs
  refine r_iload_n dX4_ofShape_0 rfl rfl ?_
  refine e_if_lt 15 dX4_ofShape_1 (by decide) ⟨by omega, by omega⟩ (fun h1 => by exfalso; omega) (fun h1 => ?_)
  refine r_pc 4 rfl ?_
  refine r_iload_n dX4_ofShape_4 rfl rfl ?_
  refine r_aload_nO dX4_ofShape_5 rfl rfl ?_
  refine e_getF (t := 4) (k := 2) (t1 := 2) dX4_ofShape_6 cb4 (by decide) mf_X4_18 (by rfl) (by rfl) (by decide) (by assumption) (lv1 _ 4 (fun _ => rfl)) ?_
  refine e_getI (t := 2) (k := 1) 1 dX4_ofShape_9 cb2 (by decide) mf_X4_206 (by rfl) rfl (by assumption) (lv1 _ 2 (fun _ => rfl)) ?_
  refine e_ic_lt 25 dX4_ofShape_12 (by decide) ⟨by omega, by omega⟩ ⟨by omega, by omega⟩ (fun h12 => ?_) (fun h12 => by exfalso; omega)
  refine r_pc 25 rfl ?_
  refine r_iload_n dX4_ofShape_25 rfl rfl ?_
  refine e_bipush dX4_ofShape_26 (by decide +kernel) ?_
  refine e_callSV (z := MX4_needWhat) dX4_ofShape_28 ml_X4_178 cz_X4_needWhat mk_X4_needWhat (s_needWhat (by omega)) rfl rfl (by simp [cat_rf, cat_i, cat_l, cat_r, cat_n]) (by decide) (by assumption) (fun g hh => ?_)
  refine r_pc 31 rfl ?_
  refine r_aload_nO dX4_ofShape_31 rfl rfl ?_
  refine r_aload_nO dX4_ofShape_32 rfl rfl ?_
  refine e_getF (t := 4) (k := 2) (t1 := 2) dX4_ofShape_33 cb4 (by decide) mf_X4_18 (by rfl) (by rfl) (by decide) (by assumption) (lv1 _ 4 (fun _ => rfl)) ?_
  refine e_getF (t := 2) (k := 0) (t1 := 10) dX4_ofShape_36 cb2 (by decide) mf_X4_209 (by rfl) (by rfl) (by decide) (by assumption) (lv1 _ 2 (fun _ => rfl)) ?_
  refine r_iload_n dX4_ofShape_39 rfl rfl ?_
  refine e_aald (t := 10) (t1 := 1) dX4_ofShape_40 (by decide) (by decide) (by decide) (by intro _; rfl) (by decide) (by assumption) (lv1 _ 10 (fun _ => rfl)) (by have e : ln 10 = 80 := rfl; omega) ?_
  refine e_rv (hS.2.2 s hs).1 ?_
  refine r_iload_n dX4_ofShape_41 rfl rfl ?_
  refine e_callVP (z := MX4_shapeFact) dX4_ofShape_42 ml_X4_213 cz_X4_shapeFact mk_X4_shapeFact ms_X4_shapeFact cb4 (by decide) (s_sF0 hs hT hS) rfl rfl (by simp [cat_rf, cat_i, cat_l, cat_r, cat_n]) (by decide) (by assumption) (lv1 _ 4 (fun _ => rfl)) (fun g hh => ?_)
  refine r_pc 45 rfl ?_
  exact q_iret dX4_ofShape_45 rfl (by rfl) (by assumption)
theorem s_sF1 {κ : KK} {A : Nat → Int → Nat} {σ : ST} {s : Int} (hs : Lv σ 1 s) (hT : WT σ) (hS : WS σ) : PU κ A MX4_shapeFact 2 σ [vr A 4 0, vr A 1 s, .int (iI 1)] (.int (iI (σ 1 s 2))) := by
  intro g hh
  obtain ⟨ht1, ht2, ht3, ht4, ht5, ht6, ht7⟩ := hS.2.2 s hs
  refine e_start rfl (by show (lg_sl _).length ≤ 3; simp [lg_sl, cat_rf, cat_i, cat_l, cat_r, cat_n]) (lv := [(0, vr A 4 0), (1, vr A 1 s), (2, .int (iI 1))]) (by simp [lv_args, cat_rf, cat_i, cat_l, cat_r, cat_n]) ?_
  refine r_iload_n dX4_shapeFact_0 rfl rfl ?_
  refine r_tblIn (off := 58) 59 dX4_shapeFact_1 (by decide +kernel) (by decide +kernel) (by decide +kernel) (by decide) ?_
  refine r_aload_nO dX4_shapeFact_59 rfl rfl ?_
  refine e_getR (t := 1) (k := 2) (t1 := 3) 2 dX4_shapeFact_60 cb1 (by decide) mf_X4_304 (by rfl) (by rfl) (by decide) rfl (by assumption) (by assumption) ?_
  refine e_callSP (z := MX4_numberOf) dX4_shapeFact_63 ml_X4_338 cz_X4_numberOf mk_X4_numberOf (s_numberOf ht4 hT) rfl rfl (by simp [cat_rf, cat_i, cat_l, cat_r, cat_n]) (by decide) (by assumption) (fun g hh => ?_)
  refine r_pc 66 rfl ?_
  exact q_iret dX4_shapeFact_66 rfl (by rfl) (by assumption)
theorem s_ofShape1 {κ : KK} {A : Nat → Int → Nat} {σ : ST} {s : Int} (hs : Lv σ 1 s) (hT : WT σ) (hS : WS σ) : PU κ A MX4_ofShape 3 σ [vr A 4 0, .int (iI s), .int (iI 1)] (.int (iI (σ 1 s 2))) := by
  intro g hh
  refine e_start rfl (by show (lg_sl _).length ≤ 3; simp [lg_sl, cat_rf, cat_i, cat_l, cat_r, cat_n]) (lv := [(0, vr A 4 0), (1, .int (iI s)), (2, .int (iI 1))]) (by simp [lv_args, cat_rf, cat_i, cat_l, cat_r, cat_n]) ?_
  have hs1 := hS.1
  have hs2 := hS.2.1
  have hs3 : 0 ≤ s ∧ s < σ 99 1 0 := hs
  refine r_iload_n dX4_ofShape_0 rfl rfl ?_
  refine e_if_lt 15 dX4_ofShape_1 (by decide) ⟨by omega, by omega⟩ (fun h1 => by exfalso; omega) (fun h1 => ?_)
  refine r_pc 4 rfl ?_
  refine r_iload_n dX4_ofShape_4 rfl rfl ?_
  refine r_aload_nO dX4_ofShape_5 rfl rfl ?_
  refine e_getF (t := 4) (k := 2) (t1 := 2) dX4_ofShape_6 cb4 (by decide) mf_X4_18 (by rfl) (by rfl) (by decide) (by assumption) (lv1 _ 4 (fun _ => rfl)) ?_
  refine e_getI (t := 2) (k := 1) 1 dX4_ofShape_9 cb2 (by decide) mf_X4_206 (by rfl) rfl (by assumption) (lv1 _ 2 (fun _ => rfl)) ?_
  refine e_ic_lt 25 dX4_ofShape_12 (by decide) ⟨by omega, by omega⟩ ⟨by omega, by omega⟩ (fun h12 => ?_) (fun h12 => by exfalso; omega)
  refine r_pc 25 rfl ?_
  refine r_iload_n dX4_ofShape_25 rfl rfl ?_
  refine e_bipush dX4_ofShape_26 (by decide +kernel) ?_
  refine e_callSV (z := MX4_needWhat) dX4_ofShape_28 ml_X4_178 cz_X4_needWhat mk_X4_needWhat (s_needWhat (by omega)) rfl rfl (by simp [cat_rf, cat_i, cat_l, cat_r, cat_n]) (by decide) (by assumption) (fun g hh => ?_)
  refine r_pc 31 rfl ?_
  refine r_aload_nO dX4_ofShape_31 rfl rfl ?_
  refine r_aload_nO dX4_ofShape_32 rfl rfl ?_
  refine e_getF (t := 4) (k := 2) (t1 := 2) dX4_ofShape_33 cb4 (by decide) mf_X4_18 (by rfl) (by rfl) (by decide) (by assumption) (lv1 _ 4 (fun _ => rfl)) ?_
  refine e_getF (t := 2) (k := 0) (t1 := 10) dX4_ofShape_36 cb2 (by decide) mf_X4_209 (by rfl) (by rfl) (by decide) (by assumption) (lv1 _ 2 (fun _ => rfl)) ?_
  refine r_iload_n dX4_ofShape_39 rfl rfl ?_
  refine e_aald (t := 10) (t1 := 1) dX4_ofShape_40 (by decide) (by decide) (by decide) (by intro _; rfl) (by decide) (by assumption) (lv1 _ 10 (fun _ => rfl)) (by have e : ln 10 = 80 := rfl; omega) ?_
  refine e_rv (hS.2.2 s hs).1 ?_
  refine r_iload_n dX4_ofShape_41 rfl rfl ?_
  refine e_callVP (z := MX4_shapeFact) dX4_ofShape_42 ml_X4_213 cz_X4_shapeFact mk_X4_shapeFact ms_X4_shapeFact cb4 (by decide) (s_sF1 hs hT hS) rfl rfl (by simp [cat_rf, cat_i, cat_l, cat_r, cat_n]) (by decide) (by assumption) (lv1 _ 4 (fun _ => rfl)) (fun g hh => ?_)
  refine r_pc 45 rfl ?_
  exact q_iret dX4_ofShape_45 rfl (by rfl) (by assumption)
theorem s_sF2 {κ : KK} {A : Nat → Int → Nat} {σ : ST} {s : Int} (hs : Lv σ 1 s) (hT : WT σ) (hS : WS σ) : PU κ A MX4_shapeFact 2 σ [vr A 4 0, vr A 1 s, .int (iI 2)] (.int (iI (σ 1 s 5))) := by
  intro g hh
  obtain ⟨ht1, ht2, ht3, ht4, ht5, ht6, ht7⟩ := hS.2.2 s hs
  refine e_start rfl (by show (lg_sl _).length ≤ 3; simp [lg_sl, cat_rf, cat_i, cat_l, cat_r, cat_n]) (lv := [(0, vr A 4 0), (1, vr A 1 s), (2, .int (iI 2))]) (by simp [lv_args, cat_rf, cat_i, cat_l, cat_r, cat_n]) ?_
  refine r_iload_n dX4_shapeFact_0 rfl rfl ?_
  refine r_tblIn (off := 66) 67 dX4_shapeFact_1 (by decide +kernel) (by decide +kernel) (by decide +kernel) (by decide) ?_
  refine r_aload_nO dX4_shapeFact_67 rfl rfl ?_
  refine e_getI (t := 1) (k := 5) 5 dX4_shapeFact_68 cb1 (by decide) mf_X4_351 (by rfl) rfl (by assumption) (by assumption) ?_
  exact q_iret dX4_shapeFact_71 rfl (by rfl) (by assumption)
theorem s_ofShape2 {κ : KK} {A : Nat → Int → Nat} {σ : ST} {s : Int} (hs : Lv σ 1 s) (hT : WT σ) (hS : WS σ) : PU κ A MX4_ofShape 3 σ [vr A 4 0, .int (iI s), .int (iI 2)] (.int (iI (σ 1 s 5))) := by
  intro g hh
  refine e_start rfl (by show (lg_sl _).length ≤ 3; simp [lg_sl, cat_rf, cat_i, cat_l, cat_r, cat_n]) (lv := [(0, vr A 4 0), (1, .int (iI s)), (2, .int (iI 2))]) (by simp [lv_args, cat_rf, cat_i, cat_l, cat_r, cat_n]) ?_
  have hs1 := hS.1
  have hs2 := hS.2.1
  have hs3 : 0 ≤ s ∧ s < σ 99 1 0 := hs
  refine r_iload_n dX4_ofShape_0 rfl rfl ?_
  refine e_if_lt 15 dX4_ofShape_1 (by decide) ⟨by omega, by omega⟩ (fun h1 => by exfalso; omega) (fun h1 => ?_)
  refine r_pc 4 rfl ?_
  refine r_iload_n dX4_ofShape_4 rfl rfl ?_
  refine r_aload_nO dX4_ofShape_5 rfl rfl ?_
  refine e_getF (t := 4) (k := 2) (t1 := 2) dX4_ofShape_6 cb4 (by decide) mf_X4_18 (by rfl) (by rfl) (by decide) (by assumption) (lv1 _ 4 (fun _ => rfl)) ?_
  refine e_getI (t := 2) (k := 1) 1 dX4_ofShape_9 cb2 (by decide) mf_X4_206 (by rfl) rfl (by assumption) (lv1 _ 2 (fun _ => rfl)) ?_
  refine e_ic_lt 25 dX4_ofShape_12 (by decide) ⟨by omega, by omega⟩ ⟨by omega, by omega⟩ (fun h12 => ?_) (fun h12 => by exfalso; omega)
  refine r_pc 25 rfl ?_
  refine r_iload_n dX4_ofShape_25 rfl rfl ?_
  refine e_bipush dX4_ofShape_26 (by decide +kernel) ?_
  refine e_callSV (z := MX4_needWhat) dX4_ofShape_28 ml_X4_178 cz_X4_needWhat mk_X4_needWhat (s_needWhat (by omega)) rfl rfl (by simp [cat_rf, cat_i, cat_l, cat_r, cat_n]) (by decide) (by assumption) (fun g hh => ?_)
  refine r_pc 31 rfl ?_
  refine r_aload_nO dX4_ofShape_31 rfl rfl ?_
  refine r_aload_nO dX4_ofShape_32 rfl rfl ?_
  refine e_getF (t := 4) (k := 2) (t1 := 2) dX4_ofShape_33 cb4 (by decide) mf_X4_18 (by rfl) (by rfl) (by decide) (by assumption) (lv1 _ 4 (fun _ => rfl)) ?_
  refine e_getF (t := 2) (k := 0) (t1 := 10) dX4_ofShape_36 cb2 (by decide) mf_X4_209 (by rfl) (by rfl) (by decide) (by assumption) (lv1 _ 2 (fun _ => rfl)) ?_
  refine r_iload_n dX4_ofShape_39 rfl rfl ?_
  refine e_aald (t := 10) (t1 := 1) dX4_ofShape_40 (by decide) (by decide) (by decide) (by intro _; rfl) (by decide) (by assumption) (lv1 _ 10 (fun _ => rfl)) (by have e : ln 10 = 80 := rfl; omega) ?_
  refine e_rv (hS.2.2 s hs).1 ?_
  refine r_iload_n dX4_ofShape_41 rfl rfl ?_
  refine e_callVP (z := MX4_shapeFact) dX4_ofShape_42 ml_X4_213 cz_X4_shapeFact mk_X4_shapeFact ms_X4_shapeFact cb4 (by decide) (s_sF2 hs hT hS) rfl rfl (by simp [cat_rf, cat_i, cat_l, cat_r, cat_n]) (by decide) (by assumption) (lv1 _ 4 (fun _ => rfl)) (fun g hh => ?_)
  refine r_pc 45 rfl ?_
  exact q_iret dX4_ofShape_45 rfl (by rfl) (by assumption)
theorem s_sF3 {κ : KK} {A : Nat → Int → Nat} {σ : ST} {s : Int} (hs : Lv σ 1 s) (hT : WT σ) (hS : WS σ) : PU κ A MX4_shapeFact 2 σ [vr A 4 0, vr A 1 s, .int (iI 3)] (.int (iI (σ 1 s 3))) := by
  intro g hh
  obtain ⟨ht1, ht2, ht3, ht4, ht5, ht6, ht7⟩ := hS.2.2 s hs
  refine e_start rfl (by show (lg_sl _).length ≤ 3; simp [lg_sl, cat_rf, cat_i, cat_l, cat_r, cat_n]) (lv := [(0, vr A 4 0), (1, vr A 1 s), (2, .int (iI 3))]) (by simp [lv_args, cat_rf, cat_i, cat_l, cat_r, cat_n]) ?_
  refine r_iload_n dX4_shapeFact_0 rfl rfl ?_
  refine r_tblIn (off := 71) 72 dX4_shapeFact_1 (by decide +kernel) (by decide +kernel) (by decide +kernel) (by decide) ?_
  refine r_aload_nO dX4_shapeFact_72 rfl rfl ?_
  refine e_getI (t := 1) (k := 3) 3 dX4_shapeFact_73 cb1 (by decide) mf_X4_352 (by rfl) rfl (by assumption) (by assumption) ?_
  exact q_iret dX4_shapeFact_76 rfl (by rfl) (by assumption)
theorem s_ofShape3 {κ : KK} {A : Nat → Int → Nat} {σ : ST} {s : Int} (hs : Lv σ 1 s) (hT : WT σ) (hS : WS σ) : PU κ A MX4_ofShape 3 σ [vr A 4 0, .int (iI s), .int (iI 3)] (.int (iI (σ 1 s 3))) := by
  intro g hh
  refine e_start rfl (by show (lg_sl _).length ≤ 3; simp [lg_sl, cat_rf, cat_i, cat_l, cat_r, cat_n]) (lv := [(0, vr A 4 0), (1, .int (iI s)), (2, .int (iI 3))]) (by simp [lv_args, cat_rf, cat_i, cat_l, cat_r, cat_n]) ?_
  have hs1 := hS.1
  have hs2 := hS.2.1
  have hs3 : 0 ≤ s ∧ s < σ 99 1 0 := hs
  refine r_iload_n dX4_ofShape_0 rfl rfl ?_
  refine e_if_lt 15 dX4_ofShape_1 (by decide) ⟨by omega, by omega⟩ (fun h1 => by exfalso; omega) (fun h1 => ?_)
  refine r_pc 4 rfl ?_
  refine r_iload_n dX4_ofShape_4 rfl rfl ?_
  refine r_aload_nO dX4_ofShape_5 rfl rfl ?_
  refine e_getF (t := 4) (k := 2) (t1 := 2) dX4_ofShape_6 cb4 (by decide) mf_X4_18 (by rfl) (by rfl) (by decide) (by assumption) (lv1 _ 4 (fun _ => rfl)) ?_
  refine e_getI (t := 2) (k := 1) 1 dX4_ofShape_9 cb2 (by decide) mf_X4_206 (by rfl) rfl (by assumption) (lv1 _ 2 (fun _ => rfl)) ?_
  refine e_ic_lt 25 dX4_ofShape_12 (by decide) ⟨by omega, by omega⟩ ⟨by omega, by omega⟩ (fun h12 => ?_) (fun h12 => by exfalso; omega)
  refine r_pc 25 rfl ?_
  refine r_iload_n dX4_ofShape_25 rfl rfl ?_
  refine e_bipush dX4_ofShape_26 (by decide +kernel) ?_
  refine e_callSV (z := MX4_needWhat) dX4_ofShape_28 ml_X4_178 cz_X4_needWhat mk_X4_needWhat (s_needWhat (by omega)) rfl rfl (by simp [cat_rf, cat_i, cat_l, cat_r, cat_n]) (by decide) (by assumption) (fun g hh => ?_)
  refine r_pc 31 rfl ?_
  refine r_aload_nO dX4_ofShape_31 rfl rfl ?_
  refine r_aload_nO dX4_ofShape_32 rfl rfl ?_
  refine e_getF (t := 4) (k := 2) (t1 := 2) dX4_ofShape_33 cb4 (by decide) mf_X4_18 (by rfl) (by rfl) (by decide) (by assumption) (lv1 _ 4 (fun _ => rfl)) ?_
  refine e_getF (t := 2) (k := 0) (t1 := 10) dX4_ofShape_36 cb2 (by decide) mf_X4_209 (by rfl) (by rfl) (by decide) (by assumption) (lv1 _ 2 (fun _ => rfl)) ?_
  refine r_iload_n dX4_ofShape_39 rfl rfl ?_
  refine e_aald (t := 10) (t1 := 1) dX4_ofShape_40 (by decide) (by decide) (by decide) (by intro _; rfl) (by decide) (by assumption) (lv1 _ 10 (fun _ => rfl)) (by have e : ln 10 = 80 := rfl; omega) ?_
  refine e_rv (hS.2.2 s hs).1 ?_
  refine r_iload_n dX4_ofShape_41 rfl rfl ?_
  refine e_callVP (z := MX4_shapeFact) dX4_ofShape_42 ml_X4_213 cz_X4_shapeFact mk_X4_shapeFact ms_X4_shapeFact cb4 (by decide) (s_sF3 hs hT hS) rfl rfl (by simp [cat_rf, cat_i, cat_l, cat_r, cat_n]) (by decide) (by assumption) (lv1 _ 4 (fun _ => rfl)) (fun g hh => ?_)
  refine r_pc 45 rfl ?_
  exact q_iret dX4_ofShape_45 rfl (by rfl) (by assumption)
theorem s_sF5 {κ : KK} {A : Nat → Int → Nat} {σ : ST} {s : Int} (hs : Lv σ 1 s) (hT : WT σ) (hS : WS σ) : PU κ A MX4_shapeFact 2 σ [vr A 4 0, vr A 1 s, .int (iI 5)] (.int (iI (cS σ s))) := by
  intro g hh
  obtain ⟨ht1, ht2, ht3, ht4, ht5, ht6, ht7⟩ := hS.2.2 s hs
  refine e_start rfl (by show (lg_sl _).length ≤ 3; simp [lg_sl, cat_rf, cat_i, cat_l, cat_r, cat_n]) (lv := [(0, vr A 4 0), (1, vr A 1 s), (2, .int (iI 5))]) (by simp [lv_args, cat_rf, cat_i, cat_l, cat_r, cat_n]) ?_
  refine r_iload_n dX4_shapeFact_0 rfl rfl ?_
  refine r_tblIn (off := 85) 86 dX4_shapeFact_1 (by decide +kernel) (by decide +kernel) (by decide +kernel) (by decide) ?_
  refine r_aload_nO dX4_shapeFact_86 rfl rfl ?_
  refine r_aload_nO dX4_shapeFact_87 rfl rfl ?_
  refine e_callVP (z := MX4_thingsWith) dX4_shapeFact_88 ml_X4_359 cz_X4_thingsWith mk_X4_thingsWith ms_X4_thingsWith cb4 (by decide) (s_thingsWith ⟨by have := hs.1; omega, hs.2⟩ hT) rfl rfl (by simp [cat_rf, cat_i, cat_l, cat_r, cat_n]) (by decide) (by assumption) (lv1 _ 4 (fun _ => rfl)) (fun g hh => ?_)
  refine r_pc 91 rfl ?_
  exact q_iret dX4_shapeFact_91 rfl (by rfl) (by assumption)
theorem s_ofShape5 {κ : KK} {A : Nat → Int → Nat} {σ : ST} {s : Int} (hs : Lv σ 1 s) (hT : WT σ) (hS : WS σ) : PU κ A MX4_ofShape 3 σ [vr A 4 0, .int (iI s), .int (iI 5)] (.int (iI (cS σ s))) := by
  intro g hh
  refine e_start rfl (by show (lg_sl _).length ≤ 3; simp [lg_sl, cat_rf, cat_i, cat_l, cat_r, cat_n]) (lv := [(0, vr A 4 0), (1, .int (iI s)), (2, .int (iI 5))]) (by simp [lv_args, cat_rf, cat_i, cat_l, cat_r, cat_n]) ?_
  have hs1 := hS.1
  have hs2 := hS.2.1
  have hs3 : 0 ≤ s ∧ s < σ 99 1 0 := hs
  refine r_iload_n dX4_ofShape_0 rfl rfl ?_
  refine e_if_lt 15 dX4_ofShape_1 (by decide) ⟨by omega, by omega⟩ (fun h1 => by exfalso; omega) (fun h1 => ?_)
  refine r_pc 4 rfl ?_
  refine r_iload_n dX4_ofShape_4 rfl rfl ?_
  refine r_aload_nO dX4_ofShape_5 rfl rfl ?_
  refine e_getF (t := 4) (k := 2) (t1 := 2) dX4_ofShape_6 cb4 (by decide) mf_X4_18 (by rfl) (by rfl) (by decide) (by assumption) (lv1 _ 4 (fun _ => rfl)) ?_
  refine e_getI (t := 2) (k := 1) 1 dX4_ofShape_9 cb2 (by decide) mf_X4_206 (by rfl) rfl (by assumption) (lv1 _ 2 (fun _ => rfl)) ?_
  refine e_ic_lt 25 dX4_ofShape_12 (by decide) ⟨by omega, by omega⟩ ⟨by omega, by omega⟩ (fun h12 => ?_) (fun h12 => by exfalso; omega)
  refine r_pc 25 rfl ?_
  refine r_iload_n dX4_ofShape_25 rfl rfl ?_
  refine e_bipush dX4_ofShape_26 (by decide +kernel) ?_
  refine e_callSV (z := MX4_needWhat) dX4_ofShape_28 ml_X4_178 cz_X4_needWhat mk_X4_needWhat (s_needWhat (by omega)) rfl rfl (by simp [cat_rf, cat_i, cat_l, cat_r, cat_n]) (by decide) (by assumption) (fun g hh => ?_)
  refine r_pc 31 rfl ?_
  refine r_aload_nO dX4_ofShape_31 rfl rfl ?_
  refine r_aload_nO dX4_ofShape_32 rfl rfl ?_
  refine e_getF (t := 4) (k := 2) (t1 := 2) dX4_ofShape_33 cb4 (by decide) mf_X4_18 (by rfl) (by rfl) (by decide) (by assumption) (lv1 _ 4 (fun _ => rfl)) ?_
  refine e_getF (t := 2) (k := 0) (t1 := 10) dX4_ofShape_36 cb2 (by decide) mf_X4_209 (by rfl) (by rfl) (by decide) (by assumption) (lv1 _ 2 (fun _ => rfl)) ?_
  refine r_iload_n dX4_ofShape_39 rfl rfl ?_
  refine e_aald (t := 10) (t1 := 1) dX4_ofShape_40 (by decide) (by decide) (by decide) (by intro _; rfl) (by decide) (by assumption) (lv1 _ 10 (fun _ => rfl)) (by have e : ln 10 = 80 := rfl; omega) ?_
  refine e_rv (hS.2.2 s hs).1 ?_
  refine r_iload_n dX4_ofShape_41 rfl rfl ?_
  refine e_callVP (z := MX4_shapeFact) dX4_ofShape_42 ml_X4_213 cz_X4_shapeFact mk_X4_shapeFact ms_X4_shapeFact cb4 (by decide) (s_sF5 hs hT hS) rfl rfl (by simp [cat_rf, cat_i, cat_l, cat_r, cat_n]) (by decide) (by assumption) (lv1 _ 4 (fun _ => rfl)) (fun g hh => ?_)
  refine r_pc 45 rfl ?_
  exact q_iret dX4_ofShape_45 rfl (by rfl) (by assumption)
theorem s_ofField0 {κ : KK} {A : Nat → Int → Nat} {σ : ST} {k n : Int} (hk : Lv σ 3 k) (hn : 0 ≤ n ∧ n < 12) (hT : WT σ) (hF' : WF σ) : PU κ A MX4_ofField 3 σ [vr A 4 0, .int (iI k), .int (iI n), .int (iI 0)] (.int (iI (bI (¬ σ 15 k n = 0) + bI (isPr (σ 15 k n))))) := by
  intro g hh
  refine e_start rfl (by show (lg_sl _).length ≤ 5; simp [lg_sl, cat_rf, cat_i, cat_l, cat_r, cat_n]) (lv := [(0, vr A 4 0), (1, .int (iI k)), (2, .int (iI n)), (3, .int (iI 0))]) (by simp [lv_args, cat_rf, cat_i, cat_l, cat_r, cat_n]) ?_
  refine r_aload_nO dX4_ofField_0 rfl rfl ?_
  refine r_iload_n dX4_ofField_1 rfl rfl ?_
  refine e_callVP (z := MX4_thingAt) dX4_ofField_2 ml_X4_69 cz_X4_thingAt mk_X4_thingAt ms_X4_thingAt cb4 (by decide) (s_thingAt hk hT) rfl rfl (by simp [cat_rf, cat_i, cat_l, cat_r, cat_n]) (by decide) (by assumption) (lv1 _ 4 (fun _ => rfl)) (fun g hh => ?_)
  refine r_pc 5 rfl ?_
  refine r_astoreO dX4_ofField_5 (by decide) ?_
  refine r_iload_n dX4_ofField_7 rfl rfl ?_
  refine e_callSV (z := MX4_needName) dX4_ofField_8 ml_X4_72 cz_X4_needName mk_X4_needName (s_needName hn) rfl rfl (by simp [cat_rf, cat_i, cat_l, cat_r, cat_n]) (by decide) (by assumption) (fun g hh => ?_)
  refine r_pc 11 rfl ?_
  refine r_iload_n dX4_ofField_11 rfl rfl ?_
  refine e_bipush dX4_ofField_12 (by decide +kernel) ?_
  refine e_callSV (z := MX4_needWhat) dX4_ofField_14 ml_X4_178 cz_X4_needWhat mk_X4_needWhat (s_needWhat (by omega)) rfl rfl (by simp [cat_rf, cat_i, cat_l, cat_r, cat_n]) (by decide) (by assumption) (fun g hh => ?_)
  refine r_pc 17 rfl ?_
  refine r_aloadO dX4_ofField_17 rfl ?_
  refine r_iload_n dX4_ofField_19 rfl rfl ?_
  refine r_iload_n dX4_ofField_20 rfl rfl ?_
  refine e_callVP (z := MX3_fieldFact) dX4_ofField_21 ml_X4_198 cz_X3_fieldFact mk_X3_fieldFact ms_X3_fieldFact cb3 (by decide) (s_fF0 hk hn ((hF' k hk).2.1 n hn).1) rfl rfl (by simp [cat_rf, cat_i, cat_l, cat_r, cat_n]) (by decide) (by assumption) (by assumption) (fun g hh => ?_)
  refine r_pc 24 rfl ?_
  exact q_iret dX4_ofField_24 rfl (by rfl) (by assumption)
