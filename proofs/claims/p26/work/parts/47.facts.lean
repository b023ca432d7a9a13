theorem s_childrenOf {κ : KK} {A : Nat → Int → Nat} {σ : ST} {k : Int} (hk : Lv σ 3 k) (hT : WT σ) : ∃ v : Int, True ∧ PU κ A MX4_childrenOf 0 σ [vr A 4 0, vr A 3 k] (.int (iI v)) := by
  have hn1 := hT.1
  have hn2 := hT.2.1
  have hk2 : -1 ≤ k ∧ k < σ 99 3 0 := ⟨by have := hk.1; omega, hk.2⟩
  have loop : ∀ m : Nat, ∀ j : Int, ∀ c : Int, 0 ≤ j → j + (m : Int) = σ 99 3 0 → ∃ v : Int, True ∧ ∀ g, HR κ A g σ → Wp κ MX4_childrenOf 0 0 0 4 [(0, vr A 4 0), (1, vr A 3 k), (2, .int (iI c)), (3, .int (iI j))] [] g (PQ κ A σ (some (.int (iI v)))) := by
    intro m
    induction m with
    | zero =>
      intro j c hj0 hjm
      refine ⟨c, trivial, fun g hh => ?_⟩
      refine r_iload_n dX4_childrenOf_4 rfl rfl ?_
      refine r_aload_nO dX4_childrenOf_5 rfl rfl ?_
      refine e_getI (t := 4) (k := 1) 1 dX4_childrenOf_6 cb4 (by decide) mf_X4_40 (by rfl) rfl (by assumption) (lv1 _ 4 (fun _ => rfl)) ?_
      refine e_ic_ge 34 dX4_childrenOf_9 (by decide) ⟨by omega, by omega⟩ ⟨by omega, by omega⟩ (fun h9 => ?_) (fun h9 => by exfalso; omega)
      refine r_pc 34 rfl ?_
      refine r_iload_n dX4_childrenOf_34 rfl rfl ?_
      exact q_iret dX4_childrenOf_35 rfl (by rfl) (by assumption)
    | succ m ih =>
      intro j c hj0 hjm
      have hjk : Lv σ 3 j := ⟨hj0, by show j < σ 99 3 0; omega⟩
      have hjp := (hT.2.2 j hjk).2.2.1
      by_cases hc : σ 3 j 1 = k
      · obtain ⟨v, hv, hq⟩ := ih (j + 1) (c + 1) (by omega) (by omega)
        refine ⟨v, hv, fun g hh => ?_⟩
        refine r_iload_n dX4_childrenOf_4 rfl rfl ?_
        refine r_aload_nO dX4_childrenOf_5 rfl rfl ?_
        refine e_getI (t := 4) (k := 1) 1 dX4_childrenOf_6 cb4 (by decide) mf_X4_40 (by rfl) rfl (by assumption) (lv1 _ 4 (fun _ => rfl)) ?_
        refine e_ic_ge 34 dX4_childrenOf_9 (by decide) ⟨by omega, by omega⟩ ⟨by omega, by omega⟩ (fun h9 => by exfalso; omega) (fun h9 => ?_)
        refine r_pc 12 rfl ?_
        refine r_aload_nO dX4_childrenOf_12 rfl rfl ?_
        refine e_getF (t := 4) (k := 0) (t1 := 6) dX4_childrenOf_13 cb4 (by decide) mf_X4_11 (by rfl) (by rfl) (by decide) (by assumption) (lv1 _ 4 (fun _ => rfl)) ?_
        refine r_iload_n dX4_childrenOf_16 rfl rfl ?_
        refine e_aald (t := 6) (t1 := 3) dX4_childrenOf_17 (by decide) (by decide) (by decide) (by intro _; rfl) (by decide) (by assumption) (lv1 _ 6 (fun _ => rfl)) (by have e : ln 6 = 24 := rfl; omega) ?_
        refine e_rv (hT.2.2 j hjk).1 ?_
        refine e_getR (t := 3) (k := 1) (t1 := 3) 1 dX4_childrenOf_18 cb3 (by decide) mf_X4_129 (by rfl) (by rfl) (by decide) rfl (by assumption) (by assumption) ?_
        refine r_aload_nO dX4_childrenOf_21 rfl rfl ?_
        refine e_ac_ne (t := 3) 28 dX4_childrenOf_22 (by decide) (by assumption) (by decide) hjp hk2 (fun h22 => by exact absurd hc h22) (fun h22 => ?_)
        refine r_pc 25 rfl ?_
        refine e_iinc dX4_childrenOf_25 rfl (by decide) ?_
        refine r_stw (by repeat' first | exact True.intro | refine And.intro (fun h => by first | rfl | exact cat_rf _ | exact absurd h (by decide)) ?_) ?_
        refine e_iinc dX4_childrenOf_28 rfl (by decide) ?_
        refine r_goto 4 dX4_childrenOf_31 (by decide) ?_
        refine r_lv [(0, vr A 4 0), (1, vr A 3 k), (2, .int (iI (c + 1))), (3, .int (iI (j + 1)))] rfl ?_
        exact hq g hh
      · obtain ⟨v, hv, hq⟩ := ih (j + 1) c (by omega) (by omega)
        refine ⟨v, hv, fun g hh => ?_⟩
        refine r_iload_n dX4_childrenOf_4 rfl rfl ?_
        refine r_aload_nO dX4_childrenOf_5 rfl rfl ?_
        refine e_getI (t := 4) (k := 1) 1 dX4_childrenOf_6 cb4 (by decide) mf_X4_40 (by rfl) rfl (by assumption) (lv1 _ 4 (fun _ => rfl)) ?_
        refine e_ic_ge 34 dX4_childrenOf_9 (by decide) ⟨by omega, by omega⟩ ⟨by omega, by omega⟩ (fun h9 => by exfalso; omega) (fun h9 => ?_)
        refine r_pc 12 rfl ?_
        refine r_aload_nO dX4_childrenOf_12 rfl rfl ?_
        refine e_getF (t := 4) (k := 0) (t1 := 6) dX4_childrenOf_13 cb4 (by decide) mf_X4_11 (by rfl) (by rfl) (by decide) (by assumption) (lv1 _ 4 (fun _ => rfl)) ?_
        refine r_iload_n dX4_childrenOf_16 rfl rfl ?_
        refine e_aald (t := 6) (t1 := 3) dX4_childrenOf_17 (by decide) (by decide) (by decide) (by intro _; rfl) (by decide) (by assumption) (lv1 _ 6 (fun _ => rfl)) (by have e : ln 6 = 24 := rfl; omega) ?_
        refine e_rv (hT.2.2 j hjk).1 ?_
        refine e_getR (t := 3) (k := 1) (t1 := 3) 1 dX4_childrenOf_18 cb3 (by decide) mf_X4_129 (by rfl) (by rfl) (by decide) rfl (by assumption) (by assumption) ?_
        refine r_aload_nO dX4_childrenOf_21 rfl rfl ?_
        refine e_ac_ne (t := 3) 28 dX4_childrenOf_22 (by decide) (by assumption) (by decide) hjp hk2 (fun h22 => ?_) (fun h22 => by exact absurd h22 hc)
        refine r_pc 28 rfl ?_
        refine e_iinc dX4_childrenOf_28 rfl (by decide) ?_
        refine r_goto 4 dX4_childrenOf_31 (by decide) ?_
        refine r_lv [(0, vr A 4 0), (1, vr A 3 k), (2, .int (iI c)), (3, .int (iI (j + 1)))] rfl ?_
        exact hq g hh
  obtain ⟨v, hv, hq⟩ := loop (σ 99 3 0).toNat 0 0 (by omega) (by omega)
  refine ⟨v, hv, ?_⟩
  intro g hh
  refine e_start rfl (by show (lg_sl _).length ≤ 4; simp [lg_sl, cat_rf, cat_i, cat_l, cat_r, cat_n]) (lv := [(0, vr A 4 0), (1, vr A 3 k)]) (by simp [lv_args, cat_rf, cat_i, cat_l, cat_r, cat_n]) ?_
  refine e_iconst dX4_childrenOf_0 ?_
  refine r_istore_n dX4_childrenOf_1 rfl (by decide) ?_
  refine r_stw (by repeat' first | exact True.intro | refine And.intro (fun h => by first | rfl | exact cat_rf _ | exact absurd h (by decide)) ?_) ?_
  refine e_iconst dX4_childrenOf_2 ?_
  refine r_istore_n dX4_childrenOf_3 rfl (by decide) ?_
  refine r_lv [(0, vr A 4 0), (1, vr A 3 k), (2, .int (iI 0)), (3, .int (iI 0))] rfl ?_
  exact hq g hh
theorem s_entriesOf {κ : KK} {A : Nat → Int → Nat} {σ : ST} {s : Int} (hs : -1 ≤ s ∧ s < cnt σ 1) (hP : WP σ) : ∃ v : Int, True ∧ PU κ A MX4_entriesOf 1 σ [vr A 4 0, vr A 1 s] (.int (iI v)) := by
  have loop : ∀ m : Nat, ∀ j : Int, ∀ c : Int, 0 ≤ j → j + (m : Int) = 6 → ∃ v : Int, True ∧ ∀ g, HR κ A g σ → Wp κ MX4_entriesOf 1 0 0 4 [(0, vr A 4 0), (1, vr A 1 s), (2, .int (iI c)), (3, .int (iI j))] [] g (PQ κ A σ (some (.int (iI v)))) := by
    intro m
    induction m with
    | zero =>
      intro j c hj0 hjm
      refine ⟨c, trivial, fun g hh => ?_⟩
      refine r_iload_n dX4_entriesOf_4 rfl rfl ?_
      refine e_bipush dX4_entriesOf_5 (by decide +kernel) ?_
      refine e_ic_ge 29 dX4_entriesOf_7 (by decide) ⟨by omega, by omega⟩ ⟨by omega, by omega⟩ (fun h7 => ?_) (fun h7 => by exfalso; omega)
      refine r_pc 29 rfl ?_
      refine r_iload_n dX4_entriesOf_29 rfl rfl ?_
      exact q_iret dX4_entriesOf_30 rfl (by rfl) (by assumption)
    | succ m ih =>
      intro j c hj0 hjm
      have hjp : Lv σ 0 j := ⟨hj0, by show j < 6; omega⟩
      obtain ⟨u, -, hu⟩ := s_countOf (κ := κ) (A := A) hjp hP hs
      obtain ⟨v, hv, hq⟩ := ih (j + 1) (c + u) (by omega) (by omega)
      refine ⟨v, hv, fun g hh => ?_⟩
      refine r_iload_n dX4_entriesOf_4 rfl rfl ?_
      refine e_bipush dX4_entriesOf_5 (by decide +kernel) ?_
      refine e_ic_ge 29 dX4_entriesOf_7 (by decide) ⟨by omega, by omega⟩ ⟨by omega, by omega⟩ (fun h7 => by exfalso; omega) (fun h7 => ?_)
      refine r_pc 10 rfl ?_
      refine r_iload_n dX4_entriesOf_10 rfl rfl ?_
      refine r_aload_nO dX4_entriesOf_11 rfl rfl ?_
      refine e_getF (t := 4) (k := 3) (t1 := 7) dX4_entriesOf_12 cb4 (by decide) mf_X4_24 (by rfl) (by rfl) (by decide) (by assumption) (lv1 _ 4 (fun _ => rfl)) ?_
      refine r_iload_n dX4_entriesOf_15 rfl rfl ?_
      refine e_aald7 dX4_entriesOf_16 (by assumption) (by have e : ln 7 = 6 := rfl; omega) ?_
      refine r_aload_nO dX4_entriesOf_17 rfl rfl ?_
      refine e_callVP (z := MX0_countOf) dX4_entriesOf_18 ml_X4_365 cz_X0_countOf mk_X0_countOf ms_X0_countOf cb0 (by decide) hu rfl rfl (by simp [cat_rf, cat_i, cat_l, cat_r, cat_n]) (by decide) (by assumption) (by assumption) (fun g hh => ?_)
      refine r_pc 21 rfl ?_
      first | refine e_iadd dX4_entriesOf_21 ?_ | refine r_iadd dX4_entriesOf_21 ?_
      refine r_istore_n dX4_entriesOf_22 rfl (by decide) ?_
      refine r_stw (by repeat' first | exact True.intro | refine And.intro (fun h => by first | rfl | exact cat_rf _ | exact absurd h (by decide)) ?_) ?_
      refine e_iinc dX4_entriesOf_23 rfl (by decide) ?_
      refine r_goto 4 dX4_entriesOf_26 (by decide) ?_
      refine r_lv [(0, vr A 4 0), (1, vr A 1 s), (2, .int (iI (c + u))), (3, .int (iI (j + 1)))] rfl ?_
      exact hq g hh
  obtain ⟨v, hv, hq⟩ := loop 6 0 0 (by omega) (by omega)
  refine ⟨v, hv, ?_⟩
  intro g hh
  refine e_start rfl (by show (lg_sl _).length ≤ 4; simp [lg_sl, cat_rf, cat_i, cat_l, cat_r, cat_n]) (lv := [(0, vr A 4 0), (1, vr A 1 s)]) (by simp [lv_args, cat_rf, cat_i, cat_l, cat_r, cat_n]) ?_
  refine e_iconst dX4_entriesOf_0 ?_
  refine r_istore_n dX4_entriesOf_1 rfl (by decide) ?_
  refine r_stw (by repeat' first | exact True.intro | refine And.intro (fun h => by first | rfl | exact cat_rf _ | exact absurd h (by decide)) ?_) ?_
  refine e_iconst dX4_entriesOf_2 ?_
  refine r_istore_n dX4_entriesOf_3 rfl (by decide) ?_
  refine r_lv [(0, vr A 4 0), (1, vr A 1 s), (2, .int (iI 0)), (3, .int (iI 0))] rfl ?_
  exact hq g hh
theorem s_droppable {κ : KK} {A : Nat → Int → Nat} {σ : ST} {L : Int → List Int} {k : Int} (hk : Lv σ 3 k) (hT : WT σ) (hL : WL σ L) (hS : WS σ) (hP : WP σ) : ∃ v : Int, True ∧ PU κ A MX4_droppable 1 σ [vr A 4 0, vr A 3 k] (.int (iI v)) := by
  have h44 := (hT.2.2 k hk).2.2.2.2.2.1
  have loop : ∀ m : Nat, ∀ p : Int, ∀ c : Int, 0 ≤ p → p + (m : Int) = 6 → ∃ v : Int, True ∧ ∀ g, HR κ A g σ → Wp κ MX4_droppable 1 0 0 13 [(0, vr A 4 0), (1, vr A 3 k), (2, .int (iI c)), (3, .int (iI p))] [] g (PQ κ A σ (some (.int (iI v)))) := by
    intro m
    induction m with
    | zero =>
      intro p c hj0 hjm
      refine ⟨c, trivial, fun g hh => ?_⟩
      refine r_iload_n dX4_droppable_13 rfl rfl ?_
      refine e_bipush dX4_droppable_14 (by decide +kernel) ?_
      refine e_ic_ge 73 dX4_droppable_16 (by decide) ⟨by omega, by omega⟩ ⟨by omega, by omega⟩ (fun h16 => ?_) (fun h16 => by exfalso; omega)
      refine r_pc 73 rfl ?_
      refine r_iload_n dX4_droppable_73 rfl rfl ?_
      exact q_iret dX4_droppable_74 rfl (by rfl) (by assumption)
    | succ m ih =>
      intro p c hj0 hjm
      have hp : Lv σ 0 p := ⟨hj0, by show p < 6; omega⟩
      have hpz := (hP p hp).1
      have ihp := ih
      have inn : ∀ m : Nat, ∀ e : Int, ∀ c : Int, 0 ≤ e → e + (m : Int) = σ 0 p 0 → ∃ v : Int, True ∧ ∀ g, HR κ A g σ → Wp κ MX4_droppable 1 0 0 30 [(0, vr A 4 0), (1, vr A 3 k), (2, .int (iI c)), (3, .int (iI p)), (4, vr A 0 p), (5, .int (iI e))] [] g (PQ κ A σ (some (.int (iI v)))) := by
        intro m
        induction m with
        | zero =>
          intro e c hj0 hjm
          obtain ⟨v, hv, hq⟩ := ihp (p + 1) c (by omega) (by omega)
          refine ⟨v, hv, fun g hh => ?_⟩
          refine r_iload dX4_droppable_30 rfl ?_
          refine r_aloadO dX4_droppable_32 rfl ?_
          refine e_getI (t := 0) (k := 0) 0 dX4_droppable_34 cb0 (by decide) mf_X4_186 (by rfl) rfl (by assumption) (by assumption) ?_
          refine e_ic_ge 67 dX4_droppable_37 (by decide) ⟨by omega, by omega⟩ ⟨by omega, by omega⟩ (fun h37 => ?_) (fun h37 => by exfalso; omega)
          refine r_pc 67 rfl ?_
          refine e_iinc dX4_droppable_67 rfl (by decide) ?_
          refine r_goto 13 dX4_droppable_70 (by decide) ?_
          refine r_lv [(0, vr A 4 0), (1, vr A 3 k), (2, .int (iI c)), (3, .int (iI (p + 1)))] rfl ?_
          exact hq g hh
        | succ m ih =>
          intro e c hj0 hjm
          obtain ⟨hs1, -, -⟩ := (hP p hp).2 e (by omega)
          have hrp := (hS.2.2 _ hs1).2.2.2.1
          by_cases hc : k ∈ lo L (σ 1 (σ 11 p e) 2)
          · obtain ⟨v, hv, hq⟩ := ih (e + 1) (c + 1) (by omega) (by omega)
            refine ⟨v, hv, fun g hh => ?_⟩
            refine r_iload dX4_droppable_30 rfl ?_
            refine r_aloadO dX4_droppable_32 rfl ?_
            refine e_getI (t := 0) (k := 0) 0 dX4_droppable_34 cb0 (by decide) mf_X4_186 (by rfl) rfl (by assumption) (by assumption) ?_
            refine e_ic_ge 67 dX4_droppable_37 (by decide) ⟨by omega, by omega⟩ ⟨by omega, by omega⟩ (fun h37 => by exfalso; omega) (fun h37 => ?_)
            refine r_pc 40 rfl ?_
            refine r_aloadO dX4_droppable_40 rfl ?_
            refine e_getF (t := 0) (k := 1) (t1 := 11) dX4_droppable_42 cb0 (by decide) mf_X4_303 (by rfl) (by rfl) (by decide) (by assumption) (by assumption) ?_
            refine r_iload dX4_droppable_45 rfl ?_
            refine e_aald (t := 11) (t1 := 1) dX4_droppable_47 (by decide) (by decide) (by decide) (by intro _; rfl) (by decide) (by assumption) (by first | assumption | exact lv_as 0 (by assumption) (by rfl)) (by have e : ln 11 = 3 := rfl; omega) ?_
            refine e_getR (t := 1) (k := 2) (t1 := 3) 2 dX4_droppable_48 cb1 (by decide) mf_X4_304 (by rfl) (by rfl) (by decide) rfl (by assumption) (by assumption) ?_
            refine r_aload_nO dX4_droppable_51 rfl rfl ?_
            refine e_callSP (z := MX4_isInLine) dX4_droppable_52 ml_X4_137 cz_X4_isInLine mk_X4_isInLine (s_isInLine hrp hk hT hL) rfl rfl (by simp [cat_rf, cat_i, cat_l, cat_r, cat_n]) (by decide) (by assumption) (fun g hh => ?_)
            refine r_pc 55 rfl ?_
            refine e_ifeq_b 61 dX4_droppable_55 (by decide) (fun h55 => by contradiction) (fun h55 => ?_)
            refine r_pc 58 rfl ?_
            refine e_iinc dX4_droppable_58 rfl (by decide) ?_
            refine r_stw (by repeat' first | exact True.intro | refine And.intro (fun h => by first | rfl | exact cat_rf _ | exact absurd h (by decide)) ?_) ?_
            refine e_iinc dX4_droppable_61 rfl (by decide) ?_
            refine r_stw (by repeat' first | exact True.intro | refine And.intro (fun h => by first | rfl | exact cat_rf _ | exact absurd h (by decide)) ?_) ?_
            refine r_goto 30 dX4_droppable_64 (by decide) ?_
            refine r_lv [(0, vr A 4 0), (1, vr A 3 k), (2, .int (iI (c + 1))), (3, .int (iI p)), (4, vr A 0 p), (5, .int (iI (e + 1)))] rfl ?_
            exact hq g hh
          · obtain ⟨v, hv, hq⟩ := ih (e + 1) c (by omega) (by omega)
            refine ⟨v, hv, fun g hh => ?_⟩
            refine r_iload dX4_droppable_30 rfl ?_
            refine r_aloadO dX4_droppable_32 rfl ?_
            refine e_getI (t := 0) (k := 0) 0 dX4_droppable_34 cb0 (by decide) mf_X4_186 (by rfl) rfl (by assumption) (by assumption) ?_
            refine e_ic_ge 67 dX4_droppable_37 (by decide) ⟨by omega, by omega⟩ ⟨by omega, by omega⟩ (fun h37 => by exfalso; omega) (fun h37 => ?_)
            refine r_pc 40 rfl ?_
            refine r_aloadO dX4_droppable_40 rfl ?_
            refine e_getF (t := 0) (k := 1) (t1 := 11) dX4_droppable_42 cb0 (by decide) mf_X4_303 (by rfl) (by rfl) (by decide) (by assumption) (by assumption) ?_
            refine r_iload dX4_droppable_45 rfl ?_
            refine e_aald (t := 11) (t1 := 1) dX4_droppable_47 (by decide) (by decide) (by decide) (by intro _; rfl) (by decide) (by assumption) (by first | assumption | exact lv_as 0 (by assumption) (by rfl)) (by have e : ln 11 = 3 := rfl; omega) ?_
            refine e_getR (t := 1) (k := 2) (t1 := 3) 2 dX4_droppable_48 cb1 (by decide) mf_X4_304 (by rfl) (by rfl) (by decide) rfl (by assumption) (by assumption) ?_
            refine r_aload_nO dX4_droppable_51 rfl rfl ?_
            refine e_callSP (z := MX4_isInLine) dX4_droppable_52 ml_X4_137 cz_X4_isInLine mk_X4_isInLine (s_isInLine hrp hk hT hL) rfl rfl (by simp [cat_rf, cat_i, cat_l, cat_r, cat_n]) (by decide) (by assumption) (fun g hh => ?_)
            refine r_pc 55 rfl ?_
            refine e_ifeq_b 61 dX4_droppable_55 (by decide) (fun h55 => ?_) (fun h55 => by contradiction)
            refine r_pc 61 rfl ?_
            refine e_iinc dX4_droppable_61 rfl (by decide) ?_
            refine r_stw (by repeat' first | exact True.intro | refine And.intro (fun h => by first | rfl | exact cat_rf _ | exact absurd h (by decide)) ?_) ?_
            refine r_goto 30 dX4_droppable_64 (by decide) ?_
            refine r_lv [(0, vr A 4 0), (1, vr A 3 k), (2, .int (iI c)), (3, .int (iI p)), (4, vr A 0 p), (5, .int (iI (e + 1)))] rfl ?_
            exact hq g hh
      obtain ⟨v, hv, hq⟩ := inn (σ 0 p 0).toNat 0 c (by omega) (by omega)
      refine ⟨v, hv, fun g hh => ?_⟩
      refine r_iload_n dX4_droppable_13 rfl rfl ?_
      refine e_bipush dX4_droppable_14 (by decide +kernel) ?_
      refine e_ic_ge 73 dX4_droppable_16 (by decide) ⟨by omega, by omega⟩ ⟨by omega, by omega⟩ (fun h16 => by exfalso; omega) (fun h16 => ?_)
      refine r_pc 19 rfl ?_
      refine r_aload_nO dX4_droppable_19 rfl rfl ?_
      refine e_getF (t := 4) (k := 3) (t1 := 7) dX4_droppable_20 cb4 (by decide) mf_X4_24 (by rfl) (by rfl) (by decide) (by assumption) (lv1 _ 4 (fun _ => rfl)) ?_
      refine r_iload_n dX4_droppable_23 rfl rfl ?_
      refine e_aald7 dX4_droppable_24 (by assumption) (by have e : ln 7 = 6 := rfl; omega) ?_
      refine r_astoreO dX4_droppable_25 (by decide) ?_
      refine e_iconst dX4_droppable_27 ?_
      refine r_istore dX4_droppable_28 (by decide) ?_
      refine r_stw (by repeat' first | exact True.intro | refine And.intro (fun h => by first | rfl | exact cat_rf _ | exact absurd h (by decide)) ?_) ?_
      refine r_lv [(0, vr A 4 0), (1, vr A 3 k), (2, .int (iI c)), (3, .int (iI p)), (4, vr A 0 p), (5, .int (iI 0))] rfl ?_
      exact hq g hh
  by_cases hw : σ 3 k 4 = 0
  · refine ⟨0, trivial, ?_⟩
    intro g hh
    refine e_start rfl (by show (lg_sl _).length ≤ 6; simp [lg_sl, cat_rf, cat_i, cat_l, cat_r, cat_n]) (lv := [(0, vr A 4 0), (1, vr A 3 k)]) (by simp [lv_args, cat_rf, cat_i, cat_l, cat_r, cat_n]) ?_
    refine r_aload_nO dX4_droppable_0 rfl rfl ?_
    refine e_getI (t := 3) (k := 4) 4 dX4_droppable_1 cb3 (by decide) mf_X4_287 (by rfl) rfl (by assumption) (by assumption) ?_
    refine e_if_ne 9 dX4_droppable_4 (by decide) ⟨by omega, by omega⟩ (fun h4 => by exfalso; omega) (fun h4 => ?_)
    refine r_pc 7 rfl ?_
    refine e_iconst dX4_droppable_7 ?_
    exact q_iret dX4_droppable_8 rfl (by rfl) (by assumption)
  · obtain ⟨v, hv, hq⟩ := loop 6 0 0 (by omega) (by omega)
    refine ⟨v, hv, ?_⟩
    intro g hh
    refine e_start rfl (by show (lg_sl _).length ≤ 6; simp [lg_sl, cat_rf, cat_i, cat_l, cat_r, cat_n]) (lv := [(0, vr A 4 0), (1, vr A 3 k)]) (by simp [lv_args, cat_rf, cat_i, cat_l, cat_r, cat_n]) ?_
    refine r_aload_nO dX4_droppable_0 rfl rfl ?_
    refine e_getI (t := 3) (k := 4) 4 dX4_droppable_1 cb3 (by decide) mf_X4_287 (by rfl) rfl (by assumption) (by assumption) ?_
    refine e_if_ne 9 dX4_droppable_4 (by decide) ⟨by omega, by omega⟩ (fun h4 => ?_) (fun h4 => by exfalso; omega)
    refine r_pc 9 rfl ?_
    refine e_iconst dX4_droppable_9 ?_
    refine r_istore_n dX4_droppable_10 rfl (by decide) ?_
    refine r_stw (by repeat' first | exact True.intro | refine And.intro (fun h => by first | rfl | exact cat_rf _ | exact absurd h (by decide)) ?_) ?_
    refine e_iconst dX4_droppable_11 ?_
    refine r_istore_n dX4_droppable_12 rfl (by decide) ?_
    refine r_lv [(0, vr A 4 0), (1, vr A 3 k), (2, .int (iI 0)), (3, .int (iI 0))] rfl ?_
    exact hq g hh
theorem s_missing {κ : KK} {A : Nat → Int → Nat} {σ : ST} {k : Int} (hk : Lv σ 3 k) (hT : WT σ) (hS : WS σ) (hF' : WF σ) : ∃ v : Int, True ∧ PU κ A MX4_missingShapes 1 σ [vr A 4 0, vr A 3 k] (.int (iI v)) := by
  have hz := wt_sz hT hk
  have hpd := (hT.2.2 k hk).2.2.1
  have hs2 := hS.2.1
  have loop : ∀ m : Nat, ∀ j : Int, ∀ s : Int, ∀ c : Int, 0 ≤ j → j + (m : Int) = σ 3 k 5 → (-1 ≤ s ∧ s < σ 99 1 0) → ∃ v : Int, True ∧ ∀ g, HR κ A g σ → Wp κ MX4_missingShapes 1 0 0 25 [(0, vr A 4 0), (1, vr A 3 k), (2, vr A 1 s), (3, .int (iI c)), (4, .int (iI j))] [] g (PQ κ A σ (some (.int (iI v)))) := by
    intro m
    induction m with
    | zero =>
      intro j s c hj0 hjm hsd
      refine ⟨c, trivial, fun g hh => ?_⟩
      refine r_iload dX4_missingShapes_25 rfl ?_
      refine r_aload_nO dX4_missingShapes_27 rfl rfl ?_
      refine e_getI (t := 3) (k := 5) 5 dX4_missingShapes_28 cb3 (by decide) mf_X4_141 (by rfl) rfl (by assumption) (by assumption) ?_
      refine e_ic_ge 82 dX4_missingShapes_31 (by decide) ⟨by omega, by omega⟩ ⟨by omega, by omega⟩ (fun h31 => ?_) (fun h31 => by exfalso; omega)
      refine r_pc 82 rfl ?_
      refine r_iload_n dX4_missingShapes_82 rfl rfl ?_
      exact q_iret dX4_missingShapes_83 rfl (by rfl) (by assumption)
    | succ m ih =>
      intro j s c hj0 hjm hsd
      have ho := ((hF' k hk).1 j (by omega)).1
      have h32 := ((hF' k hk).2.1 (σ 14 k j) ho).1
      have h15 : 0 ≤ σ 15 k (σ 14 k j) ∧ σ 15 k (σ 14 k j) ≤ 15 := by unfold TrOk at h32; omega
      by_cases hs0 : s < 0
      · obtain ⟨v, hv, hq⟩ := ih (j + 1) (-1) (c + 1) (by omega) (by omega) ⟨by omega, by omega⟩
        refine ⟨v, hv, fun g hh => ?_⟩
        refine r_iload dX4_missingShapes_25 rfl ?_
        refine r_aload_nO dX4_missingShapes_27 rfl rfl ?_
        refine e_getI (t := 3) (k := 5) 5 dX4_missingShapes_28 cb3 (by decide) mf_X4_141 (by rfl) rfl (by assumption) (by assumption) ?_
        refine e_ic_ge 82 dX4_missingShapes_31 (by decide) ⟨by omega, by omega⟩ ⟨by omega, by omega⟩ (fun h31 => by exfalso; omega) (fun h31 => ?_)
        refine r_pc 34 rfl ?_
        refine r_aload_nO dX4_missingShapes_34 rfl rfl ?_
        refine e_getF (t := 3) (k := 6) (t1 := 14) dX4_missingShapes_35 cb3 (by decide) mf_X4_300 (by rfl) (by rfl) (by decide) (by assumption) (by assumption) ?_
        refine r_iload dX4_missingShapes_38 rfl ?_
        refine e_iald (t := 14) dX4_missingShapes_40 (by decide) (by decide) (by rfl) (by intro _; rfl) (by assumption) (by first | assumption | exact lv_as 3 (by assumption) (by rfl)) (by have e : ln 14 = 12 := rfl; omega) ?_
        refine r_istore dX4_missingShapes_41 (by decide) ?_
        refine r_aload_nO dX4_missingShapes_43 rfl rfl ?_
        refine e_ifnonnull 51 dX4_missingShapes_44 (by decide) (fun h44 => by exfalso; omega) (fun h44 => ?_)
        refine r_pc 47 rfl ?_
        refine e_null A 1 dX4_missingShapes_47 ?_
        refine r_goto 68 dX4_missingShapes_48 (by decide) ?_
        refine r_astore_nO dX4_missingShapes_68 rfl (by decide) ?_
        refine r_stw (by repeat' first | exact True.intro | refine And.intro (fun h => by first | rfl | exact cat_rf _ | exact absurd h (by decide)) ?_) ?_
        refine r_aload_nO dX4_missingShapes_69 rfl rfl ?_
        refine e_ifnonnull 76 dX4_missingShapes_70 (by decide) (fun h70 => by exfalso; omega) (fun h70 => ?_)
        refine r_pc 73 rfl ?_
        refine e_iinc dX4_missingShapes_73 rfl (by decide) ?_
        refine r_stw (by repeat' first | exact True.intro | refine And.intro (fun h => by first | rfl | exact cat_rf _ | exact absurd h (by decide)) ?_) ?_
        refine e_iinc dX4_missingShapes_76 rfl (by decide) ?_
        refine r_goto 25 dX4_missingShapes_79 (by decide) ?_
        refine r_lv [(0, vr A 4 0), (1, vr A 3 k), (2, vr A 1 (-1)), (3, .int (iI (c + 1))), (4, .int (iI (j + 1)))] rfl ?_
        exact hq g hh
      · have hsk : Lv σ 1 s := ⟨by omega, hsd.2⟩
        obtain ⟨u, hu, huq⟩ := s_findBeneath (κ := κ) (A := A) hsk ho h15 hS
        by_cases hu0 : u < 0
        · obtain ⟨v, hv, hq⟩ := ih (j + 1) u (c + 1) (by omega) (by omega) hu.1
          refine ⟨v, hv, fun g hh => ?_⟩
          refine r_iload dX4_missingShapes_25 rfl ?_
          refine r_aload_nO dX4_missingShapes_27 rfl rfl ?_
          refine e_getI (t := 3) (k := 5) 5 dX4_missingShapes_28 cb3 (by decide) mf_X4_141 (by rfl) rfl (by assumption) (by assumption) ?_
          refine e_ic_ge 82 dX4_missingShapes_31 (by decide) ⟨by omega, by omega⟩ ⟨by omega, by omega⟩ (fun h31 => by exfalso; omega) (fun h31 => ?_)
          refine r_pc 34 rfl ?_
          refine r_aload_nO dX4_missingShapes_34 rfl rfl ?_
          refine e_getF (t := 3) (k := 6) (t1 := 14) dX4_missingShapes_35 cb3 (by decide) mf_X4_300 (by rfl) (by rfl) (by decide) (by assumption) (by assumption) ?_
          refine r_iload dX4_missingShapes_38 rfl ?_
          refine e_iald (t := 14) dX4_missingShapes_40 (by decide) (by decide) (by rfl) (by intro _; rfl) (by assumption) (by first | assumption | exact lv_as 3 (by assumption) (by rfl)) (by have e : ln 14 = 12 := rfl; omega) ?_
          refine r_istore dX4_missingShapes_41 (by decide) ?_
          refine r_aload_nO dX4_missingShapes_43 rfl rfl ?_
          refine e_ifnonnull 51 dX4_missingShapes_44 (by decide) (fun h44 => ?_) (fun h44 => by exfalso; omega)
          refine r_pc 51 rfl ?_
          refine r_aload_nO dX4_missingShapes_51 rfl rfl ?_
          refine e_getF (t := 4) (k := 2) (t1 := 2) dX4_missingShapes_52 cb4 (by decide) mf_X4_18 (by rfl) (by rfl) (by decide) (by assumption) (lv1 _ 4 (fun _ => rfl)) ?_
          refine r_aload_nO dX4_missingShapes_55 rfl rfl ?_
          refine r_iload dX4_missingShapes_56 rfl ?_
          refine r_aload_nO dX4_missingShapes_58 rfl rfl ?_
          refine e_getF (t := 3) (k := 7) (t1 := 15) dX4_missingShapes_59 cb3 (by decide) mf_X4_290 (by rfl) (by rfl) (by decide) (by assumption) (by assumption) ?_
          refine r_iload dX4_missingShapes_62 rfl ?_
          refine e_iald (t := 15) dX4_missingShapes_64 (by decide) (by decide) (by rfl) (by intro _; rfl) (by assumption) (by first | assumption | exact lv_as 3 (by assumption) (by rfl)) (by have e : ln 15 = 12 := rfl; omega) ?_
          refine e_callVP (z := MX2_findBeneath) dX4_missingShapes_65 ml_X4_332 cz_X2_findBeneath mk_X2_findBeneath ms_X2_findBeneath cb2 (by decide) huq rfl rfl (by simp [cat_rf, cat_i, cat_l, cat_r, cat_n]) (by decide) (by assumption) (lv1 _ 2 (fun _ => rfl)) (fun g hh => ?_)
          refine r_pc 68 rfl ?_
          refine r_astore_nO dX4_missingShapes_68 rfl (by decide) ?_
          refine r_stw (by repeat' first | exact True.intro | refine And.intro (fun h => by first | rfl | exact cat_rf _ | exact absurd h (by decide)) ?_) ?_
          refine r_aload_nO dX4_missingShapes_69 rfl rfl ?_
          refine e_ifnonnull 76 dX4_missingShapes_70 (by decide) (fun h70 => by exfalso; omega) (fun h70 => ?_)
          refine r_pc 73 rfl ?_
          refine e_iinc dX4_missingShapes_73 rfl (by decide) ?_
          refine r_stw (by repeat' first | exact True.intro | refine And.intro (fun h => by first | rfl | exact cat_rf _ | exact absurd h (by decide)) ?_) ?_
          refine e_iinc dX4_missingShapes_76 rfl (by decide) ?_
          refine r_goto 25 dX4_missingShapes_79 (by decide) ?_
          refine r_lv [(0, vr A 4 0), (1, vr A 3 k), (2, vr A 1 u), (3, .int (iI (c + 1))), (4, .int (iI (j + 1)))] rfl ?_
          exact hq g hh
        · obtain ⟨v, hv, hq⟩ := ih (j + 1) u c (by omega) (by omega) hu.1
          refine ⟨v, hv, fun g hh => ?_⟩
          refine r_iload dX4_missingShapes_25 rfl ?_
          refine r_aload_nO dX4_missingShapes_27 rfl rfl ?_
          refine e_getI (t := 3) (k := 5) 5 dX4_missingShapes_28 cb3 (by decide) mf_X4_141 (by rfl) rfl (by assumption) (by assumption) ?_
          refine e_ic_ge 82 dX4_missingShapes_31 (by decide) ⟨by omega, by omega⟩ ⟨by omega, by omega⟩ (fun h31 => by exfalso; omega) (fun h31 => ?_)
          refine r_pc 34 rfl ?_
          refine r_aload_nO dX4_missingShapes_34 rfl rfl ?_
          refine e_getF (t := 3) (k := 6) (t1 := 14) dX4_missingShapes_35 cb3 (by decide) mf_X4_300 (by rfl) (by rfl) (by decide) (by assumption) (by assumption) ?_
          refine r_iload dX4_missingShapes_38 rfl ?_
          refine e_iald (t := 14) dX4_missingShapes_40 (by decide) (by decide) (by rfl) (by intro _; rfl) (by assumption) (by first | assumption | exact lv_as 3 (by assumption) (by rfl)) (by have e : ln 14 = 12 := rfl; omega) ?_
          refine r_istore dX4_missingShapes_41 (by decide) ?_
          refine r_aload_nO dX4_missingShapes_43 rfl rfl ?_
          refine e_ifnonnull 51 dX4_missingShapes_44 (by decide) (fun h44 => ?_) (fun h44 => by exfalso; omega)
          refine r_pc 51 rfl ?_
          refine r_aload_nO dX4_missingShapes_51 rfl rfl ?_
          refine e_getF (t := 4) (k := 2) (t1 := 2) dX4_missingShapes_52 cb4 (by decide) mf_X4_18 (by rfl) (by rfl) (by decide) (by assumption) (lv1 _ 4 (fun _ => rfl)) ?_
          refine r_aload_nO dX4_missingShapes_55 rfl rfl ?_
          refine r_iload dX4_missingShapes_56 rfl ?_
          refine r_aload_nO dX4_missingShapes_58 rfl rfl ?_
          refine e_getF (t := 3) (k := 7) (t1 := 15) dX4_missingShapes_59 cb3 (by decide) mf_X4_290 (by rfl) (by rfl) (by decide) (by assumption) (by assumption) ?_
          refine r_iload dX4_missingShapes_62 rfl ?_
          refine e_iald (t := 15) dX4_missingShapes_64 (by decide) (by decide) (by rfl) (by intro _; rfl) (by assumption) (by first | assumption | exact lv_as 3 (by assumption) (by rfl)) (by have e : ln 15 = 12 := rfl; omega) ?_
          refine e_callVP (z := MX2_findBeneath) dX4_missingShapes_65 ml_X4_332 cz_X2_findBeneath mk_X2_findBeneath ms_X2_findBeneath cb2 (by decide) huq rfl rfl (by simp [cat_rf, cat_i, cat_l, cat_r, cat_n]) (by decide) (by assumption) (lv1 _ 2 (fun _ => rfl)) (fun g hh => ?_)
          refine r_pc 68 rfl ?_
          refine r_astore_nO dX4_missingShapes_68 rfl (by decide) ?_
          refine r_stw (by repeat' first | exact True.intro | refine And.intro (fun h => by first | rfl | exact cat_rf _ | exact absurd h (by decide)) ?_) ?_
          refine r_aload_nO dX4_missingShapes_69 rfl rfl ?_
          refine e_ifnonnull 76 dX4_missingShapes_70 (by decide) (fun h70 => ?_) (fun h70 => by exfalso; omega)
          refine r_pc 76 rfl ?_
          refine e_iinc dX4_missingShapes_76 rfl (by decide) ?_
          refine r_goto 25 dX4_missingShapes_79 (by decide) ?_
          refine r_lv [(0, vr A 4 0), (1, vr A 3 k), (2, vr A 1 u), (3, .int (iI c)), (4, .int (iI (j + 1)))] rfl ?_
          exact hq g hh
  obtain ⟨u, hu, huq⟩ := s_findRoot (κ := κ) (A := A) hpd hS
  by_cases hu0 : u < 0
  · obtain ⟨v, hv, hq⟩ := loop (σ 3 k 5).toNat 0 u 1 (by omega) (by omega) hu.1
    refine ⟨v, hv, ?_⟩
    intro g hh
    refine e_start rfl (by show (lg_sl _).length ≤ 6; simp [lg_sl, cat_rf, cat_i, cat_l, cat_r, cat_n]) (lv := [(0, vr A 4 0), (1, vr A 3 k)]) (by simp [lv_args, cat_rf, cat_i, cat_l, cat_r, cat_n]) ?_
    refine r_aload_nO dX4_missingShapes_0 rfl rfl ?_
    refine e_getF (t := 4) (k := 2) (t1 := 2) dX4_missingShapes_1 cb4 (by decide) mf_X4_18 (by rfl) (by rfl) (by decide) (by assumption) (lv1 _ 4 (fun _ => rfl)) ?_
    refine r_aload_nO dX4_missingShapes_4 rfl rfl ?_
    refine e_getR (t := 3) (k := 1) (t1 := 3) 1 dX4_missingShapes_5 cb3 (by decide) mf_X4_129 (by rfl) (by rfl) (by decide) rfl (by assumption) (by assumption) ?_
    refine e_callVP (z := MX2_findRoot) dX4_missingShapes_8 ml_X4_329 cz_X2_findRoot mk_X2_findRoot ms_X2_findRoot cb2 (by decide) huq rfl rfl (by simp [cat_rf, cat_i, cat_l, cat_r, cat_n]) (by decide) (by assumption) (lv1 _ 2 (fun _ => rfl)) (fun g hh => ?_)
    refine r_pc 11 rfl ?_
    refine r_astore_nO dX4_missingShapes_11 rfl (by decide) ?_
    refine r_stw (by repeat' first | exact True.intro | refine And.intro (fun h => by first | rfl | exact cat_rf _ | exact absurd h (by decide)) ?_) ?_
    refine r_aload_nO dX4_missingShapes_12 rfl rfl ?_
    refine e_ifnonnull 20 dX4_missingShapes_13 (by decide) (fun h13 => by exfalso; omega) (fun h13 => ?_)
    refine r_pc 16 rfl ?_
    refine e_iconst dX4_missingShapes_16 ?_
    refine r_goto 21 dX4_missingShapes_17 (by decide) ?_
    refine r_istore_n dX4_missingShapes_21 rfl (by decide) ?_
    refine r_stw (by repeat' first | exact True.intro | refine And.intro (fun h => by first | rfl | exact cat_rf _ | exact absurd h (by decide)) ?_) ?_
    refine e_iconst dX4_missingShapes_22 ?_
    refine r_istore dX4_missingShapes_23 (by decide) ?_
    refine r_lv [(0, vr A 4 0), (1, vr A 3 k), (2, vr A 1 u), (3, .int (iI 1)), (4, .int (iI 0))] rfl ?_
    exact hq g hh
  · obtain ⟨v, hv, hq⟩ := loop (σ 3 k 5).toNat 0 u 0 (by omega) (by omega) hu.1
    refine ⟨v, hv, ?_⟩
    intro g hh
    refine e_start rfl (by show (lg_sl _).length ≤ 6; simp [lg_sl, cat_rf, cat_i, cat_l, cat_r, cat_n]) (lv := [(0, vr A 4 0), (1, vr A 3 k)]) (by simp [lv_args, cat_rf, cat_i, cat_l, cat_r, cat_n]) ?_
    refine r_aload_nO dX4_missingShapes_0 rfl rfl ?_
    refine e_getF (t := 4) (k := 2) (t1 := 2) dX4_missingShapes_1 cb4 (by decide) mf_X4_18 (by rfl) (by rfl) (by decide) (by assumption) (lv1 _ 4 (fun _ => rfl)) ?_
    refine r_aload_nO dX4_missingShapes_4 rfl rfl ?_
    refine e_getR (t := 3) (k := 1) (t1 := 3) 1 dX4_missingShapes_5 cb3 (by decide) mf_X4_129 (by rfl) (by rfl) (by decide) rfl (by assumption) (by assumption) ?_
    refine e_callVP (z := MX2_findRoot) dX4_missingShapes_8 ml_X4_329 cz_X2_findRoot mk_X2_findRoot ms_X2_findRoot cb2 (by decide) huq rfl rfl (by simp [cat_rf, cat_i, cat_l, cat_r, cat_n]) (by decide) (by assumption) (lv1 _ 2 (fun _ => rfl)) (fun g hh => ?_)
    refine r_pc 11 rfl ?_
    refine r_astore_nO dX4_missingShapes_11 rfl (by decide) ?_
    refine r_stw (by repeat' first | exact True.intro | refine And.intro (fun h => by first | rfl | exact cat_rf _ | exact absurd h (by decide)) ?_) ?_
    refine r_aload_nO dX4_missingShapes_12 rfl rfl ?_
    refine e_ifnonnull 20 dX4_missingShapes_13 (by decide) (fun h13 => ?_) (fun h13 => by exfalso; omega)
    refine r_pc 20 rfl ?_
    refine e_iconst dX4_missingShapes_20 ?_
    refine r_istore_n dX4_missingShapes_21 rfl (by decide) ?_
    refine r_stw (by repeat' first | exact True.intro | refine And.intro (fun h => by first | rfl | exact cat_rf _ | exact absurd h (by decide)) ?_) ?_
    refine e_iconst dX4_missingShapes_22 ?_
    refine r_istore dX4_missingShapes_23 (by decide) ?_
    refine r_lv [(0, vr A 4 0), (1, vr A 3 k), (2, vr A 1 u), (3, .int (iI 0)), (4, .int (iI 0))] rfl ?_
    exact hq g hh
theorem s_saving {κ : KK} {A : Nat → Int → Nat} {σ : ST} {k : Int} (hk : Lv σ 3 k) (hT : WT σ) (hS : WS σ) (hF' : WF σ) : ∃ v : Int, True ∧ PU κ A MX4_saving 3 σ [vr A 4 0, vr A 3 k] (.int (iI v)) := by
  have hz := wt_sz hT hk
  have hs1 := hS.1
  obtain ⟨u, -, hu⟩ := s_missing (κ := κ) (A := A) hk hT hS hF'
  by_cases hcs : σ 3 k 2 < 0 ∧ σ 3 k 5 ≤ 8
  · by_cases hle : iI u ≤ iI (80 - σ 99 1 0)
    · refine ⟨3 + 3 * σ 3 k 5 - (3 + σ 3 k 5 + prs σ k) - 4 * u, trivial, ?_⟩
      intro g hh
      refine e_start rfl (by show (lg_sl _).length ≤ 4; simp [lg_sl, cat_rf, cat_i, cat_l, cat_r, cat_n]) (lv := [(0, vr A 4 0), (1, vr A 3 k)]) (by simp [lv_args, cat_rf, cat_i, cat_l, cat_r, cat_n]) ?_
      refine r_aload_nO dX4_saving_0 rfl rfl ?_
      refine e_callSP (z := MX4_canSettle) dX4_saving_1 ml_X4_148 cz_X4_canSettle mk_X4_canSettle (s_canSettle hk hz) rfl rfl (by simp [cat_rf, cat_i, cat_l, cat_r, cat_n]) (by decide) (by assumption) (fun g hh => ?_)
      refine r_pc 4 rfl ?_
      refine e_ifne_b 9 dX4_saving_4 (by decide) (fun h4 => ?_) (fun h4 => by contradiction)
      refine r_pc 9 rfl ?_
      refine r_aload_nO dX4_saving_9 rfl rfl ?_
      refine r_aload_nO dX4_saving_10 rfl rfl ?_
      refine e_callVP (z := MX4_missingShapes) dX4_saving_11 ml_X4_335 cz_X4_missingShapes mk_X4_missingShapes ms_X4_missingShapes cb4 (by decide) hu rfl rfl (by simp [cat_rf, cat_i, cat_l, cat_r, cat_n]) (by decide) (by assumption) (lv1 _ 4 (fun _ => rfl)) (fun g hh => ?_)
      refine r_pc 14 rfl ?_
      refine r_istore_n dX4_saving_14 rfl (by decide) ?_
      refine r_stw (by repeat' first | exact True.intro | refine And.intro (fun h => by first | rfl | exact cat_rf _ | exact absurd h (by decide)) ?_) ?_
      refine e_bipush dX4_saving_15 (by decide +kernel) ?_
      refine r_aload_nO dX4_saving_17 rfl rfl ?_
      refine e_getF (t := 4) (k := 2) (t1 := 2) dX4_saving_18 cb4 (by decide) mf_X4_18 (by rfl) (by rfl) (by decide) (by assumption) (lv1 _ 4 (fun _ => rfl)) ?_
      refine e_getI (t := 2) (k := 1) 1 dX4_saving_21 cb2 (by decide) mf_X4_206 (by rfl) rfl (by assumption) (lv1 _ 2 (fun _ => rfl)) ?_
      refine e_iv hs1 ?_
      first | refine e_isub dX4_saving_24 ?_ | refine r_isub dX4_saving_24 ?_
      refine r_istore_n dX4_saving_25 rfl (by decide) ?_
      refine r_iload_n dX4_saving_26 rfl rfl ?_
      refine r_iload_n dX4_saving_27 rfl rfl ?_
      refine r_ic_le 36 dX4_saving_28 (by decide) (fun h28 => ?_) (fun h28 => by contradiction)
      refine r_pc 36 rfl ?_
      refine r_aload_nO dX4_saving_36 rfl rfl ?_
      refine e_callSP (z := MX4_looseWords) dX4_saving_37 ml_X4_323 cz_X4_looseWords mk_X4_looseWords (s_loose hk) rfl rfl (by simp [cat_rf, cat_i, cat_l, cat_r, cat_n]) (by decide) (by assumption) (fun g hh => ?_)
      refine r_pc 40 rfl ?_
      refine r_aload_nO dX4_saving_40 rfl rfl ?_
      refine e_callSP (z := MX4_shapedWords) dX4_saving_41 ml_X4_326 cz_X4_shapedWords mk_X4_shapedWords (s_shaped hk hF') rfl rfl (by simp [cat_rf, cat_i, cat_l, cat_r, cat_n]) (by decide) (by assumption) (fun g hh => ?_)
      refine r_pc 44 rfl ?_
      first | refine e_isub dX4_saving_44 ?_ | refine r_isub dX4_saving_44 ?_
      refine e_iconst dX4_saving_45 ?_
      refine r_iload_n dX4_saving_46 rfl rfl ?_
      first | refine e_imul dX4_saving_47 ?_ | refine r_imul dX4_saving_47 ?_
      first | refine e_isub dX4_saving_48 ?_ | refine r_isub dX4_saving_48 ?_
      exact q_iret dX4_saving_49 rfl (by rfl) (by assumption)
    · refine ⟨-4 * (80 - σ 99 1 0), trivial, ?_⟩
      intro g hh
      refine e_start rfl (by show (lg_sl _).length ≤ 4; simp [lg_sl, cat_rf, cat_i, cat_l, cat_r, cat_n]) (lv := [(0, vr A 4 0), (1, vr A 3 k)]) (by simp [lv_args, cat_rf, cat_i, cat_l, cat_r, cat_n]) ?_
      refine r_aload_nO dX4_saving_0 rfl rfl ?_
      refine e_callSP (z := MX4_canSettle) dX4_saving_1 ml_X4_148 cz_X4_canSettle mk_X4_canSettle (s_canSettle hk hz) rfl rfl (by simp [cat_rf, cat_i, cat_l, cat_r, cat_n]) (by decide) (by assumption) (fun g hh => ?_)
      refine r_pc 4 rfl ?_
      refine e_ifne_b 9 dX4_saving_4 (by decide) (fun h4 => ?_) (fun h4 => by contradiction)
      refine r_pc 9 rfl ?_
      refine r_aload_nO dX4_saving_9 rfl rfl ?_
      refine r_aload_nO dX4_saving_10 rfl rfl ?_
      refine e_callVP (z := MX4_missingShapes) dX4_saving_11 ml_X4_335 cz_X4_missingShapes mk_X4_missingShapes ms_X4_missingShapes cb4 (by decide) hu rfl rfl (by simp [cat_rf, cat_i, cat_l, cat_r, cat_n]) (by decide) (by assumption) (lv1 _ 4 (fun _ => rfl)) (fun g hh => ?_)
      refine r_pc 14 rfl ?_
      refine r_istore_n dX4_saving_14 rfl (by decide) ?_
      refine r_stw (by repeat' first | exact True.intro | refine And.intro (fun h => by first | rfl | exact cat_rf _ | exact absurd h (by decide)) ?_) ?_
      refine e_bipush dX4_saving_15 (by decide +kernel) ?_
      refine r_aload_nO dX4_saving_17 rfl rfl ?_
      refine e_getF (t := 4) (k := 2) (t1 := 2) dX4_saving_18 cb4 (by decide) mf_X4_18 (by rfl) (by rfl) (by decide) (by assumption) (lv1 _ 4 (fun _ => rfl)) ?_
      refine e_getI (t := 2) (k := 1) 1 dX4_saving_21 cb2 (by decide) mf_X4_206 (by rfl) rfl (by assumption) (lv1 _ 2 (fun _ => rfl)) ?_
      refine e_iv hs1 ?_
      first | refine e_isub dX4_saving_24 ?_ | refine r_isub dX4_saving_24 ?_
      refine r_istore_n dX4_saving_25 rfl (by decide) ?_
      refine r_iload_n dX4_saving_26 rfl rfl ?_
      refine r_iload_n dX4_saving_27 rfl rfl ?_
      refine r_ic_le 36 dX4_saving_28 (by decide) (fun h28 => by contradiction) (fun h28 => ?_)
      refine r_pc 31 rfl ?_
      refine e_bipush dX4_saving_31 (by decide +kernel) ?_
      refine r_iload_n dX4_saving_33 rfl rfl ?_
      first | refine e_imul dX4_saving_34 ?_ | refine r_imul dX4_saving_34 ?_
      exact q_iret dX4_saving_35 rfl (by rfl) (by assumption)
  · refine ⟨0, trivial, ?_⟩
    intro g hh
    refine e_start rfl (by show (lg_sl _).length ≤ 4; simp [lg_sl, cat_rf, cat_i, cat_l, cat_r, cat_n]) (lv := [(0, vr A 4 0), (1, vr A 3 k)]) (by simp [lv_args, cat_rf, cat_i, cat_l, cat_r, cat_n]) ?_
    refine r_aload_nO dX4_saving_0 rfl rfl ?_
    refine e_callSP (z := MX4_canSettle) dX4_saving_1 ml_X4_148 cz_X4_canSettle mk_X4_canSettle (s_canSettle hk hz) rfl rfl (by simp [cat_rf, cat_i, cat_l, cat_r, cat_n]) (by decide) (by assumption) (fun g hh => ?_)
    refine r_pc 4 rfl ?_
    refine e_ifne_b 9 dX4_saving_4 (by decide) (fun h4 => by contradiction) (fun h4 => ?_)
    refine r_pc 7 rfl ?_
    refine e_iconst dX4_saving_7 ?_
    exact q_iret dX4_saving_8 rfl (by rfl) (by assumption)
theorem s_oF4 {κ : KK} {A : Nat → Int → Nat} {σ : ST} {k : Int} (hk : Lv σ 3 k) (hT : WT σ) : PU κ A MX4_objectFact 4 σ [vr A 4 0, vr A 3 k, .int (iI 4)] (.int (iI (σ 3 k 4))) := by
  intro g hh
  obtain ⟨ht1, ht2, ht3, ht4, ht5, ht6, ht7⟩ := hT.2.2 k hk
  refine e_start rfl (by show (lg_sl _).length ≤ 3; simp [lg_sl, cat_rf, cat_i, cat_l, cat_r, cat_n]) (lv := [(0, vr A 4 0), (1, vr A 3 k), (2, .int (iI 4))]) (by simp [lv_args, cat_rf, cat_i, cat_l, cat_r, cat_n]) ?_
  refine r_iload_n dX4_objectFact_0 rfl rfl ?_
  refine r_tblIn (off := 88) 89 dX4_objectFact_1 (by decide +kernel) (by decide +kernel) (by decide +kernel) (by decide) ?_
  refine r_aload_nO dX4_objectFact_89 rfl rfl ?_
  refine e_getI (t := 3) (k := 4) 4 dX4_objectFact_90 cb3 (by decide) mf_X4_287 (by rfl) rfl (by assumption) (by assumption) ?_
  refine e_if_eq 100 dX4_objectFact_93 (by decide) ⟨by omega, by omega⟩ (fun h93 => ?_) (fun h93 => ?_)
  · refine r_pc 100 rfl ?_
    refine e_iconst dX4_objectFact_100 ?_
    exact q_iret dX4_objectFact_101 rfl (by omega) (by assumption)
  · refine r_pc 96 rfl ?_
    refine e_iconst dX4_objectFact_96 ?_
    refine r_goto 101 dX4_objectFact_97 (by decide) ?_
    exact q_iret dX4_objectFact_101 rfl (by omega) (by assumption)
theorem s_oF5 {κ : KK} {A : Nat → Int → Nat} {σ : ST} {k : Int} (hk : Lv σ 3 k) (hT : WT σ) : ∃ v : Int, True ∧ PU κ A MX4_objectFact 4 σ [vr A 4 0, vr A 3 k, .int (iI 5)] (.int (iI v)) := by
  obtain ⟨v, hv, hq⟩ := s_childrenOf (κ := κ) (A := A) hk hT
  refine ⟨v, hv, ?_⟩
  intro g hh
  refine e_start rfl (by show (lg_sl _).length ≤ 3; simp [lg_sl, cat_rf, cat_i, cat_l, cat_r, cat_n]) (lv := [(0, vr A 4 0), (1, vr A 3 k), (2, .int (iI 5))]) (by simp [lv_args, cat_rf, cat_i, cat_l, cat_r, cat_n]) ?_
  refine r_iload_n dX4_objectFact_0 rfl rfl ?_
  refine r_tblIn (off := 101) 102 dX4_objectFact_1 (by decide +kernel) (by decide +kernel) (by decide +kernel) (by decide) ?_
  refine r_aload_nO dX4_objectFact_102 rfl rfl ?_
  refine r_aload_nO dX4_objectFact_103 rfl rfl ?_
  refine e_callVP (z := MX4_childrenOf) dX4_objectFact_104 ml_X4_342 cz_X4_childrenOf mk_X4_childrenOf ms_X4_childrenOf cb4 (by decide) hq rfl rfl (by simp [cat_rf, cat_i, cat_l, cat_r, cat_n]) (by decide) (by assumption) (lv1 _ 4 (fun _ => rfl)) (fun g hh => ?_)
  refine r_pc 107 rfl ?_
  exact q_iret dX4_objectFact_107 rfl (by rfl) (by assumption)
theorem s_oF6 {κ : KK} {A : Nat → Int → Nat} {σ : ST} {L : Int → List Int} {k : Int} (hk : Lv σ 3 k) (hT : WT σ) (hL : WL σ L) : PU κ A MX4_objectFact 4 σ [vr A 4 0, vr A 3 k, .int (iI 6)] (.int (iI ((lo L k).length : Int))) := by
  intro g hh
  obtain ⟨ht1, ht2, ht3, ht4, ht5, ht6, ht7⟩ := hT.2.2 k hk
  refine e_start rfl (by show (lg_sl _).length ≤ 3; simp [lg_sl, cat_rf, cat_i, cat_l, cat_r, cat_n]) (lv := [(0, vr A 4 0), (1, vr A 3 k), (2, .int (iI 6))]) (by simp [lv_args, cat_rf, cat_i, cat_l, cat_r, cat_n]) ?_
  refine r_iload_n dX4_objectFact_0 rfl rfl ?_
  refine r_tblIn (off := 107) 108 dX4_objectFact_1 (by decide +kernel) (by decide +kernel) (by decide +kernel) (by decide) ?_
  refine r_aload_nO dX4_objectFact_108 rfl rfl ?_
  refine e_callSP (z := MX4_lineLength) dX4_objectFact_109 ml_X4_278 cz_X4_lineLength mk_X4_lineLength (s_lineLength ⟨by have := hk.1; omega, hk.2⟩ hT hL) rfl rfl (by simp [cat_rf, cat_i, cat_l, cat_r, cat_n]) (by decide) (by assumption) (fun g hh => ?_)
  refine r_pc 112 rfl ?_
  exact q_iret dX4_objectFact_112 rfl (by rfl) (by assumption)
theorem s_oFa {κ : KK} {A : Nat → Int → Nat} {σ : ST} {L : Int → List Int} {k : Int} (hk : Lv σ 3 k) (hT : WT σ) (hL : WL σ L) (hS : WS σ) (hP : WP σ) (hF' : WF σ) (hV : WV σ) {w : Int} (hw : 0 ≤ w ∧ w ≤ 7) : ∃ v : Int, PU κ A MX4_objectFact 4 σ [vr A 4 0, vr A 3 k, .int (iI w)] (.int (iI v)) := by
  have h : w = 0 ∨ w = 1 ∨ w = 2 ∨ w = 3 ∨ w = 4 ∨ w = 5 ∨ w = 6 ∨ w = 7 := by omega
  rcases h with rfl | rfl | rfl | rfl | rfl | rfl | rfl | rfl
  · exact ⟨_, s_oF0 hk hT⟩
  · exact ⟨_, s_oF1 hk hT⟩
  · exact ⟨_, s_oF2 hk hT hS⟩
  · exact ⟨_, s_oF3 hk hT⟩
  · exact ⟨_, s_oF4 hk hT⟩
  · obtain ⟨v, -, h⟩ := s_oF5 (κ := κ) (A := A) hk hT
    exact ⟨v, h⟩
  · exact ⟨_, s_oF6 hk hT hL⟩
  · exact ⟨_, s_oF7 hk hT hF'⟩
theorem s_sF4 {κ : KK} {A : Nat → Int → Nat} {σ : ST} {s : Int} (hs : Lv σ 1 s) (hS : WS σ) (hP : WP σ) : ∃ v : Int, True ∧ PU κ A MX4_shapeFact 2 σ [vr A 4 0, vr A 1 s, .int (iI 4)] (.int (iI v)) := by
  obtain ⟨v, hv, hq⟩ := s_countBeneath (κ := κ) (A := A) hs hS
  refine ⟨v, hv, ?_⟩
  intro g hh
  refine e_start rfl (by show (lg_sl _).length ≤ 3; simp [lg_sl, cat_rf, cat_i, cat_l, cat_r, cat_n]) (lv := [(0, vr A 4 0), (1, vr A 1 s), (2, .int (iI 4))]) (by simp [lv_args, cat_rf, cat_i, cat_l, cat_r, cat_n]) ?_
  refine r_iload_n dX4_shapeFact_0 rfl rfl ?_
  refine r_tblIn (off := 76) 77 dX4_shapeFact_1 (by decide +kernel) (by decide +kernel) (by decide +kernel) (by decide) ?_
  refine r_aload_nO dX4_shapeFact_77 rfl rfl ?_
  refine e_getF (t := 4) (k := 2) (t1 := 2) dX4_shapeFact_78 cb4 (by decide) mf_X4_18 (by rfl) (by rfl) (by decide) (by assumption) (lv1 _ 4 (fun _ => rfl)) ?_
  refine r_aload_nO dX4_shapeFact_81 rfl rfl ?_
  refine e_callVP (z := MX2_countBeneath) dX4_shapeFact_82 ml_X4_355 cz_X2_countBeneath mk_X2_countBeneath ms_X2_countBeneath cb2 (by decide) hq rfl rfl (by simp [cat_rf, cat_i, cat_l, cat_r, cat_n]) (by decide) (by assumption) (lv1 _ 2 (fun _ => rfl)) (fun g hh => ?_)
  refine r_pc 85 rfl ?_
  exact q_iret dX4_shapeFact_85 rfl (by rfl) (by assumption)
theorem s_sF6 {κ : KK} {A : Nat → Int → Nat} {σ : ST} {s : Int} (hs : Lv σ 1 s) (hS : WS σ) (hP : WP σ) : ∃ v : Int, True ∧ PU κ A MX4_shapeFact 2 σ [vr A 4 0, vr A 1 s, .int (iI 6)] (.int (iI v)) := by
  obtain ⟨v, hv, hq⟩ := s_entriesOf (κ := κ) (A := A) ⟨by have := hs.1; omega, hs.2⟩ hP
  refine ⟨v, hv, ?_⟩
  intro g hh
  refine e_start rfl (by show (lg_sl _).length ≤ 3; simp [lg_sl, cat_rf, cat_i, cat_l, cat_r, cat_n]) (lv := [(0, vr A 4 0), (1, vr A 1 s), (2, .int (iI 6))]) (by simp [lv_args, cat_rf, cat_i, cat_l, cat_r, cat_n]) ?_
  refine r_iload_n dX4_shapeFact_0 rfl rfl ?_
  refine r_tblOut 92 dX4_shapeFact_1 (by decide +kernel) (by decide) ?_
  refine r_aload_nO dX4_shapeFact_92 rfl rfl ?_
  refine r_aload_nO dX4_shapeFact_93 rfl rfl ?_
  refine e_callVP (z := MX4_entriesOf) dX4_shapeFact_94 ml_X4_362 cz_X4_entriesOf mk_X4_entriesOf ms_X4_entriesOf cb4 (by decide) hq rfl rfl (by simp [cat_rf, cat_i, cat_l, cat_r, cat_n]) (by decide) (by assumption) (lv1 _ 4 (fun _ => rfl)) (fun g hh => ?_)
  refine r_pc 97 rfl ?_
  exact q_iret dX4_shapeFact_97 rfl (by rfl) (by assumption)
theorem s_sFa {κ : KK} {A : Nat → Int → Nat} {σ : ST} {s : Int} (hs : Lv σ 1 s) (hT : WT σ) (hS : WS σ) (hP : WP σ) {w : Int} (hw : 0 ≤ w ∧ w ≤ 6) : ∃ v : Int, PU κ A MX4_shapeFact 2 σ [vr A 4 0, vr A 1 s, .int (iI w)] (.int (iI v)) := by
  have h : w = 0 ∨ w = 1 ∨ w = 2 ∨ w = 3 ∨ w = 4 ∨ w = 5 ∨ w = 6 := by omega
  rcases h with rfl | rfl | rfl | rfl | rfl | rfl | rfl
  · exact ⟨_, s_sF0 hs hT hS⟩
  · exact ⟨_, s_sF1 hs hT hS⟩
  · exact ⟨_, s_sF2 hs hT hS⟩
  · exact ⟨_, s_sF3 hs hT hS⟩
  · obtain ⟨v, -, h⟩ := s_sF4 (κ := κ) (A := A) hs hS hP
    exact ⟨v, h⟩
  · exact ⟨_, s_sF5 hs hT hS⟩
  · obtain ⟨v, -, h⟩ := s_sF6 (κ := κ) (A := A) hs hS hP
    exact ⟨v, h⟩
theorem s_tota {κ : KK} {A : Nat → Int → Nat} {σ : ST} (hT : WT σ) (hS : WS σ) (hF' : WF σ) {w : Int} (hw : 0 ≤ w ∧ w ≤ 10) : ∃ v : Int, PU κ A MX4_total 5 σ [vr A 4 0, .int (iI w)] (.int (iI v)) := by
  have h : w = 0 ∨ w = 1 ∨ w = 2 ∨ w = 3 ∨ w = 4 ∨ w = 5 ∨ w = 6 ∨ w = 7 ∨ w = 8 ∨ w = 9 ∨ w = 10 := by omega
  rcases h with rfl | rfl | rfl | rfl | rfl | rfl | rfl | rfl | rfl | rfl | rfl
  · exact ⟨_, s_tot0 hT hS hF'⟩
  · exact ⟨_, s_tot1 hT hS hF'⟩
  · exact ⟨_, s_tot2 hT hS hF'⟩
  · exact ⟨_, s_tot3 hT hS hF'⟩
  · exact ⟨_, s_tot4 hT hS hF'⟩
  · exact ⟨_, s_tot5 hT hS hF'⟩
  · exact ⟨_, s_tot6 hT hS hF'⟩
  · exact ⟨_, s_tot7 hT hS hF'⟩
  · exact ⟨_, s_tot8 hT hS hF'⟩
  · exact ⟨_, s_tot9 hT hS hF'⟩
  · exact ⟨_, s_tot10 hT hS hF'⟩
theorem s_fFa {κ : KK} {A : Nat → Int → Nat} {σ : ST} {k n : Int} (hk : Lv σ 3 k) (hn : 0 ≤ n ∧ n < 12) (hT : WT σ) (hF' : WF σ) {w : Int} (hw : 0 ≤ w ∧ w ≤ 6) : ∃ v : Int, PU κ A MX3_fieldFact 2 σ [vr A 3 k, .int (iI n), .int (iI w)] (.int (iI v)) := by
  have h : w = 0 ∨ w = 1 ∨ w = 2 ∨ w = 3 ∨ w = 4 ∨ w = 5 ∨ w = 6 := by omega
  rcases h with rfl | rfl | rfl | rfl | rfl | rfl | rfl
  · exact ⟨_, s_fF0 hk hn ((hF' k hk).2.1 n hn).1⟩
  · exact ⟨_, s_fF1 hk hn⟩
  · exact ⟨_, s_fF2 hk hn ((hF' k hk).2.1 n hn).1⟩
  · exact ⟨_, s_fF3 hk hn ((hF' k hk).2.1 n hn).1⟩
  · exact ⟨_, s_fF4 hk hn⟩
  · exact ⟨_, s_fF5 hk hn⟩
  · obtain ⟨v, -, h⟩ := s_fF6 (κ := κ) (A := A) hk hn hT hF'
    exact ⟨v, h⟩
theorem s_facta {κ : KK} {A : Nat → Int → Nat} {σ : ST} {p : Int} (hp : Lv σ 0 p) {w : Int} (hw : 0 ≤ w ∧ w ≤ 5) : ∃ v : Int, PU κ A MX0_fact 0 σ [vr A 0 p, .int (iI w)] (.int (iI v)) := by
  have h : w = 0 ∨ w = 1 ∨ w = 2 ∨ w = 3 ∨ w = 4 ∨ w = 5 := by omega
  rcases h with rfl | rfl | rfl | rfl | rfl | rfl
  · exact ⟨_, s_fact0 hp⟩
  · exact ⟨_, s_fact1 hp⟩
  · exact ⟨_, s_fact2 hp⟩
  · exact ⟨_, s_fact3 hp⟩
  · exact ⟨_, s_fact4 hp⟩
  · exact ⟨_, s_fact5 hp⟩
theorem s_eFa {κ : KK} {A : Nat → Int → Nat} {σ : ST} {p e : Int} (hp : Lv σ 0 p) (hw' : WP σ) (hS : WS σ) (he : 0 ≤ e ∧ e < σ 0 p 0) {w : Int} (hw : 0 ≤ w ∧ w ≤ 2) : ∃ v : Int, PU κ A MX0_entryFact 0 σ [vr A 0 p, .int (iI e), .int (iI w)] (.int (iI v)) := by
  have h : w = 0 ∨ w = 1 ∨ w = 2 := by omega
  rcases h with rfl | rfl | rfl
  · exact ⟨_, s_eF0 hp hw' hS he⟩
  · exact ⟨_, s_eF1 hp hw' hS he⟩
  · exact ⟨_, s_eF2 hp hw' hS he⟩
