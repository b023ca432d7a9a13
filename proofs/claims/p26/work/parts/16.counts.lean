def sumI (F : Int → Int) : Nat → Int
  | 0 => 0
  | m + 1 => sumI F m + F (m : Int)
theorem sumI_s {F : Int → Int} {j x : Int} (h : 0 ≤ j) (hf : F j = x) : sumI F (j + 1).toNat = sumI F j.toNat + x := by
  have e : (j + 1).toNat = j.toNat + 1 := by omega
  rw [e, sumI, Int.toNat_of_nonneg h, hf]
theorem sumI_e {F : Int → Int} {j x c c' : Int} (h : 0 ≤ j) (hc : c = sumI F j.toNat) (hf : F j = x) (hx : c + x = c') : c' = sumI F (j + 1).toNat := by
  rw [sumI_s h hf, ← hc, hx]
theorem sumI_0 (F : Int → Int) : 0 = sumI F (0 : Int).toNat := rfl
theorem sumI_congr {F G : Int → Int} (m : Nat) (h : ∀ j : Int, (0 ≤ j ∧ j < (m : Int)) → F j = G j) : sumI F m = sumI G m := by
  induction m with
  | zero => rfl
  | succ m ih =>
    rw [sumI, sumI, ih (fun j hj => h j (by omega)), h (m : Int) (by omega)]
/-- how many Things have the Shape s; -1: none -/
def cS (σ : ST) (s : Int) : Int := sumI (fun k => if σ 3 k 2 = s then 1 else 0) (σ 99 3 0).toNat
theorem cS_r (σ : ST) (s : Int) (m : Nat) : 0 ≤ sumI (fun k => if σ 3 k 2 = s then 1 else 0) m ∧ sumI (fun k => if σ 3 k 2 = s then 1 else 0) m ≤ (m : Int) := by
  induction m with
  | zero => exact ⟨Int.le_refl _, Int.le_refl _⟩
  | succ m ih =>
    unfold sumI
    show 0 ≤ _ + (if σ 3 (m : Int) 2 = s then 1 else 0) ∧ _ + (if σ 3 (m : Int) 2 = s then 1 else 0) ≤ _
    split <;> omega
noncomputable def prs (σ : ST) (k : Int) : Int := sumI (fun n => bI (isPr (σ 15 k n))) 12
noncomputable def wds (σ : ST) (k : Int) : Int := if σ 3 k 2 < 0 then 3 + 3 * σ 3 k 5 else 3 + σ 3 k 5 + prs σ k
theorem s_thingsWith {κ : KK} {A : Nat → Int → Nat} {σ : ST} {s : Int} (hs : -1 ≤ s ∧ s < cnt σ 1) (hT : WT σ) : PU κ A MX4_thingsWith 0 σ [vr A 4 0, vr A 1 s] (.int (iI (cS σ s))) := by
  intro g hh
  refine e_start rfl (by show (lg_sl _).length ≤ 4; simp [lg_sl, cat_rf, cat_i, cat_l, cat_r, cat_n]) (lv := [(0, vr A 4 0), (1, vr A 1 s)]) (by simp [lv_args, cat_rf, cat_i, cat_l, cat_r, cat_n]) ?_
  have hn1 := hT.1
  have hn2 := hT.2.1
  have loop : ∀ m : Nat, ∀ j : Int, ∀ c : Int, 0 ≤ j → j + (m : Int) = σ 99 3 0 → (c = sumI (fun k => if σ 3 k 2 = s then 1 else 0) j.toNat) → ∀ g, HR κ A g σ → Wp κ MX4_thingsWith 0 0 0 4 [(0, vr A 4 0), (1, vr A 1 s), (2, .int (iI c)), (3, .int (iI j))] [] g (PQ κ A σ (some (.int (iI (cS σ s))))) := by
    intro m
    induction m with
    | zero =>
      intro j c hj0 hjm hc g hh
      refine r_iload_n dX4_thingsWith_4 rfl rfl ?_
      refine r_aload_nO dX4_thingsWith_5 rfl rfl ?_
      refine e_getI (t := 4) (k := 1) 1 dX4_thingsWith_6 cb4 (by decide) mf_X4_40 (by rfl) rfl (by assumption) (lv1 _ 4 (fun _ => rfl)) ?_
      refine e_ic_ge 34 dX4_thingsWith_9 (by decide) ⟨by omega, by omega⟩ ⟨by omega, by omega⟩ (fun h9 => ?_) (fun h9 => by exfalso; omega)
      refine r_pc 34 rfl ?_
      refine r_iload_n dX4_thingsWith_34 rfl rfl ?_
      exact q_iret dX4_thingsWith_35 rfl (by rw [hc, show j = σ 99 3 0 by omega]; try rfl) (by assumption)
    | succ m ih =>
      intro j c hj0 hjm hc g hh
      have hjk : Lv σ 3 j := ⟨hj0, by show j < σ 99 3 0; omega⟩
      have h2 := (hT.2.2 j hjk).2.2.2.1
      refine r_iload_n dX4_thingsWith_4 rfl rfl ?_
      refine r_aload_nO dX4_thingsWith_5 rfl rfl ?_
      refine e_getI (t := 4) (k := 1) 1 dX4_thingsWith_6 cb4 (by decide) mf_X4_40 (by rfl) rfl (by assumption) (lv1 _ 4 (fun _ => rfl)) ?_
      refine e_ic_ge 34 dX4_thingsWith_9 (by decide) ⟨by omega, by omega⟩ ⟨by omega, by omega⟩ (fun h9 => by exfalso; omega) (fun h9 => ?_)
      refine r_pc 12 rfl ?_
      refine r_aload_nO dX4_thingsWith_12 rfl rfl ?_
      refine e_getF (t := 4) (k := 0) (t1 := 6) dX4_thingsWith_13 cb4 (by decide) mf_X4_11 (by rfl) (by rfl) (by decide) (by assumption) (lv1 _ 4 (fun _ => rfl)) ?_
      refine r_iload_n dX4_thingsWith_16 rfl rfl ?_
      refine e_aald (t := 6) (t1 := 3) dX4_thingsWith_17 (by decide) (by decide) (by decide) (by intro _; rfl) (by decide) (by assumption) (lv1 _ 6 (fun _ => rfl)) (by have e : ln 6 = 24 := rfl; omega) ?_
      refine e_rv (hT.2.2 j hjk).1 ?_
      refine e_getR (t := 3) (k := 2) (t1 := 1) 2 dX4_thingsWith_18 cb3 (by decide) mf_X4_62 (by rfl) (by rfl) (by decide) rfl (by assumption) (by assumption) ?_
      refine r_aload_nO dX4_thingsWith_21 rfl rfl ?_
      refine e_ac_ne (t := 1) 28 dX4_thingsWith_22 (by decide) (by assumption) (by decide) h2 hs (fun h22 => ?_) (fun h22 => ?_)
      · refine r_pc 28 rfl ?_
        refine e_iinc dX4_thingsWith_28 rfl (by decide) ?_
        refine r_goto 4 dX4_thingsWith_31 (by decide) ?_
        refine r_lv [(0, vr A 4 0), (1, vr A 1 s), (2, .int (iI c)), (3, .int (iI (j + 1)))] rfl ?_
        exact ih (j + 1) _ (by omega) (by omega) (sumI_e hj0 hc (if_neg h22) (Int.add_zero _)) g hh
      · refine r_pc 25 rfl ?_
        refine e_iinc dX4_thingsWith_25 rfl (by decide) ?_
        refine r_stw (by repeat' first | exact True.intro | refine And.intro (fun h => by first | rfl | exact cat_rf _ | exact absurd h (by decide)) ?_) ?_
        refine e_iinc dX4_thingsWith_28 rfl (by decide) ?_
        refine r_goto 4 dX4_thingsWith_31 (by decide) ?_
        refine r_lv [(0, vr A 4 0), (1, vr A 1 s), (2, .int (iI (c + 1))), (3, .int (iI (j + 1)))] rfl ?_
        exact ih (j + 1) _ (by omega) (by omega) (sumI_e hj0 hc (if_pos h22) rfl) g hh
  refine e_iconst dX4_thingsWith_0 ?_
  refine r_istore_n dX4_thingsWith_1 rfl (by decide) ?_
  refine r_stw (by repeat' first | exact True.intro | refine And.intro (fun h => by first | rfl | exact cat_rf _ | exact absurd h (by decide)) ?_) ?_
  refine e_iconst dX4_thingsWith_2 ?_
  refine r_istore_n dX4_thingsWith_3 rfl (by decide) ?_
  refine r_lv [(0, vr A 4 0), (1, vr A 1 s), (2, .int (iI 0)), (3, .int (iI 0))] rfl ?_
  exact loop (σ 99 3 0).toNat 0 0 (by omega) (by omega) rfl g hh
theorem s_allFields {κ : KK} {A : Nat → Int → Nat} {σ : ST} (hT : WT σ) : PU κ A MX4_allFields 0 σ [vr A 4 0] (.int (iI (sumI (fun k => σ 3 k 5) (σ 99 3 0).toNat))) := by
  intro g hh
  refine e_start rfl (by show (lg_sl _).length ≤ 3; simp [lg_sl, cat_rf, cat_i, cat_l, cat_r, cat_n]) (lv := [(0, vr A 4 0)]) (by simp [lv_args, cat_rf, cat_i, cat_l, cat_r, cat_n]) ?_
  have hn1 := hT.1
  have hn2 := hT.2.1
  have loop : ∀ m : Nat, ∀ j : Int, ∀ c : Int, 0 ≤ j → j + (m : Int) = σ 99 3 0 → (c = sumI (fun k => σ 3 k 5) j.toNat) → ∀ g, HR κ A g σ → Wp κ MX4_allFields 0 0 0 4 [(0, vr A 4 0), (1, .int (iI c)), (2, .int (iI j))] [] g (PQ κ A σ (some (.int (iI (sumI (fun k => σ 3 k 5) (σ 99 3 0).toNat))))) := by
    intro m
    induction m with
    | zero =>
      intro j c hj0 hjm hc g hh
      refine r_iload_n dX4_allFields_4 rfl rfl ?_
      refine r_aload_nO dX4_allFields_5 rfl rfl ?_
      refine e_getI (t := 4) (k := 1) 1 dX4_allFields_6 cb4 (by decide) mf_X4_40 (by rfl) rfl (by assumption) (lv1 _ 4 (fun _ => rfl)) ?_
      refine e_ic_ge 30 dX4_allFields_9 (by decide) ⟨by omega, by omega⟩ ⟨by omega, by omega⟩ (fun h9 => ?_) (fun h9 => by exfalso; omega)
      refine r_pc 30 rfl ?_
      refine r_iload_n dX4_allFields_30 rfl rfl ?_
      exact q_iret dX4_allFields_31 rfl (by rw [hc, show j = σ 99 3 0 by omega]; try rfl) (by assumption)
    | succ m ih =>
      intro j c hj0 hjm hc g hh
      have hjk : Lv σ 3 j := ⟨hj0, by show j < σ 99 3 0; omega⟩
      refine r_iload_n dX4_allFields_4 rfl rfl ?_
      refine r_aload_nO dX4_allFields_5 rfl rfl ?_
      refine e_getI (t := 4) (k := 1) 1 dX4_allFields_6 cb4 (by decide) mf_X4_40 (by rfl) rfl (by assumption) (lv1 _ 4 (fun _ => rfl)) ?_
      refine e_ic_ge 30 dX4_allFields_9 (by decide) ⟨by omega, by omega⟩ ⟨by omega, by omega⟩ (fun h9 => by exfalso; omega) (fun h9 => ?_)
      refine r_pc 12 rfl ?_
      refine r_iload_n dX4_allFields_12 rfl rfl ?_
      refine r_aload_nO dX4_allFields_13 rfl rfl ?_
      refine e_getF (t := 4) (k := 0) (t1 := 6) dX4_allFields_14 cb4 (by decide) mf_X4_11 (by rfl) (by rfl) (by decide) (by assumption) (lv1 _ 4 (fun _ => rfl)) ?_
      refine r_iload_n dX4_allFields_17 rfl rfl ?_
      refine e_aald (t := 6) (t1 := 3) dX4_allFields_18 (by decide) (by decide) (by decide) (by intro _; rfl) (by decide) (by assumption) (lv1 _ 6 (fun _ => rfl)) (by have e : ln 6 = 24 := rfl; omega) ?_
      refine e_rv (hT.2.2 j hjk).1 ?_
      refine e_getI (t := 3) (k := 5) 5 dX4_allFields_19 cb3 (by decide) mf_X4_141 (by rfl) rfl (by assumption) (by assumption) ?_
      first | refine e_iadd dX4_allFields_22 ?_ | refine r_iadd dX4_allFields_22 ?_
      refine r_istore_n dX4_allFields_23 rfl (by decide) ?_
      refine r_stw (by repeat' first | exact True.intro | refine And.intro (fun h => by first | rfl | exact cat_rf _ | exact absurd h (by decide)) ?_) ?_
      refine e_iinc dX4_allFields_24 rfl (by decide) ?_
      refine r_goto 4 dX4_allFields_27 (by decide) ?_
      refine r_lv [(0, vr A 4 0), (1, .int (iI (c + σ 3 j 5))), (2, .int (iI (j + 1)))] rfl ?_
      exact ih (j + 1) _ (by omega) (by omega) (sumI_e hj0 hc (rfl) rfl) g hh
  refine e_iconst dX4_allFields_0 ?_
  refine r_istore_n dX4_allFields_1 rfl (by decide) ?_
  refine r_stw (by repeat' first | exact True.intro | refine And.intro (fun h => by first | rfl | exact cat_rf _ | exact absurd h (by decide)) ?_) ?_
  refine e_iconst dX4_allFields_2 ?_
  refine r_istore_n dX4_allFields_3 rfl (by decide) ?_
  refine r_lv [(0, vr A 4 0), (1, .int (iI 0)), (2, .int (iI 0))] rfl ?_
  exact loop (σ 99 3 0).toNat 0 0 (by omega) (by omega) rfl g hh
theorem s_plT0 {κ : KK} {A : Nat → Int → Nat} {σ : ST}  : PU κ A MX4_placesTotal 1 σ [vr A 4 0, .int (iI 0)] (.int (iI (sumI (fun p => σ 0 p 0) 6))) := by
  intro g hh
  refine e_start rfl (by show (lg_sl _).length ≤ 4; simp [lg_sl, cat_rf, cat_i, cat_l, cat_r, cat_n]) (lv := [(0, vr A 4 0), (1, .int (iI 0))]) (by simp [lv_args, cat_rf, cat_i, cat_l, cat_r, cat_n]) ?_
  have loop : ∀ m : Nat, ∀ j : Int, ∀ c : Int, 0 ≤ j → j + (m : Int) = 6 → (c = sumI (fun p => σ 0 p 0) j.toNat) → ∀ g, HR κ A g σ → Wp κ MX4_placesTotal 1 0 0 4 [(0, vr A 4 0), (1, .int (iI 0)), (2, .int (iI c)), (3, .int (iI j))] [] g (PQ κ A σ (some (.int (iI (sumI (fun p => σ 0 p 0) 6))))) := by
    intro m
    induction m with
    | zero =>
      intro j c hj0 hjm hc g hh
      refine r_iload_n dX4_placesTotal_4 rfl rfl ?_
      refine e_bipush dX4_placesTotal_5 (by decide +kernel) ?_
      refine e_ic_ge 29 dX4_placesTotal_7 (by decide) ⟨by omega, by omega⟩ ⟨by omega, by omega⟩ (fun h7 => ?_) (fun h7 => by exfalso; omega)
      refine r_pc 29 rfl ?_
      refine r_iload_n dX4_placesTotal_29 rfl rfl ?_
      exact q_iret dX4_placesTotal_30 rfl (by rw [hc, show j = 6 by omega]; try rfl) (by assumption)
    | succ m ih =>
      intro j c hj0 hjm hc g hh
      have hjp : Lv σ 0 j := ⟨hj0, by show j < 6; omega⟩
      refine r_iload_n dX4_placesTotal_4 rfl rfl ?_
      refine e_bipush dX4_placesTotal_5 (by decide +kernel) ?_
      refine e_ic_ge 29 dX4_placesTotal_7 (by decide) ⟨by omega, by omega⟩ ⟨by omega, by omega⟩ (fun h7 => by exfalso; omega) (fun h7 => ?_)
      refine r_pc 10 rfl ?_
      refine r_iload_n dX4_placesTotal_10 rfl rfl ?_
      refine r_aload_nO dX4_placesTotal_11 rfl rfl ?_
      refine e_getF (t := 4) (k := 3) (t1 := 7) dX4_placesTotal_12 cb4 (by decide) mf_X4_24 (by rfl) (by rfl) (by decide) (by assumption) (lv1 _ 4 (fun _ => rfl)) ?_
      refine r_iload_n dX4_placesTotal_15 rfl rfl ?_
      refine e_aald7 dX4_placesTotal_16 (by assumption) (by have e : ln 7 = 6 := rfl; omega) ?_
      refine r_iload_n dX4_placesTotal_17 rfl rfl ?_
      refine e_callVP (z := MX0_fact) dX4_placesTotal_18 ml_X4_182 cz_X0_fact mk_X0_fact ms_X0_fact cb0 (by decide) (s_fact0 hjp) rfl rfl (by simp [cat_rf, cat_i, cat_l, cat_r, cat_n]) (by decide) (by assumption) (by assumption) (fun g hh => ?_)
      refine r_pc 21 rfl ?_
      first | refine e_iadd dX4_placesTotal_21 ?_ | refine r_iadd dX4_placesTotal_21 ?_
      refine r_istore_n dX4_placesTotal_22 rfl (by decide) ?_
      refine e_iinc dX4_placesTotal_23 rfl (by decide) ?_
      refine r_goto 4 dX4_placesTotal_26 (by decide) ?_
      refine r_lv [(0, vr A 4 0), (1, .int (iI 0)), (2, .int (iI (c + σ 0 j 0))), (3, .int (iI (j + 1)))] rfl ?_
      exact ih (j + 1) _ (by omega) (by omega) (sumI_e hj0 hc (rfl) rfl) g hh
  refine e_iconst dX4_placesTotal_0 ?_
  refine r_istore_n dX4_placesTotal_1 rfl (by decide) ?_
  refine e_iconst dX4_placesTotal_2 ?_
  refine r_istore_n dX4_placesTotal_3 rfl (by decide) ?_
  refine r_lv [(0, vr A 4 0), (1, .int (iI 0)), (2, .int (iI 0)), (3, .int (iI 0))] rfl ?_
  exact loop 6 0 0 (by omega) (by omega) rfl g hh
theorem s_plT1 {κ : KK} {A : Nat → Int → Nat} {σ : ST}  : PU κ A MX4_placesTotal 1 σ [vr A 4 0, .int (iI 1)] (.int (iI (sumI (fun p => σ 0 p 4) 6))) := by
  intro g hh
  refine e_start rfl (by show (lg_sl _).length ≤ 4; simp [lg_sl, cat_rf, cat_i, cat_l, cat_r, cat_n]) (lv := [(0, vr A 4 0), (1, .int (iI 1))]) (by simp [lv_args, cat_rf, cat_i, cat_l, cat_r, cat_n]) ?_
  have loop : ∀ m : Nat, ∀ j : Int, ∀ c : Int, 0 ≤ j → j + (m : Int) = 6 → (c = sumI (fun p => σ 0 p 4) j.toNat) → ∀ g, HR κ A g σ → Wp κ MX4_placesTotal 1 0 0 4 [(0, vr A 4 0), (1, .int (iI 1)), (2, .int (iI c)), (3, .int (iI j))] [] g (PQ κ A σ (some (.int (iI (sumI (fun p => σ 0 p 4) 6))))) := by
    intro m
    induction m with
    | zero =>
      intro j c hj0 hjm hc g hh
      refine r_iload_n dX4_placesTotal_4 rfl rfl ?_
      refine e_bipush dX4_placesTotal_5 (by decide +kernel) ?_
      refine e_ic_ge 29 dX4_placesTotal_7 (by decide) ⟨by omega, by omega⟩ ⟨by omega, by omega⟩ (fun h7 => ?_) (fun h7 => by exfalso; omega)
      refine r_pc 29 rfl ?_
      refine r_iload_n dX4_placesTotal_29 rfl rfl ?_
      exact q_iret dX4_placesTotal_30 rfl (by rw [hc, show j = 6 by omega]; try rfl) (by assumption)
    | succ m ih =>
      intro j c hj0 hjm hc g hh
      have hjp : Lv σ 0 j := ⟨hj0, by show j < 6; omega⟩
      refine r_iload_n dX4_placesTotal_4 rfl rfl ?_
      refine e_bipush dX4_placesTotal_5 (by decide +kernel) ?_
      refine e_ic_ge 29 dX4_placesTotal_7 (by decide) ⟨by omega, by omega⟩ ⟨by omega, by omega⟩ (fun h7 => by exfalso; omega) (fun h7 => ?_)
      refine r_pc 10 rfl ?_
      refine r_iload_n dX4_placesTotal_10 rfl rfl ?_
      refine r_aload_nO dX4_placesTotal_11 rfl rfl ?_
      refine e_getF (t := 4) (k := 3) (t1 := 7) dX4_placesTotal_12 cb4 (by decide) mf_X4_24 (by rfl) (by rfl) (by decide) (by assumption) (lv1 _ 4 (fun _ => rfl)) ?_
      refine r_iload_n dX4_placesTotal_15 rfl rfl ?_
      refine e_aald7 dX4_placesTotal_16 (by assumption) (by have e : ln 7 = 6 := rfl; omega) ?_
      refine r_iload_n dX4_placesTotal_17 rfl rfl ?_
      refine e_callVP (z := MX0_fact) dX4_placesTotal_18 ml_X4_182 cz_X0_fact mk_X0_fact ms_X0_fact cb0 (by decide) (s_fact1 hjp) rfl rfl (by simp [cat_rf, cat_i, cat_l, cat_r, cat_n]) (by decide) (by assumption) (by assumption) (fun g hh => ?_)
      refine r_pc 21 rfl ?_
      first | refine e_iadd dX4_placesTotal_21 ?_ | refine r_iadd dX4_placesTotal_21 ?_
      refine r_istore_n dX4_placesTotal_22 rfl (by decide) ?_
      refine e_iinc dX4_placesTotal_23 rfl (by decide) ?_
      refine r_goto 4 dX4_placesTotal_26 (by decide) ?_
      refine r_lv [(0, vr A 4 0), (1, .int (iI 1)), (2, .int (iI (c + σ 0 j 4))), (3, .int (iI (j + 1)))] rfl ?_
      exact ih (j + 1) _ (by omega) (by omega) (sumI_e hj0 hc (rfl) rfl) g hh
  refine e_iconst dX4_placesTotal_0 ?_
  refine r_istore_n dX4_placesTotal_1 rfl (by decide) ?_
  refine e_iconst dX4_placesTotal_2 ?_
  refine r_istore_n dX4_placesTotal_3 rfl (by decide) ?_
  refine r_lv [(0, vr A 4 0), (1, .int (iI 1)), (2, .int (iI 0)), (3, .int (iI 0))] rfl ?_
  exact loop 6 0 0 (by omega) (by omega) rfl g hh
theorem s_plT2 {κ : KK} {A : Nat → Int → Nat} {σ : ST}  : PU κ A MX4_placesTotal 1 σ [vr A 4 0, .int (iI 2)] (.int (iI (sumI (fun p => σ 0 p 5) 6))) := by
  intro g hh
  refine e_start rfl (by show (lg_sl _).length ≤ 4; simp [lg_sl, cat_rf, cat_i, cat_l, cat_r, cat_n]) (lv := [(0, vr A 4 0), (1, .int (iI 2))]) (by simp [lv_args, cat_rf, cat_i, cat_l, cat_r, cat_n]) ?_
  have loop : ∀ m : Nat, ∀ j : Int, ∀ c : Int, 0 ≤ j → j + (m : Int) = 6 → (c = sumI (fun p => σ 0 p 5) j.toNat) → ∀ g, HR κ A g σ → Wp κ MX4_placesTotal 1 0 0 4 [(0, vr A 4 0), (1, .int (iI 2)), (2, .int (iI c)), (3, .int (iI j))] [] g (PQ κ A σ (some (.int (iI (sumI (fun p => σ 0 p 5) 6))))) := by
    intro m
    induction m with
    | zero =>
      intro j c hj0 hjm hc g hh
      refine r_iload_n dX4_placesTotal_4 rfl rfl ?_
      refine e_bipush dX4_placesTotal_5 (by decide +kernel) ?_
      refine e_ic_ge 29 dX4_placesTotal_7 (by decide) ⟨by omega, by omega⟩ ⟨by omega, by omega⟩ (fun h7 => ?_) (fun h7 => by exfalso; omega)
      refine r_pc 29 rfl ?_
      refine r_iload_n dX4_placesTotal_29 rfl rfl ?_
      exact q_iret dX4_placesTotal_30 rfl (by rw [hc, show j = 6 by omega]; try rfl) (by assumption)
    | succ m ih =>
      intro j c hj0 hjm hc g hh
      have hjp : Lv σ 0 j := ⟨hj0, by show j < 6; omega⟩
      refine r_iload_n dX4_placesTotal_4 rfl rfl ?_
      refine e_bipush dX4_placesTotal_5 (by decide +kernel) ?_
      refine e_ic_ge 29 dX4_placesTotal_7 (by decide) ⟨by omega, by omega⟩ ⟨by omega, by omega⟩ (fun h7 => by exfalso; omega) (fun h7 => ?_)
      refine r_pc 10 rfl ?_
      refine r_iload_n dX4_placesTotal_10 rfl rfl ?_
      refine r_aload_nO dX4_placesTotal_11 rfl rfl ?_
      refine e_getF (t := 4) (k := 3) (t1 := 7) dX4_placesTotal_12 cb4 (by decide) mf_X4_24 (by rfl) (by rfl) (by decide) (by assumption) (lv1 _ 4 (fun _ => rfl)) ?_
      refine r_iload_n dX4_placesTotal_15 rfl rfl ?_
      refine e_aald7 dX4_placesTotal_16 (by assumption) (by have e : ln 7 = 6 := rfl; omega) ?_
      refine r_iload_n dX4_placesTotal_17 rfl rfl ?_
      refine e_callVP (z := MX0_fact) dX4_placesTotal_18 ml_X4_182 cz_X0_fact mk_X0_fact ms_X0_fact cb0 (by decide) (s_fact2 hjp) rfl rfl (by simp [cat_rf, cat_i, cat_l, cat_r, cat_n]) (by decide) (by assumption) (by assumption) (fun g hh => ?_)
      refine r_pc 21 rfl ?_
      first | refine e_iadd dX4_placesTotal_21 ?_ | refine r_iadd dX4_placesTotal_21 ?_
      refine r_istore_n dX4_placesTotal_22 rfl (by decide) ?_
      refine e_iinc dX4_placesTotal_23 rfl (by decide) ?_
      refine r_goto 4 dX4_placesTotal_26 (by decide) ?_
      refine r_lv [(0, vr A 4 0), (1, .int (iI 2)), (2, .int (iI (c + σ 0 j 5))), (3, .int (iI (j + 1)))] rfl ?_
      exact ih (j + 1) _ (by omega) (by omega) (sumI_e hj0 hc (rfl) rfl) g hh
  refine e_iconst dX4_placesTotal_0 ?_
  refine r_istore_n dX4_placesTotal_1 rfl (by decide) ?_
  refine e_iconst dX4_placesTotal_2 ?_
  refine r_istore_n dX4_placesTotal_3 rfl (by decide) ?_
  refine r_lv [(0, vr A 4 0), (1, .int (iI 2)), (2, .int (iI 0)), (3, .int (iI 0))] rfl ?_
  exact loop 6 0 0 (by omega) (by omega) rfl g hh
theorem s_plT3 {κ : KK} {A : Nat → Int → Nat} {σ : ST}  : PU κ A MX4_placesTotal 1 σ [vr A 4 0, .int (iI 3)] (.int (iI (sumI (fun p => σ 0 p 6) 6))) := by
  intro g hh
  refine e_start rfl (by show (lg_sl _).length ≤ 4; simp [lg_sl, cat_rf, cat_i, cat_l, cat_r, cat_n]) (lv := [(0, vr A 4 0), (1, .int (iI 3))]) (by simp [lv_args, cat_rf, cat_i, cat_l, cat_r, cat_n]) ?_
  have loop : ∀ m : Nat, ∀ j : Int, ∀ c : Int, 0 ≤ j → j + (m : Int) = 6 → (c = sumI (fun p => σ 0 p 6) j.toNat) → ∀ g, HR κ A g σ → Wp κ MX4_placesTotal 1 0 0 4 [(0, vr A 4 0), (1, .int (iI 3)), (2, .int (iI c)), (3, .int (iI j))] [] g (PQ κ A σ (some (.int (iI (sumI (fun p => σ 0 p 6) 6))))) := by
    intro m
    induction m with
    | zero =>
      intro j c hj0 hjm hc g hh
      refine r_iload_n dX4_placesTotal_4 rfl rfl ?_
      refine e_bipush dX4_placesTotal_5 (by decide +kernel) ?_
      refine e_ic_ge 29 dX4_placesTotal_7 (by decide) ⟨by omega, by omega⟩ ⟨by omega, by omega⟩ (fun h7 => ?_) (fun h7 => by exfalso; omega)
      refine r_pc 29 rfl ?_
      refine r_iload_n dX4_placesTotal_29 rfl rfl ?_
      exact q_iret dX4_placesTotal_30 rfl (by rw [hc, show j = 6 by omega]; try rfl) (by assumption)
    | succ m ih =>
      intro j c hj0 hjm hc g hh
      have hjp : Lv σ 0 j := ⟨hj0, by show j < 6; omega⟩
      refine r_iload_n dX4_placesTotal_4 rfl rfl ?_
      refine e_bipush dX4_placesTotal_5 (by decide +kernel) ?_
      refine e_ic_ge 29 dX4_placesTotal_7 (by decide) ⟨by omega, by omega⟩ ⟨by omega, by omega⟩ (fun h7 => by exfalso; omega) (fun h7 => ?_)
      refine r_pc 10 rfl ?_
      refine r_iload_n dX4_placesTotal_10 rfl rfl ?_
      refine r_aload_nO dX4_placesTotal_11 rfl rfl ?_
      refine e_getF (t := 4) (k := 3) (t1 := 7) dX4_placesTotal_12 cb4 (by decide) mf_X4_24 (by rfl) (by rfl) (by decide) (by assumption) (lv1 _ 4 (fun _ => rfl)) ?_
      refine r_iload_n dX4_placesTotal_15 rfl rfl ?_
      refine e_aald7 dX4_placesTotal_16 (by assumption) (by have e : ln 7 = 6 := rfl; omega) ?_
      refine r_iload_n dX4_placesTotal_17 rfl rfl ?_
      refine e_callVP (z := MX0_fact) dX4_placesTotal_18 ml_X4_182 cz_X0_fact mk_X0_fact ms_X0_fact cb0 (by decide) (s_fact3 hjp) rfl rfl (by simp [cat_rf, cat_i, cat_l, cat_r, cat_n]) (by decide) (by assumption) (by assumption) (fun g hh => ?_)
      refine r_pc 21 rfl ?_
      first | refine e_iadd dX4_placesTotal_21 ?_ | refine r_iadd dX4_placesTotal_21 ?_
      refine r_istore_n dX4_placesTotal_22 rfl (by decide) ?_
      refine e_iinc dX4_placesTotal_23 rfl (by decide) ?_
      refine r_goto 4 dX4_placesTotal_26 (by decide) ?_
      refine r_lv [(0, vr A 4 0), (1, .int (iI 3)), (2, .int (iI (c + σ 0 j 6))), (3, .int (iI (j + 1)))] rfl ?_
      exact ih (j + 1) _ (by omega) (by omega) (sumI_e hj0 hc (rfl) rfl) g hh
  refine e_iconst dX4_placesTotal_0 ?_
  refine r_istore_n dX4_placesTotal_1 rfl (by decide) ?_
  refine e_iconst dX4_placesTotal_2 ?_
  refine r_istore_n dX4_placesTotal_3 rfl (by decide) ?_
  refine r_lv [(0, vr A 4 0), (1, .int (iI 3)), (2, .int (iI 0)), (3, .int (iI 0))] rfl ?_
  exact loop 6 0 0 (by omega) (by omega) rfl g hh
theorem s_plT5 {κ : KK} {A : Nat → Int → Nat} {σ : ST}  : PU κ A MX4_placesTotal 1 σ [vr A 4 0, .int (iI 5)] (.int (iI (sumI (fun p => σ 0 p 8) 6))) := by
  intro g hh
  refine e_start rfl (by show (lg_sl _).length ≤ 4; simp [lg_sl, cat_rf, cat_i, cat_l, cat_r, cat_n]) (lv := [(0, vr A 4 0), (1, .int (iI 5))]) (by simp [lv_args, cat_rf, cat_i, cat_l, cat_r, cat_n]) ?_
  have loop : ∀ m : Nat, ∀ j : Int, ∀ c : Int, 0 ≤ j → j + (m : Int) = 6 → (c = sumI (fun p => σ 0 p 8) j.toNat) → ∀ g, HR κ A g σ → Wp κ MX4_placesTotal 1 0 0 4 [(0, vr A 4 0), (1, .int (iI 5)), (2, .int (iI c)), (3, .int (iI j))] [] g (PQ κ A σ (some (.int (iI (sumI (fun p => σ 0 p 8) 6))))) := by
    intro m
    induction m with
    | zero =>
      intro j c hj0 hjm hc g hh
      refine r_iload_n dX4_placesTotal_4 rfl rfl ?_
      refine e_bipush dX4_placesTotal_5 (by decide +kernel) ?_
      refine e_ic_ge 29 dX4_placesTotal_7 (by decide) ⟨by omega, by omega⟩ ⟨by omega, by omega⟩ (fun h7 => ?_) (fun h7 => by exfalso; omega)
      refine r_pc 29 rfl ?_
      refine r_iload_n dX4_placesTotal_29 rfl rfl ?_
      exact q_iret dX4_placesTotal_30 rfl (by rw [hc, show j = 6 by omega]; try rfl) (by assumption)
    | succ m ih =>
      intro j c hj0 hjm hc g hh
      have hjp : Lv σ 0 j := ⟨hj0, by show j < 6; omega⟩
      refine r_iload_n dX4_placesTotal_4 rfl rfl ?_
      refine e_bipush dX4_placesTotal_5 (by decide +kernel) ?_
      refine e_ic_ge 29 dX4_placesTotal_7 (by decide) ⟨by omega, by omega⟩ ⟨by omega, by omega⟩ (fun h7 => by exfalso; omega) (fun h7 => ?_)
      refine r_pc 10 rfl ?_
      refine r_iload_n dX4_placesTotal_10 rfl rfl ?_
      refine r_aload_nO dX4_placesTotal_11 rfl rfl ?_
      refine e_getF (t := 4) (k := 3) (t1 := 7) dX4_placesTotal_12 cb4 (by decide) mf_X4_24 (by rfl) (by rfl) (by decide) (by assumption) (lv1 _ 4 (fun _ => rfl)) ?_
      refine r_iload_n dX4_placesTotal_15 rfl rfl ?_
      refine e_aald7 dX4_placesTotal_16 (by assumption) (by have e : ln 7 = 6 := rfl; omega) ?_
      refine r_iload_n dX4_placesTotal_17 rfl rfl ?_
      refine e_callVP (z := MX0_fact) dX4_placesTotal_18 ml_X4_182 cz_X0_fact mk_X0_fact ms_X0_fact cb0 (by decide) (s_fact5 hjp) rfl rfl (by simp [cat_rf, cat_i, cat_l, cat_r, cat_n]) (by decide) (by assumption) (by assumption) (fun g hh => ?_)
      refine r_pc 21 rfl ?_
      first | refine e_iadd dX4_placesTotal_21 ?_ | refine r_iadd dX4_placesTotal_21 ?_
      refine r_istore_n dX4_placesTotal_22 rfl (by decide) ?_
      refine e_iinc dX4_placesTotal_23 rfl (by decide) ?_
      refine r_goto 4 dX4_placesTotal_26 (by decide) ?_
      refine r_lv [(0, vr A 4 0), (1, .int (iI 5)), (2, .int (iI (c + σ 0 j 8))), (3, .int (iI (j + 1)))] rfl ?_
      exact ih (j + 1) _ (by omega) (by omega) (sumI_e hj0 hc (rfl) rfl) g hh
  refine e_iconst dX4_placesTotal_0 ?_
  refine r_istore_n dX4_placesTotal_1 rfl (by decide) ?_
  refine e_iconst dX4_placesTotal_2 ?_
  refine r_istore_n dX4_placesTotal_3 rfl (by decide) ?_
  refine r_lv [(0, vr A 4 0), (1, .int (iI 5)), (2, .int (iI 0)), (3, .int (iI 0))] rfl ?_
  exact loop 6 0 0 (by omega) (by omega) rfl g hh
theorem s_prs {κ : KK} {A : Nat → Int → Nat} {σ : ST} {k : Int} (hk : Lv σ 3 k) (hF' : WF σ) : PU κ A MX3_pairs 1 σ [vr A 3 k] (.int (iI (prs σ k))) := by
  intro g hh
  refine e_start rfl (by show (lg_sl _).length ≤ 3; simp [lg_sl, cat_rf, cat_i, cat_l, cat_r, cat_n]) (lv := [(0, vr A 3 k)]) (by simp [lv_args, cat_rf, cat_i, cat_l, cat_r, cat_n]) ?_
  have loop : ∀ m : Nat, ∀ j : Int, ∀ c : Int, 0 ≤ j → j + (m : Int) = 12 → (c = sumI (fun n => bI (isPr (σ 15 k n))) j.toNat) → ∀ g, HR κ A g σ → Wp κ MX3_pairs 1 0 0 4 [(0, vr A 3 k), (1, .int (iI c)), (2, .int (iI j))] [] g (PQ κ A σ (some (.int (iI (prs σ k))))) := by
    intro m
    induction m with
    | zero =>
      intro j c hj0 hjm hc g hh
      refine r_iload_n dX3_pairs_4 rfl rfl ?_
      refine e_bipush dX3_pairs_5 (by decide +kernel) ?_
      refine e_ic_ge 28 dX3_pairs_7 (by decide) ⟨by omega, by omega⟩ ⟨by omega, by omega⟩ (fun h7 => ?_) (fun h7 => by exfalso; omega)
      refine r_pc 28 rfl ?_
      refine r_iload_n dX3_pairs_28 rfl rfl ?_
      exact q_iret dX3_pairs_29 rfl (by rw [hc, show j = 12 by omega]; try rfl) (by assumption)
    | succ m ih =>
      intro j c hj0 hjm hc g hh
      have h32 := ((hF' k hk).2.1 j (by omega)).1
      refine r_iload_n dX3_pairs_4 rfl rfl ?_
      refine e_bipush dX3_pairs_5 (by decide +kernel) ?_
      refine e_ic_ge 28 dX3_pairs_7 (by decide) ⟨by omega, by omega⟩ ⟨by omega, by omega⟩ (fun h7 => by exfalso; omega) (fun h7 => ?_)
      refine r_pc 10 rfl ?_
      refine r_aload_nO dX3_pairs_10 rfl rfl ?_
      refine r_iload_n dX3_pairs_11 rfl rfl ?_
      refine e_iconst dX3_pairs_12 ?_
      refine e_callVP (z := MX3_is) dX3_pairs_13 ml_X3_41 cz_X3_is mk_X3_is ms_X3_is cb3 (by decide) (s_is2 hk (by omega) h32) rfl rfl (by simp [cat_rf, cat_i, cat_l, cat_r, cat_n]) (by decide) (by assumption) (by assumption) (fun g hh => ?_)
      refine r_pc 16 rfl ?_
      refine e_ifeq_b 22 dX3_pairs_16 (by decide) (fun h16 => ?_) (fun h16 => ?_)
      · refine r_pc 22 rfl ?_
        refine e_iinc dX3_pairs_22 rfl (by decide) ?_
        refine r_goto 4 dX3_pairs_25 (by decide) ?_
        refine r_lv [(0, vr A 3 k), (1, .int (iI c)), (2, .int (iI (j + 1)))] rfl ?_
        exact ih (j + 1) _ (by omega) (by omega) (sumI_e hj0 hc (bI_f h16) (Int.add_zero _)) g hh
      · refine r_pc 19 rfl ?_
        refine e_iinc dX3_pairs_19 rfl (by decide) ?_
        refine r_stw (by repeat' first | exact True.intro | refine And.intro (fun h => by first | rfl | exact cat_rf _ | exact absurd h (by decide)) ?_) ?_
        refine e_iinc dX3_pairs_22 rfl (by decide) ?_
        refine r_goto 4 dX3_pairs_25 (by decide) ?_
        refine r_lv [(0, vr A 3 k), (1, .int (iI (c + 1))), (2, .int (iI (j + 1)))] rfl ?_
        exact ih (j + 1) _ (by omega) (by omega) (sumI_e hj0 hc (bI_t h16) rfl) g hh
  refine e_iconst dX3_pairs_0 ?_
  refine r_istore_n dX3_pairs_1 rfl (by decide) ?_
  refine r_stw (by repeat' first | exact True.intro | refine And.intro (fun h => by first | rfl | exact cat_rf _ | exact absurd h (by decide)) ?_) ?_
  refine e_iconst dX3_pairs_2 ?_
  refine r_istore_n dX3_pairs_3 rfl (by decide) ?_
  refine r_lv [(0, vr A 3 k), (1, .int (iI 0)), (2, .int (iI 0))] rfl ?_
  exact loop 12 0 0 (by omega) (by omega) rfl g hh
theorem s_loose {κ : KK} {A : Nat → Int → Nat} {σ : ST} {k : Int} (hk : Lv σ 3 k) : PU κ A MX4_looseWords 0 σ [vr A 3 k] (.int (iI (3 + 3 * σ 3 k 5))) := by
  intro g hh
  refine e_start rfl (by show (lg_sl _).length ≤ 1; simp [lg_sl, cat_rf, cat_i, cat_l, cat_r, cat_n]) (lv := [(0, vr A 3 k)]) (by simp [lv_args, cat_rf, cat_i, cat_l, cat_r, cat_n]) ?_
  refine e_iconst dX4_looseWords_0 ?_
  refine e_iconst dX4_looseWords_1 ?_
  refine r_aload_nO dX4_looseWords_2 rfl rfl ?_
  refine e_getI (t := 3) (k := 5) 5 dX4_looseWords_3 cb3 (by decide) mf_X4_141 (by rfl) rfl (by assumption) (by assumption) ?_
  first | refine e_imul dX4_looseWords_6 ?_ | refine r_imul dX4_looseWords_6 ?_
  first | refine e_iadd dX4_looseWords_7 ?_ | refine r_iadd dX4_looseWords_7 ?_
  exact q_iret dX4_looseWords_8 rfl (by rfl) (by assumption)
theorem s_shaped {κ : KK} {A : Nat → Int → Nat} {σ : ST} {k : Int} (hk : Lv σ 3 k) (hF' : WF σ) : PU κ A MX4_shapedWords 2 σ [vr A 3 k] (.int (iI (3 + σ 3 k 5 + prs σ k))) := by
  intro g hh
  refine e_start rfl (by show (lg_sl _).length ≤ 1; simp [lg_sl, cat_rf, cat_i, cat_l, cat_r, cat_n]) (lv := [(0, vr A 3 k)]) (by simp [lv_args, cat_rf, cat_i, cat_l, cat_r, cat_n]) ?_
  refine e_iconst dX4_shapedWords_0 ?_
  refine r_aload_nO dX4_shapedWords_1 rfl rfl ?_
  refine e_getI (t := 3) (k := 5) 5 dX4_shapedWords_2 cb3 (by decide) mf_X4_141 (by rfl) rfl (by assumption) (by assumption) ?_
  first | refine e_iadd dX4_shapedWords_5 ?_ | refine r_iadd dX4_shapedWords_5 ?_
  refine r_aload_nO dX4_shapedWords_6 rfl rfl ?_
  refine e_callVP (z := MX3_pairs) dX4_shapedWords_7 ml_X4_319 cz_X3_pairs mk_X3_pairs ms_X3_pairs cb3 (by decide) (s_prs hk hF') rfl rfl (by simp [cat_rf, cat_i, cat_l, cat_r, cat_n]) (by decide) (by assumption) (by assumption) (fun g hh => ?_)
  refine r_pc 10 rfl ?_
  first | refine e_iadd dX4_shapedWords_10 ?_ | refine r_iadd dX4_shapedWords_10 ?_
  exact q_iret dX4_shapedWords_11 rfl (by rfl) (by assumption)
theorem s_wordsOf {κ : KK} {A : Nat → Int → Nat} {σ : ST} {k : Int} (hk : Lv σ 3 k) (hF' : WF σ) : PU κ A MX4_wordsOf 3 σ [vr A 3 k] (.int (iI (wds σ k))) := by
  intro g hh
  refine e_start rfl (by show (lg_sl _).length ≤ 1; simp [lg_sl, cat_rf, cat_i, cat_l, cat_r, cat_n]) (lv := [(0, vr A 3 k)]) (by simp [lv_args, cat_rf, cat_i, cat_l, cat_r, cat_n]) ?_
  refine r_aload_nO dX4_wordsOf_0 rfl rfl ?_
  refine e_getR (t := 3) (k := 2) (t1 := 1) 2 dX4_wordsOf_1 cb3 (by decide) mf_X4_62 (by rfl) (by rfl) (by decide) rfl (by assumption) (by assumption) ?_
  refine e_ifnonnull 14 dX4_wordsOf_4 (by decide) (fun h4 => ?_) (fun h4 => ?_)
  · refine r_pc 14 rfl ?_
    refine r_aload_nO dX4_wordsOf_14 rfl rfl ?_
    refine e_callSP (z := MX4_shapedWords) dX4_wordsOf_15 ml_X4_326 cz_X4_shapedWords mk_X4_shapedWords (s_shaped hk hF') rfl rfl (by simp [cat_rf, cat_i, cat_l, cat_r, cat_n]) (by decide) (by assumption) (fun g hh => ?_)
    refine r_pc 18 rfl ?_
    exact q_iret dX4_wordsOf_18 rfl (by unfold wds; rw [if_neg (by omega)]) (by assumption)
  · refine r_pc 7 rfl ?_
    refine r_aload_nO dX4_wordsOf_7 rfl rfl ?_
    refine e_callSP (z := MX4_looseWords) dX4_wordsOf_8 ml_X4_323 cz_X4_looseWords mk_X4_looseWords (s_loose hk) rfl rfl (by simp [cat_rf, cat_i, cat_l, cat_r, cat_n]) (by decide) (by assumption) (fun g hh => ?_)
    refine r_pc 11 rfl ?_
    refine r_goto 18 dX4_wordsOf_11 (by decide) ?_
    exact q_iret dX4_wordsOf_18 rfl (by unfold wds; rw [if_pos h4]) (by assumption)
theorem s_allWords {κ : KK} {A : Nat → Int → Nat} {σ : ST} (hT : WT σ) (hS : WS σ) (hF' : WF σ) : PU κ A MX4_allWords 4 σ [vr A 4 0] (.int (iI (4 * σ 99 1 0 + 3 * sumI (fun p => σ 0 p 0) 6 + sumI (fun k => wds σ k) (σ 99 3 0).toNat))) := by
  intro g hh
  refine e_start rfl (by show (lg_sl _).length ≤ 3; simp [lg_sl, cat_rf, cat_i, cat_l, cat_r, cat_n]) (lv := [(0, vr A 4 0)]) (by simp [lv_args, cat_rf, cat_i, cat_l, cat_r, cat_n]) ?_
  have hn1 := hT.1
  have hn2 := hT.2.1
  have loop : ∀ m : Nat, ∀ j : Int, ∀ c : Int, 0 ≤ j → j + (m : Int) = σ 99 3 0 → (c = sumI (fun k => wds σ k) j.toNat) → ∀ g, HR κ A g σ → Wp κ MX4_allWords 4 0 0 20 [(0, vr A 4 0), (1, .int (iI (4 * σ 99 1 0 + 3 * sumI (fun p => σ 0 p 0) 6 + c))), (2, .int (iI j))] [] g (PQ κ A σ (some (.int (iI (4 * σ 99 1 0 + 3 * sumI (fun p => σ 0 p 0) 6 + sumI (fun k => wds σ k) (σ 99 3 0).toNat))))) := by
    intro m
    induction m with
    | zero =>
      intro j c hj0 hjm hc g hh
      refine r_iload_n dX4_allWords_20 rfl rfl ?_
      refine r_aload_nO dX4_allWords_21 rfl rfl ?_
      refine e_getI (t := 4) (k := 1) 1 dX4_allWords_22 cb4 (by decide) mf_X4_40 (by rfl) rfl (by assumption) (lv1 _ 4 (fun _ => rfl)) ?_
      refine e_ic_ge 46 dX4_allWords_25 (by decide) ⟨by omega, by omega⟩ ⟨by omega, by omega⟩ (fun h25 => ?_) (fun h25 => by exfalso; omega)
      refine r_pc 46 rfl ?_
      refine r_iload_n dX4_allWords_46 rfl rfl ?_
      exact q_iret dX4_allWords_47 rfl (by rw [hc, show j = σ 99 3 0 by omega]) (by assumption)
    | succ m ih =>
      intro j c hj0 hjm hc g hh
      have hjk : Lv σ 3 j := ⟨hj0, by show j < σ 99 3 0; omega⟩
      refine r_iload_n dX4_allWords_20 rfl rfl ?_
      refine r_aload_nO dX4_allWords_21 rfl rfl ?_
      refine e_getI (t := 4) (k := 1) 1 dX4_allWords_22 cb4 (by decide) mf_X4_40 (by rfl) rfl (by assumption) (lv1 _ 4 (fun _ => rfl)) ?_
      refine e_ic_ge 46 dX4_allWords_25 (by decide) ⟨by omega, by omega⟩ ⟨by omega, by omega⟩ (fun h25 => by exfalso; omega) (fun h25 => ?_)
      refine r_pc 28 rfl ?_
      refine r_iload_n dX4_allWords_28 rfl rfl ?_
      refine r_aload_nO dX4_allWords_29 rfl rfl ?_
      refine e_getF (t := 4) (k := 0) (t1 := 6) dX4_allWords_30 cb4 (by decide) mf_X4_11 (by rfl) (by rfl) (by decide) (by assumption) (lv1 _ 4 (fun _ => rfl)) ?_
      refine r_iload_n dX4_allWords_33 rfl rfl ?_
      refine e_aald (t := 6) (t1 := 3) dX4_allWords_34 (by decide) (by decide) (by decide) (by intro _; rfl) (by decide) (by assumption) (lv1 _ 6 (fun _ => rfl)) (by have e : ln 6 = 24 := rfl; omega) ?_
      refine e_rv (hT.2.2 j hjk).1 ?_
      refine e_callSP (z := MX4_wordsOf) dX4_allWords_35 ml_X4_345 cz_X4_wordsOf mk_X4_wordsOf (s_wordsOf hjk hF') rfl rfl (by simp [cat_rf, cat_i, cat_l, cat_r, cat_n]) (by decide) (by assumption) (fun g hh => ?_)
      refine r_pc 38 rfl ?_
      first | refine e_iadd dX4_allWords_38 ?_ | refine r_iadd dX4_allWords_38 ?_
      refine r_istore_n dX4_allWords_39 rfl (by decide) ?_
      refine r_stw (by repeat' first | exact True.intro | refine And.intro (fun h => by first | rfl | exact cat_rf _ | exact absurd h (by decide)) ?_) ?_
      refine e_iinc dX4_allWords_40 rfl (by decide) ?_
      refine r_goto 20 dX4_allWords_43 (by decide) ?_
      rw [Int.add_assoc]
      refine r_lv [(0, vr A 4 0), (1, .int (iI (4 * σ 99 1 0 + 3 * sumI (fun p => σ 0 p 0) 6 + (c + wds σ j)))), (2, .int (iI (j + 1)))] rfl ?_
      exact ih (j + 1) _ (by omega) (by omega) (sumI_e hj0 hc rfl rfl) g hh
  refine e_iconst dX4_allWords_0 ?_
  refine r_aload_nO dX4_allWords_1 rfl rfl ?_
  refine e_getF (t := 4) (k := 2) (t1 := 2) dX4_allWords_2 cb4 (by decide) mf_X4_18 (by rfl) (by rfl) (by decide) (by assumption) (lv1 _ 4 (fun _ => rfl)) ?_
  refine e_getI (t := 2) (k := 1) 1 dX4_allWords_5 cb2 (by decide) mf_X4_206 (by rfl) rfl (by assumption) (lv1 _ 2 (fun _ => rfl)) ?_
  refine e_iv hS.1 ?_
  first | refine e_imul dX4_allWords_8 ?_ | refine r_imul dX4_allWords_8 ?_
  refine e_iconst dX4_allWords_9 ?_
  refine r_aload_nO dX4_allWords_10 rfl rfl ?_
  refine e_iconst dX4_allWords_11 ?_
  refine e_callVP (z := MX4_placesTotal) dX4_allWords_12 ml_X4_220 cz_X4_placesTotal mk_X4_placesTotal ms_X4_placesTotal cb4 (by decide) (s_plT0) rfl rfl (by simp [cat_rf, cat_i, cat_l, cat_r, cat_n]) (by decide) (by assumption) (lv1 _ 4 (fun _ => rfl)) (fun g hh => ?_)
  refine r_pc 15 rfl ?_
  first | refine e_imul dX4_allWords_15 ?_ | refine r_imul dX4_allWords_15 ?_
  first | refine e_iadd dX4_allWords_16 ?_ | refine r_iadd dX4_allWords_16 ?_
  refine e_iv (show _ = 4 * σ 99 1 0 + 3 * sumI (fun p => σ 0 p 0) 6 + 0 by omega) ?_
  refine r_istore_n dX4_allWords_17 rfl (by decide) ?_
  refine r_stw (by repeat' first | exact True.intro | refine And.intro (fun h => by first | rfl | exact cat_rf _ | exact absurd h (by decide)) ?_) ?_
  refine e_iconst dX4_allWords_18 ?_
  refine r_istore_n dX4_allWords_19 rfl (by decide) ?_
  refine r_lv [(0, vr A 4 0), (1, .int (iI (4 * σ 99 1 0 + 3 * sumI (fun p => σ 0 p 0) 6 + 0))), (2, .int (iI 0))] rfl ?_
  exact loop (σ 99 3 0).toNat 0 0 (by omega) (by omega) rfl g hh
theorem s_unused {κ : KK} {A : Nat → Int → Nat} {σ : ST} (hT : WT σ) (hS : WS σ) : PU κ A MX4_unusedShapes 1 σ [vr A 4 0] (.int (iI (sumI (fun s => if cS σ s = 0 then 1 else 0) (σ 99 1 0).toNat))) := by
  intro g hh
  refine e_start rfl (by show (lg_sl _).length ≤ 3; simp [lg_sl, cat_rf, cat_i, cat_l, cat_r, cat_n]) (lv := [(0, vr A 4 0)]) (by simp [lv_args, cat_rf, cat_i, cat_l, cat_r, cat_n]) ?_
  have hn1 := hT.1
  have hn2 := hT.2.1
  have hs1 := hS.1
  have hs2 := hS.2.1
  have loop : ∀ m : Nat, ∀ j : Int, ∀ c : Int, 0 ≤ j → j + (m : Int) = σ 99 1 0 → (c = sumI (fun s => if cS σ s = 0 then 1 else 0) j.toNat) → ∀ g, HR κ A g σ → Wp κ MX4_unusedShapes 1 0 0 4 [(0, vr A 4 0), (1, .int (iI c)), (2, .int (iI j))] [] g (PQ κ A σ (some (.int (iI (sumI (fun s => if cS σ s = 0 then 1 else 0) (σ 99 1 0).toNat))))) := by
    intro m
    induction m with
    | zero =>
      intro j c hj0 hjm hc g hh
      refine r_iload_n dX4_unusedShapes_4 rfl rfl ?_
      refine r_aload_nO dX4_unusedShapes_5 rfl rfl ?_
      refine e_getF (t := 4) (k := 2) (t1 := 2) dX4_unusedShapes_6 cb4 (by decide) mf_X4_18 (by rfl) (by rfl) (by decide) (by assumption) (lv1 _ 4 (fun _ => rfl)) ?_
      refine e_getI (t := 2) (k := 1) 1 dX4_unusedShapes_9 cb2 (by decide) mf_X4_206 (by rfl) rfl (by assumption) (lv1 _ 2 (fun _ => rfl)) ?_
      refine e_ic_ge 40 dX4_unusedShapes_12 (by decide) ⟨by omega, by omega⟩ ⟨by omega, by omega⟩ (fun h12 => ?_) (fun h12 => by exfalso; omega)
      refine r_pc 40 rfl ?_
      refine r_iload_n dX4_unusedShapes_40 rfl rfl ?_
      exact q_iret dX4_unusedShapes_41 rfl (by rw [hc, show j = σ 99 1 0 by omega]; try rfl) (by assumption)
    | succ m ih =>
      intro j c hj0 hjm hc g hh
      have hjs : Lv σ 1 j := ⟨hj0, by show j < σ 99 1 0; omega⟩
      have hcr := cS_r σ j (σ 99 3 0).toNat
      refine r_iload_n dX4_unusedShapes_4 rfl rfl ?_
      refine r_aload_nO dX4_unusedShapes_5 rfl rfl ?_
      refine e_getF (t := 4) (k := 2) (t1 := 2) dX4_unusedShapes_6 cb4 (by decide) mf_X4_18 (by rfl) (by rfl) (by decide) (by assumption) (lv1 _ 4 (fun _ => rfl)) ?_
      refine e_getI (t := 2) (k := 1) 1 dX4_unusedShapes_9 cb2 (by decide) mf_X4_206 (by rfl) rfl (by assumption) (lv1 _ 2 (fun _ => rfl)) ?_
      refine e_ic_ge 40 dX4_unusedShapes_12 (by decide) ⟨by omega, by omega⟩ ⟨by omega, by omega⟩ (fun h12 => by exfalso; omega) (fun h12 => ?_)
      refine r_pc 15 rfl ?_
      refine r_aload_nO dX4_unusedShapes_15 rfl rfl ?_
      refine r_aload_nO dX4_unusedShapes_16 rfl rfl ?_
      refine e_getF (t := 4) (k := 2) (t1 := 2) dX4_unusedShapes_17 cb4 (by decide) mf_X4_18 (by rfl) (by rfl) (by decide) (by assumption) (lv1 _ 4 (fun _ => rfl)) ?_
      refine e_getF (t := 2) (k := 0) (t1 := 10) dX4_unusedShapes_20 cb2 (by decide) mf_X4_209 (by rfl) (by rfl) (by decide) (by assumption) (lv1 _ 2 (fun _ => rfl)) ?_
      refine r_iload_n dX4_unusedShapes_23 rfl rfl ?_
      refine e_aald (t := 10) (t1 := 1) dX4_unusedShapes_24 (by decide) (by decide) (by decide) (by intro _; rfl) (by decide) (by assumption) (lv1 _ 10 (fun _ => rfl)) (by have e : ln 10 = 80 := rfl; omega) ?_
      refine e_rv (hS.2.2 j hjs).1 ?_
      refine e_callVP (z := MX4_thingsWith) dX4_unusedShapes_25 ml_X4_359 cz_X4_thingsWith mk_X4_thingsWith ms_X4_thingsWith cb4 (by decide) (s_thingsWith ⟨by omega, hjs.2⟩ hT) rfl rfl (by simp [cat_rf, cat_i, cat_l, cat_r, cat_n]) (by decide) (by assumption) (lv1 _ 4 (fun _ => rfl)) (fun g hh => ?_)
      refine r_pc 28 rfl ?_
      have hcr2 : 0 ≤ cS σ j ∧ cS σ j ≤ 24 := by unfold cS; omega
      refine e_if_ne 34 dX4_unusedShapes_28 (by decide) ⟨by omega, by omega⟩ (fun h28 => ?_) (fun h28 => ?_)
      · refine r_pc 34 rfl ?_
        refine e_iinc dX4_unusedShapes_34 rfl (by decide) ?_
        refine r_goto 4 dX4_unusedShapes_37 (by decide) ?_
        refine r_lv [(0, vr A 4 0), (1, .int (iI c)), (2, .int (iI (j + 1)))] rfl ?_
        exact ih (j + 1) _ (by omega) (by omega) (sumI_e hj0 hc (if_neg h28) (Int.add_zero _)) g hh
      · refine r_pc 31 rfl ?_
        refine e_iinc dX4_unusedShapes_31 rfl (by decide) ?_
        refine r_stw (by repeat' first | exact True.intro | refine And.intro (fun h => by first | rfl | exact cat_rf _ | exact absurd h (by decide)) ?_) ?_
        refine e_iinc dX4_unusedShapes_34 rfl (by decide) ?_
        refine r_goto 4 dX4_unusedShapes_37 (by decide) ?_
        refine r_lv [(0, vr A 4 0), (1, .int (iI (c + 1))), (2, .int (iI (j + 1)))] rfl ?_
        exact ih (j + 1) _ (by omega) (by omega) (sumI_e hj0 hc (if_pos h28) rfl) g hh
  refine e_iconst dX4_unusedShapes_0 ?_
  refine r_istore_n dX4_unusedShapes_1 rfl (by decide) ?_
  refine r_stw (by repeat' first | exact True.intro | refine And.intro (fun h => by first | rfl | exact cat_rf _ | exact absurd h (by decide)) ?_) ?_
  refine e_iconst dX4_unusedShapes_2 ?_
  refine r_istore_n dX4_unusedShapes_3 rfl (by decide) ?_
  refine r_lv [(0, vr A 4 0), (1, .int (iI 0)), (2, .int (iI 0))] rfl ?_
  exact loop (σ 99 1 0).toNat 0 0 (by omega) (by omega) rfl g hh
theorem s_tot0 {κ : KK} {A : Nat → Int → Nat} {σ : ST} (hT : WT σ) (hS : WS σ) (hF' : WF σ) : PU κ A MX4_total 5 σ [vr A 4 0, .int (iI 0)] (.int (iI (σ 99 3 0))) := by
  intro g hh
  refine e_start rfl (by show (lg_sl _).length ≤ 2; simp [lg_sl, cat_rf, cat_i, cat_l, cat_r, cat_n]) (lv := [(0, vr A 4 0), (1, .int (iI 0))]) (by simp [lv_args, cat_rf, cat_i, cat_l, cat_r, cat_n]) ?_
  refine r_iload_n dX4_total_0 rfl rfl ?_
  refine r_tblIn (off := 55) 56 dX4_total_1 (by decide +kernel) (by decide +kernel) (by decide +kernel) (by decide) ?_
  refine r_aload_nO dX4_total_56 rfl rfl ?_
  refine e_getI (t := 4) (k := 1) 1 dX4_total_57 cb4 (by decide) mf_X4_40 (by rfl) rfl (by assumption) (lv1 _ 4 (fun _ => rfl)) ?_
  exact q_iret dX4_total_60 rfl (by exact hT.1) (by assumption)
theorem s_many0 {κ : KK} {A : Nat → Int → Nat} {σ : ST} (hT : WT σ) (hS : WS σ) (hF' : WF σ) : PU κ A MX4_many 6 σ [vr A 4 0, .int (iI 0)] (.int (iI (σ 99 3 0))) := by
  intro g hh
  refine e_start rfl (by show (lg_sl _).length ≤ 2; simp [lg_sl, cat_rf, cat_i, cat_l, cat_r, cat_n]) (lv := [(0, vr A 4 0), (1, .int (iI 0))]) (by simp [lv_args, cat_rf, cat_i, cat_l, cat_r, cat_n]) ?_
  refine r_iload_n dX4_many_0 rfl rfl ?_
  refine e_bipush dX4_many_1 (by decide +kernel) ?_
  refine e_callSV (z := MX4_needWhat) dX4_many_3 ml_X4_178 cz_X4_needWhat mk_X4_needWhat (s_needWhat (by omega)) rfl rfl (by simp [cat_rf, cat_i, cat_l, cat_r, cat_n]) (by decide) (by assumption) (fun g hh => ?_)
  refine r_pc 6 rfl ?_
  refine r_aload_nO dX4_many_6 rfl rfl ?_
  refine r_iload_n dX4_many_7 rfl rfl ?_
  refine e_callVP (z := MX4_total) dX4_many_8 ml_X4_217 cz_X4_total mk_X4_total ms_X4_total cb4 (by decide) (s_tot0 hT hS hF') rfl rfl (by simp [cat_rf, cat_i, cat_l, cat_r, cat_n]) (by decide) (by assumption) (lv1 _ 4 (fun _ => rfl)) (fun g hh => ?_)
  refine r_pc 11 rfl ?_
  exact q_iret dX4_many_11 rfl (by rfl) (by assumption)
theorem s_tot1 {κ : KK} {A : Nat → Int → Nat} {σ : ST} (hT : WT σ) (hS : WS σ) (hF' : WF σ) : PU κ A MX4_total 5 σ [vr A 4 0, .int (iI 1)] (.int (iI (sumI (fun k => σ 3 k 5) (σ 99 3 0).toNat))) := by
  intro g hh
  refine e_start rfl (by show (lg_sl _).length ≤ 2; simp [lg_sl, cat_rf, cat_i, cat_l, cat_r, cat_n]) (lv := [(0, vr A 4 0), (1, .int (iI 1))]) (by simp [lv_args, cat_rf, cat_i, cat_l, cat_r, cat_n]) ?_
  refine r_iload_n dX4_total_0 rfl rfl ?_
  refine r_tblIn (off := 60) 61 dX4_total_1 (by decide +kernel) (by decide +kernel) (by decide +kernel) (by decide) ?_
  refine r_aload_nO dX4_total_61 rfl rfl ?_
  refine e_callVP (z := MX4_allFields) dX4_total_62 ml_X4_368 cz_X4_allFields mk_X4_allFields ms_X4_allFields cb4 (by decide) (s_allFields hT) rfl rfl (by simp [cat_rf, cat_i, cat_l, cat_r, cat_n]) (by decide) (by assumption) (lv1 _ 4 (fun _ => rfl)) (fun g hh => ?_)
  refine r_pc 65 rfl ?_
  exact q_iret dX4_total_65 rfl (by rfl) (by assumption)
theorem s_many1 {κ : KK} {A : Nat → Int → Nat} {σ : ST} (hT : WT σ) (hS : WS σ) (hF' : WF σ) : PU κ A MX4_many 6 σ [vr A 4 0, .int (iI 1)] (.int (iI (sumI (fun k => σ 3 k 5) (σ 99 3 0).toNat))) := by
  intro g hh
  refine e_start rfl (by show (lg_sl _).length ≤ 2; simp [lg_sl, cat_rf, cat_i, cat_l, cat_r, cat_n]) (lv := [(0, vr A 4 0), (1, .int (iI 1))]) (by simp [lv_args, cat_rf, cat_i, cat_l, cat_r, cat_n]) ?_
  refine r_iload_n dX4_many_0 rfl rfl ?_
  refine e_bipush dX4_many_1 (by decide +kernel) ?_
  refine e_callSV (z := MX4_needWhat) dX4_many_3 ml_X4_178 cz_X4_needWhat mk_X4_needWhat (s_needWhat (by omega)) rfl rfl (by simp [cat_rf, cat_i, cat_l, cat_r, cat_n]) (by decide) (by assumption) (fun g hh => ?_)
  refine r_pc 6 rfl ?_
  refine r_aload_nO dX4_many_6 rfl rfl ?_
  refine r_iload_n dX4_many_7 rfl rfl ?_
  refine e_callVP (z := MX4_total) dX4_many_8 ml_X4_217 cz_X4_total mk_X4_total ms_X4_total cb4 (by decide) (s_tot1 hT hS hF') rfl rfl (by simp [cat_rf, cat_i, cat_l, cat_r, cat_n]) (by decide) (by assumption) (lv1 _ 4 (fun _ => rfl)) (fun g hh => ?_)
  refine r_pc 11 rfl ?_
  exact q_iret dX4_many_11 rfl (by rfl) (by assumption)
theorem s_tot2 {κ : KK} {A : Nat → Int → Nat} {σ : ST} (hT : WT σ) (hS : WS σ) (hF' : WF σ) : PU κ A MX4_total 5 σ [vr A 4 0, .int (iI 2)] (.int (iI (σ 99 1 0))) := by
  intro g hh
  refine e_start rfl (by show (lg_sl _).length ≤ 2; simp [lg_sl, cat_rf, cat_i, cat_l, cat_r, cat_n]) (lv := [(0, vr A 4 0), (1, .int (iI 2))]) (by simp [lv_args, cat_rf, cat_i, cat_l, cat_r, cat_n]) ?_
  refine r_iload_n dX4_total_0 rfl rfl ?_
  refine r_tblIn (off := 65) 66 dX4_total_1 (by decide +kernel) (by decide +kernel) (by decide +kernel) (by decide) ?_
  refine r_aload_nO dX4_total_66 rfl rfl ?_
  refine e_getF (t := 4) (k := 2) (t1 := 2) dX4_total_67 cb4 (by decide) mf_X4_18 (by rfl) (by rfl) (by decide) (by assumption) (lv1 _ 4 (fun _ => rfl)) ?_
  refine e_getI (t := 2) (k := 1) 1 dX4_total_70 cb2 (by decide) mf_X4_206 (by rfl) rfl (by assumption) (lv1 _ 2 (fun _ => rfl)) ?_
  exact q_iret dX4_total_73 rfl (by exact hS.1) (by assumption)
theorem s_many2 {κ : KK} {A : Nat → Int → Nat} {σ : ST} (hT : WT σ) (hS : WS σ) (hF' : WF σ) : PU κ A MX4_many 6 σ [vr A 4 0, .int (iI 2)] (.int (iI (σ 99 1 0))) := by
  intro g hh
  refine e_start rfl (by show (lg_sl _).length ≤ 2; simp [lg_sl, cat_rf, cat_i, cat_l, cat_r, cat_n]) (lv := [(0, vr A 4 0), (1, .int (iI 2))]) (by simp [lv_args, cat_rf, cat_i, cat_l, cat_r, cat_n]) ?_
  refine r_iload_n dX4_many_0 rfl rfl ?_
  refine e_bipush dX4_many_1 (by decide +kernel) ?_
  refine e_callSV (z := MX4_needWhat) dX4_many_3 ml_X4_178 cz_X4_needWhat mk_X4_needWhat (s_needWhat (by omega)) rfl rfl (by simp [cat_rf, cat_i, cat_l, cat_r, cat_n]) (by decide) (by assumption) (fun g hh => ?_)
  refine r_pc 6 rfl ?_
  refine r_aload_nO dX4_many_6 rfl rfl ?_
  refine r_iload_n dX4_many_7 rfl rfl ?_
  refine e_callVP (z := MX4_total) dX4_many_8 ml_X4_217 cz_X4_total mk_X4_total ms_X4_total cb4 (by decide) (s_tot2 hT hS hF') rfl rfl (by simp [cat_rf, cat_i, cat_l, cat_r, cat_n]) (by decide) (by assumption) (lv1 _ 4 (fun _ => rfl)) (fun g hh => ?_)
  refine r_pc 11 rfl ?_
  exact q_iret dX4_many_11 rfl (by rfl) (by assumption)
theorem s_tot3 {κ : KK} {A : Nat → Int → Nat} {σ : ST} (hT : WT σ) (hS : WS σ) (hF' : WF σ) : PU κ A MX4_total 5 σ [vr A 4 0, .int (iI 3)] (.int (iI (cS σ (-1)))) := by
  intro g hh
  refine e_start rfl (by show (lg_sl _).length ≤ 2; simp [lg_sl, cat_rf, cat_i, cat_l, cat_r, cat_n]) (lv := [(0, vr A 4 0), (1, .int (iI 3))]) (by simp [lv_args, cat_rf, cat_i, cat_l, cat_r, cat_n]) ?_
  refine r_iload_n dX4_total_0 rfl rfl ?_
  refine r_tblIn (off := 73) 74 dX4_total_1 (by decide +kernel) (by decide +kernel) (by decide +kernel) (by decide) ?_
  refine r_aload_nO dX4_total_74 rfl rfl ?_
  refine e_null A 1 dX4_total_75 ?_
  refine e_callVP (z := MX4_thingsWith) dX4_total_76 ml_X4_359 cz_X4_thingsWith mk_X4_thingsWith ms_X4_thingsWith cb4 (by decide) (s_thingsWith ⟨by omega, by have := hS.2.1; show -1 < σ 99 1 0; omega⟩ hT) rfl rfl (by simp [cat_rf, cat_i, cat_l, cat_r, cat_n]) (by decide) (by assumption) (lv1 _ 4 (fun _ => rfl)) (fun g hh => ?_)
  refine r_pc 79 rfl ?_
  exact q_iret dX4_total_79 rfl (by rfl) (by assumption)
theorem s_many3 {κ : KK} {A : Nat → Int → Nat} {σ : ST} (hT : WT σ) (hS : WS σ) (hF' : WF σ) : PU κ A MX4_many 6 σ [vr A 4 0, .int (iI 3)] (.int (iI (cS σ (-1)))) := by
  intro g hh
  refine e_start rfl (by show (lg_sl _).length ≤ 2; simp [lg_sl, cat_rf, cat_i, cat_l, cat_r, cat_n]) (lv := [(0, vr A 4 0), (1, .int (iI 3))]) (by simp [lv_args, cat_rf, cat_i, cat_l, cat_r, cat_n]) ?_
  refine r_iload_n dX4_many_0 rfl rfl ?_
  refine e_bipush dX4_many_1 (by decide +kernel) ?_
  refine e_callSV (z := MX4_needWhat) dX4_many_3 ml_X4_178 cz_X4_needWhat mk_X4_needWhat (s_needWhat (by omega)) rfl rfl (by simp [cat_rf, cat_i, cat_l, cat_r, cat_n]) (by decide) (by assumption) (fun g hh => ?_)
  refine r_pc 6 rfl ?_
  refine r_aload_nO dX4_many_6 rfl rfl ?_
  refine r_iload_n dX4_many_7 rfl rfl ?_
  refine e_callVP (z := MX4_total) dX4_many_8 ml_X4_217 cz_X4_total mk_X4_total ms_X4_total cb4 (by decide) (s_tot3 hT hS hF') rfl rfl (by simp [cat_rf, cat_i, cat_l, cat_r, cat_n]) (by decide) (by assumption) (lv1 _ 4 (fun _ => rfl)) (fun g hh => ?_)
  refine r_pc 11 rfl ?_
  exact q_iret dX4_many_11 rfl (by rfl) (by assumption)
theorem s_tot4 {κ : KK} {A : Nat → Int → Nat} {σ : ST} (hT : WT σ) (hS : WS σ) (hF' : WF σ) : PU κ A MX4_total 5 σ [vr A 4 0, .int (iI 4)] (.int (iI (sumI (fun p => σ 0 p 0) 6))) := by
  intro g hh
  refine e_start rfl (by show (lg_sl _).length ≤ 2; simp [lg_sl, cat_rf, cat_i, cat_l, cat_r, cat_n]) (lv := [(0, vr A 4 0), (1, .int (iI 4))]) (by simp [lv_args, cat_rf, cat_i, cat_l, cat_r, cat_n]) ?_
  refine r_iload_n dX4_total_0 rfl rfl ?_
  refine r_tblIn (off := 79) 80 dX4_total_1 (by decide +kernel) (by decide +kernel) (by decide +kernel) (by decide) ?_
  refine r_aload_nO dX4_total_80 rfl rfl ?_
  refine e_iconst dX4_total_81 ?_
  refine e_callVP (z := MX4_placesTotal) dX4_total_82 ml_X4_220 cz_X4_placesTotal mk_X4_placesTotal ms_X4_placesTotal cb4 (by decide) (s_plT0) rfl rfl (by simp [cat_rf, cat_i, cat_l, cat_r, cat_n]) (by decide) (by assumption) (lv1 _ 4 (fun _ => rfl)) (fun g hh => ?_)
  refine r_pc 85 rfl ?_
  exact q_iret dX4_total_85 rfl (by rfl) (by assumption)
theorem s_many4 {κ : KK} {A : Nat → Int → Nat} {σ : ST} (hT : WT σ) (hS : WS σ) (hF' : WF σ) : PU κ A MX4_many 6 σ [vr A 4 0, .int (iI 4)] (.int (iI (sumI (fun p => σ 0 p 0) 6))) := by
  intro g hh
  refine e_start rfl (by show (lg_sl _).length ≤ 2; simp [lg_sl, cat_rf, cat_i, cat_l, cat_r, cat_n]) (lv := [(0, vr A 4 0), (1, .int (iI 4))]) (by simp [lv_args, cat_rf, cat_i, cat_l, cat_r, cat_n]) ?_
  refine r_iload_n dX4_many_0 rfl rfl ?_
  refine e_bipush dX4_many_1 (by decide +kernel) ?_
  refine e_callSV (z := MX4_needWhat) dX4_many_3 ml_X4_178 cz_X4_needWhat mk_X4_needWhat (s_needWhat (by omega)) rfl rfl (by simp [cat_rf, cat_i, cat_l, cat_r, cat_n]) (by decide) (by assumption) (fun g hh => ?_)
  refine r_pc 6 rfl ?_
  refine r_aload_nO dX4_many_6 rfl rfl ?_
  refine r_iload_n dX4_many_7 rfl rfl ?_
  refine e_callVP (z := MX4_total) dX4_many_8 ml_X4_217 cz_X4_total mk_X4_total ms_X4_total cb4 (by decide) (s_tot4 hT hS hF') rfl rfl (by simp [cat_rf, cat_i, cat_l, cat_r, cat_n]) (by decide) (by assumption) (lv1 _ 4 (fun _ => rfl)) (fun g hh => ?_)
  refine r_pc 11 rfl ?_
  exact q_iret dX4_many_11 rfl (by rfl) (by assumption)
theorem s_tot5 {κ : KK} {A : Nat → Int → Nat} {σ : ST} (hT : WT σ) (hS : WS σ) (hF' : WF σ) : PU κ A MX4_total 5 σ [vr A 4 0, .int (iI 5)] (.int (iI (sumI (fun p => σ 0 p 4) 6))) := by
  intro g hh
  refine e_start rfl (by show (lg_sl _).length ≤ 2; simp [lg_sl, cat_rf, cat_i, cat_l, cat_r, cat_n]) (lv := [(0, vr A 4 0), (1, .int (iI 5))]) (by simp [lv_args, cat_rf, cat_i, cat_l, cat_r, cat_n]) ?_
  refine r_iload_n dX4_total_0 rfl rfl ?_
  refine r_tblIn (off := 85) 86 dX4_total_1 (by decide +kernel) (by decide +kernel) (by decide +kernel) (by decide) ?_
  refine r_aload_nO dX4_total_86 rfl rfl ?_
  refine e_iconst dX4_total_87 ?_
  refine e_callVP (z := MX4_placesTotal) dX4_total_88 ml_X4_220 cz_X4_placesTotal mk_X4_placesTotal ms_X4_placesTotal cb4 (by decide) (s_plT1) rfl rfl (by simp [cat_rf, cat_i, cat_l, cat_r, cat_n]) (by decide) (by assumption) (lv1 _ 4 (fun _ => rfl)) (fun g hh => ?_)
  refine r_pc 91 rfl ?_
  exact q_iret dX4_total_91 rfl (by rfl) (by assumption)
theorem s_many5 {κ : KK} {A : Nat → Int → Nat} {σ : ST} (hT : WT σ) (hS : WS σ) (hF' : WF σ) : PU κ A MX4_many 6 σ [vr A 4 0, .int (iI 5)] (.int (iI (sumI (fun p => σ 0 p 4) 6))) := by
  intro g hh
  refine e_start rfl (by show (lg_sl _).length ≤ 2; simp [lg_sl, cat_rf, cat_i, cat_l, cat_r, cat_n]) (lv := [(0, vr A 4 0), (1, .int (iI 5))]) (by simp [lv_args, cat_rf, cat_i, cat_l, cat_r, cat_n]) ?_
  refine r_iload_n dX4_many_0 rfl rfl ?_
  refine e_bipush dX4_many_1 (by decide +kernel) ?_
  refine e_callSV (z := MX4_needWhat) dX4_many_3 ml_X4_178 cz_X4_needWhat mk_X4_needWhat (s_needWhat (by omega)) rfl rfl (by simp [cat_rf, cat_i, cat_l, cat_r, cat_n]) (by decide) (by assumption) (fun g hh => ?_)
  refine r_pc 6 rfl ?_
  refine r_aload_nO dX4_many_6 rfl rfl ?_
  refine r_iload_n dX4_many_7 rfl rfl ?_
  refine e_callVP (z := MX4_total) dX4_many_8 ml_X4_217 cz_X4_total mk_X4_total ms_X4_total cb4 (by decide) (s_tot5 hT hS hF') rfl rfl (by simp [cat_rf, cat_i, cat_l, cat_r, cat_n]) (by decide) (by assumption) (lv1 _ 4 (fun _ => rfl)) (fun g hh => ?_)
  refine r_pc 11 rfl ?_
  exact q_iret dX4_many_11 rfl (by rfl) (by assumption)
theorem s_tot6 {κ : KK} {A : Nat → Int → Nat} {σ : ST} (hT : WT σ) (hS : WS σ) (hF' : WF σ) : PU κ A MX4_total 5 σ [vr A 4 0, .int (iI 6)] (.int (iI (sumI (fun p => σ 0 p 5) 6))) := by
  intro g hh
  refine e_start rfl (by show (lg_sl _).length ≤ 2; simp [lg_sl, cat_rf, cat_i, cat_l, cat_r, cat_n]) (lv := [(0, vr A 4 0), (1, .int (iI 6))]) (by simp [lv_args, cat_rf, cat_i, cat_l, cat_r, cat_n]) ?_
  refine r_iload_n dX4_total_0 rfl rfl ?_
  refine r_tblIn (off := 91) 92 dX4_total_1 (by decide +kernel) (by decide +kernel) (by decide +kernel) (by decide) ?_
  refine r_aload_nO dX4_total_92 rfl rfl ?_
  refine e_iconst dX4_total_93 ?_
  refine e_callVP (z := MX4_placesTotal) dX4_total_94 ml_X4_220 cz_X4_placesTotal mk_X4_placesTotal ms_X4_placesTotal cb4 (by decide) (s_plT2) rfl rfl (by simp [cat_rf, cat_i, cat_l, cat_r, cat_n]) (by decide) (by assumption) (lv1 _ 4 (fun _ => rfl)) (fun g hh => ?_)
  refine r_pc 97 rfl ?_
  exact q_iret dX4_total_97 rfl (by rfl) (by assumption)
theorem s_many6 {κ : KK} {A : Nat → Int → Nat} {σ : ST} (hT : WT σ) (hS : WS σ) (hF' : WF σ) : PU κ A MX4_many 6 σ [vr A 4 0, .int (iI 6)] (.int (iI (sumI (fun p => σ 0 p 5) 6))) := by
  intro g hh
  refine e_start rfl (by show (lg_sl _).length ≤ 2; simp [lg_sl, cat_rf, cat_i, cat_l, cat_r, cat_n]) (lv := [(0, vr A 4 0), (1, .int (iI 6))]) (by simp [lv_args, cat_rf, cat_i, cat_l, cat_r, cat_n]) ?_
  refine r_iload_n dX4_many_0 rfl rfl ?_
  refine e_bipush dX4_many_1 (by decide +kernel) ?_
  refine e_callSV (z := MX4_needWhat) dX4_many_3 ml_X4_178 cz_X4_needWhat mk_X4_needWhat (s_needWhat (by omega)) rfl rfl (by simp [cat_rf, cat_i, cat_l, cat_r, cat_n]) (by decide) (by assumption) (fun g hh => ?_)
  refine r_pc 6 rfl ?_
  refine r_aload_nO dX4_many_6 rfl rfl ?_
  refine r_iload_n dX4_many_7 rfl rfl ?_
  refine e_callVP (z := MX4_total) dX4_many_8 ml_X4_217 cz_X4_total mk_X4_total ms_X4_total cb4 (by decide) (s_tot6 hT hS hF') rfl rfl (by simp [cat_rf, cat_i, cat_l, cat_r, cat_n]) (by decide) (by assumption) (lv1 _ 4 (fun _ => rfl)) (fun g hh => ?_)
  refine r_pc 11 rfl ?_
  exact q_iret dX4_many_11 rfl (by rfl) (by assumption)
theorem s_tot7 {κ : KK} {A : Nat → Int → Nat} {σ : ST} (hT : WT σ) (hS : WS σ) (hF' : WF σ) : PU κ A MX4_total 5 σ [vr A 4 0, .int (iI 7)] (.int (iI (sumI (fun p => σ 0 p 6) 6))) := by
  intro g hh
  refine e_start rfl (by show (lg_sl _).length ≤ 2; simp [lg_sl, cat_rf, cat_i, cat_l, cat_r, cat_n]) (lv := [(0, vr A 4 0), (1, .int (iI 7))]) (by simp [lv_args, cat_rf, cat_i, cat_l, cat_r, cat_n]) ?_
  refine r_iload_n dX4_total_0 rfl rfl ?_
  refine r_tblIn (off := 97) 98 dX4_total_1 (by decide +kernel) (by decide +kernel) (by decide +kernel) (by decide) ?_
  refine r_aload_nO dX4_total_98 rfl rfl ?_
  refine e_iconst dX4_total_99 ?_
  refine e_callVP (z := MX4_placesTotal) dX4_total_100 ml_X4_220 cz_X4_placesTotal mk_X4_placesTotal ms_X4_placesTotal cb4 (by decide) (s_plT3) rfl rfl (by simp [cat_rf, cat_i, cat_l, cat_r, cat_n]) (by decide) (by assumption) (lv1 _ 4 (fun _ => rfl)) (fun g hh => ?_)
  refine r_pc 103 rfl ?_
  exact q_iret dX4_total_103 rfl (by rfl) (by assumption)
theorem s_many7 {κ : KK} {A : Nat → Int → Nat} {σ : ST} (hT : WT σ) (hS : WS σ) (hF' : WF σ) : PU κ A MX4_many 6 σ [vr A 4 0, .int (iI 7)] (.int (iI (sumI (fun p => σ 0 p 6) 6))) := by
  intro g hh
  refine e_start rfl (by show (lg_sl _).length ≤ 2; simp [lg_sl, cat_rf, cat_i, cat_l, cat_r, cat_n]) (lv := [(0, vr A 4 0), (1, .int (iI 7))]) (by simp [lv_args, cat_rf, cat_i, cat_l, cat_r, cat_n]) ?_
  refine r_iload_n dX4_many_0 rfl rfl ?_
  refine e_bipush dX4_many_1 (by decide +kernel) ?_
  refine e_callSV (z := MX4_needWhat) dX4_many_3 ml_X4_178 cz_X4_needWhat mk_X4_needWhat (s_needWhat (by omega)) rfl rfl (by simp [cat_rf, cat_i, cat_l, cat_r, cat_n]) (by decide) (by assumption) (fun g hh => ?_)
  refine r_pc 6 rfl ?_
  refine r_aload_nO dX4_many_6 rfl rfl ?_
  refine r_iload_n dX4_many_7 rfl rfl ?_
  refine e_callVP (z := MX4_total) dX4_many_8 ml_X4_217 cz_X4_total mk_X4_total ms_X4_total cb4 (by decide) (s_tot7 hT hS hF') rfl rfl (by simp [cat_rf, cat_i, cat_l, cat_r, cat_n]) (by decide) (by assumption) (lv1 _ 4 (fun _ => rfl)) (fun g hh => ?_)
  refine r_pc 11 rfl ?_
  exact q_iret dX4_many_11 rfl (by rfl) (by assumption)
theorem s_tot9 {κ : KK} {A : Nat → Int → Nat} {σ : ST} (hT : WT σ) (hS : WS σ) (hF' : WF σ) : PU κ A MX4_total 5 σ [vr A 4 0, .int (iI 9)] (.int (iI (sumI (fun p => σ 0 p 8) 6))) := by
  intro g hh
  refine e_start rfl (by show (lg_sl _).length ≤ 2; simp [lg_sl, cat_rf, cat_i, cat_l, cat_r, cat_n]) (lv := [(0, vr A 4 0), (1, .int (iI 9))]) (by simp [lv_args, cat_rf, cat_i, cat_l, cat_r, cat_n]) ?_
  refine r_iload_n dX4_total_0 rfl rfl ?_
  refine r_tblIn (off := 108) 109 dX4_total_1 (by decide +kernel) (by decide +kernel) (by decide +kernel) (by decide) ?_
  refine r_aload_nO dX4_total_109 rfl rfl ?_
  refine e_iconst dX4_total_110 ?_
  refine e_callVP (z := MX4_placesTotal) dX4_total_111 ml_X4_220 cz_X4_placesTotal mk_X4_placesTotal ms_X4_placesTotal cb4 (by decide) (s_plT5) rfl rfl (by simp [cat_rf, cat_i, cat_l, cat_r, cat_n]) (by decide) (by assumption) (lv1 _ 4 (fun _ => rfl)) (fun g hh => ?_)
  refine r_pc 114 rfl ?_
  exact q_iret dX4_total_114 rfl (by rfl) (by assumption)
theorem s_many9 {κ : KK} {A : Nat → Int → Nat} {σ : ST} (hT : WT σ) (hS : WS σ) (hF' : WF σ) : PU κ A MX4_many 6 σ [vr A 4 0, .int (iI 9)] (.int (iI (sumI (fun p => σ 0 p 8) 6))) := by
  intro g hh
  refine e_start rfl (by show (lg_sl _).length ≤ 2; simp [lg_sl, cat_rf, cat_i, cat_l, cat_r, cat_n]) (lv := [(0, vr A 4 0), (1, .int (iI 9))]) (by simp [lv_args, cat_rf, cat_i, cat_l, cat_r, cat_n]) ?_
  refine r_iload_n dX4_many_0 rfl rfl ?_
  refine e_bipush dX4_many_1 (by decide +kernel) ?_
  refine e_callSV (z := MX4_needWhat) dX4_many_3 ml_X4_178 cz_X4_needWhat mk_X4_needWhat (s_needWhat (by omega)) rfl rfl (by simp [cat_rf, cat_i, cat_l, cat_r, cat_n]) (by decide) (by assumption) (fun g hh => ?_)
  refine r_pc 6 rfl ?_
  refine r_aload_nO dX4_many_6 rfl rfl ?_
  refine r_iload_n dX4_many_7 rfl rfl ?_
  refine e_callVP (z := MX4_total) dX4_many_8 ml_X4_217 cz_X4_total mk_X4_total ms_X4_total cb4 (by decide) (s_tot9 hT hS hF') rfl rfl (by simp [cat_rf, cat_i, cat_l, cat_r, cat_n]) (by decide) (by assumption) (lv1 _ 4 (fun _ => rfl)) (fun g hh => ?_)
  refine r_pc 11 rfl ?_
  exact q_iret dX4_many_11 rfl (by rfl) (by assumption)
theorem s_tot8 {κ : KK} {A : Nat → Int → Nat} {σ : ST} (hT : WT σ) (hS : WS σ) (hF' : WF σ) : PU κ A MX4_total 5 σ [vr A 4 0, .int (iI 8)] (.int (iI (4 * σ 99 1 0 + 3 * sumI (fun p => σ 0 p 0) 6 + sumI (fun k => wds σ k) (σ 99 3 0).toNat))) := by
  intro g hh
  refine e_start rfl (by show (lg_sl _).length ≤ 2; simp [lg_sl, cat_rf, cat_i, cat_l, cat_r, cat_n]) (lv := [(0, vr A 4 0), (1, .int (iI 8))]) (by simp [lv_args, cat_rf, cat_i, cat_l, cat_r, cat_n]) ?_
  refine r_iload_n dX4_total_0 rfl rfl ?_
  refine r_tblIn (off := 103) 104 dX4_total_1 (by decide +kernel) (by decide +kernel) (by decide +kernel) (by decide) ?_
  refine r_aload_nO dX4_total_104 rfl rfl ?_
  refine e_callVP (z := MX4_allWords) dX4_total_105 ml_X4_371 cz_X4_allWords mk_X4_allWords ms_X4_allWords cb4 (by decide) (s_allWords hT hS hF') rfl rfl (by simp [cat_rf, cat_i, cat_l, cat_r, cat_n]) (by decide) (by assumption) (lv1 _ 4 (fun _ => rfl)) (fun g hh => ?_)
  refine r_pc 108 rfl ?_
  exact q_iret dX4_total_108 rfl (by rfl) (by assumption)
theorem s_many8 {κ : KK} {A : Nat → Int → Nat} {σ : ST} (hT : WT σ) (hS : WS σ) (hF' : WF σ) : PU κ A MX4_many 6 σ [vr A 4 0, .int (iI 8)] (.int (iI (4 * σ 99 1 0 + 3 * sumI (fun p => σ 0 p 0) 6 + sumI (fun k => wds σ k) (σ 99 3 0).toNat))) := by
  intro g hh
  refine e_start rfl (by show (lg_sl _).length ≤ 2; simp [lg_sl, cat_rf, cat_i, cat_l, cat_r, cat_n]) (lv := [(0, vr A 4 0), (1, .int (iI 8))]) (by simp [lv_args, cat_rf, cat_i, cat_l, cat_r, cat_n]) ?_
  refine r_iload_n dX4_many_0 rfl rfl ?_
  refine e_bipush dX4_many_1 (by decide +kernel) ?_
  refine e_callSV (z := MX4_needWhat) dX4_many_3 ml_X4_178 cz_X4_needWhat mk_X4_needWhat (s_needWhat (by omega)) rfl rfl (by simp [cat_rf, cat_i, cat_l, cat_r, cat_n]) (by decide) (by assumption) (fun g hh => ?_)
  refine r_pc 6 rfl ?_
  refine r_aload_nO dX4_many_6 rfl rfl ?_
  refine r_iload_n dX4_many_7 rfl rfl ?_
  refine e_callVP (z := MX4_total) dX4_many_8 ml_X4_217 cz_X4_total mk_X4_total ms_X4_total cb4 (by decide) (s_tot8 hT hS hF') rfl rfl (by simp [cat_rf, cat_i, cat_l, cat_r, cat_n]) (by decide) (by assumption) (lv1 _ 4 (fun _ => rfl)) (fun g hh => ?_)
  refine r_pc 11 rfl ?_
  exact q_iret dX4_many_11 rfl (by rfl) (by assumption)
theorem s_tot10 {κ : KK} {A : Nat → Int → Nat} {σ : ST} (hT : WT σ) (hS : WS σ) (hF' : WF σ) : PU κ A MX4_total 5 σ [vr A 4 0, .int (iI 10)] (.int (iI (sumI (fun s => if cS σ s = 0 then 1 else 0) (σ 99 1 0).toNat))) := by
  intro g hh
  refine e_start rfl (by show (lg_sl _).length ≤ 2; simp [lg_sl, cat_rf, cat_i, cat_l, cat_r, cat_n]) (lv := [(0, vr A 4 0), (1, .int (iI 10))]) (by simp [lv_args, cat_rf, cat_i, cat_l, cat_r, cat_n]) ?_
  refine r_iload_n dX4_total_0 rfl rfl ?_
  refine r_tblOut 115 dX4_total_1 (by decide +kernel) (by decide) ?_
  refine r_aload_nO dX4_total_115 rfl rfl ?_
  refine e_callVP (z := MX4_unusedShapes) dX4_total_116 ml_X4_374 cz_X4_unusedShapes mk_X4_unusedShapes ms_X4_unusedShapes cb4 (by decide) (s_unused hT hS) rfl rfl (by simp [cat_rf, cat_i, cat_l, cat_r, cat_n]) (by decide) (by assumption) (lv1 _ 4 (fun _ => rfl)) (fun g hh => ?_)
  refine r_pc 119 rfl ?_
  exact q_iret dX4_total_119 rfl (by rfl) (by assumption)
theorem s_many10 {κ : KK} {A : Nat → Int → Nat} {σ : ST} (hT : WT σ) (hS : WS σ) (hF' : WF σ) : PU κ A MX4_many 6 σ [vr A 4 0, .int (iI 10)] (.int (iI (sumI (fun s => if cS σ s = 0 then 1 else 0) (σ 99 1 0).toNat))) := by
  intro g hh
  refine e_start rfl (by show (lg_sl _).length ≤ 2; simp [lg_sl, cat_rf, cat_i, cat_l, cat_r, cat_n]) (lv := [(0, vr A 4 0), (1, .int (iI 10))]) (by simp [lv_args, cat_rf, cat_i, cat_l, cat_r, cat_n]) ?_
  refine r_iload_n dX4_many_0 rfl rfl ?_
  refine e_bipush dX4_many_1 (by decide +kernel) ?_
  refine e_callSV (z := MX4_needWhat) dX4_many_3 ml_X4_178 cz_X4_needWhat mk_X4_needWhat (s_needWhat (by omega)) rfl rfl (by simp [cat_rf, cat_i, cat_l, cat_r, cat_n]) (by decide) (by assumption) (fun g hh => ?_)
  refine r_pc 6 rfl ?_
  refine r_aload_nO dX4_many_6 rfl rfl ?_
  refine r_iload_n dX4_many_7 rfl rfl ?_
  refine e_callVP (z := MX4_total) dX4_many_8 ml_X4_217 cz_X4_total mk_X4_total ms_X4_total cb4 (by decide) (s_tot10 hT hS hF') rfl rfl (by simp [cat_rf, cat_i, cat_l, cat_r, cat_n]) (by decide) (by assumption) (lv1 _ 4 (fun _ => rfl)) (fun g hh => ?_)
  refine r_pc 11 rfl ?_
  exact q_iret dX4_many_11 rfl (by rfl) (by assumption)
