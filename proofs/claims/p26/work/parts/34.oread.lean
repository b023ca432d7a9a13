theorem raI_held {v a : Int} (h1 : -1000 < v) (h2 : v < 1000) : (if v + a < -999 then -999 else if 999 < v + a then 999 else v + a) = raI v a := by
  unfold raI
  rw [if_neg (show ¬ v < -999 by omega), if_neg (show ¬ 999 < v by omega)]
theorem raI_id {v a : Int} (h : ¬ (-1000 < v ∧ v < 1000)) : v = raI v a := by
  unfold raI
  by_cases h1 : v < -999
  · rw [if_pos h1]
  · rw [if_neg h1, if_pos (by omega)]
theorem rdv_no {σ : ST} {l : List Int} {m : Nat} {n : Int} (h : hF σ n l < 0) : rdv σ l m n = -1000 := by
  cases m with
  | zero => exact if_pos h
  | succ m => exact if_pos h
theorem rdv_pl {σ : ST} {l : List Int} {m : Nat} {n : Int} (h : 0 ≤ hF σ n l) (h2 : σ 17 (hF σ n l) n = -1) : rdv σ l m n = σ 16 (hF σ n l) n := by
  cases m with
  | zero => exact if_neg (by omega)
  | succ m => rw [rdv, if_neg (by omega), if_pos h2]
theorem rdv_z {σ : ST} {l : List Int} {m : Nat} {n : Int} (h : 0 ≤ hF σ n l) (h2 : m = 0 ∨ σ 17 (hF σ n l) n = -1) : rdv σ l m n = σ 16 (hF σ n l) n := by
  rcases h2 with rfl | h2
  · exact if_neg (by omega)
  · exact rdv_pl h h2
theorem s_oread {κ : KK} {A : Nat → Int → Nat} {σ : ST} {τ : ST} {L : Int → List Int} (hO : OWN τ σ) (hT : WT τ) (hL : WL τ L) (hF' : WF τ) (hV : WV τ) {k : Int} (hk : Lv τ 3 k) : ∀ (m : Nat), m ≤ 6 → ∀ (n : Int), (0 ≤ n ∧ n < 12) → PU κ A MX5_read (m + 3) σ [vr A 5 0, .int (iI k), .int (iI n), .int (iI (m : Int))] (.int (iI (rdv τ (lo L k) m n))) := by
  have hkd := kd3 hk
  obtain ⟨hk22, hk24⟩ := lv24 (σ := σ) hT hk
  intro m
  induction m with
  | zero =>
    intro hm6
    intro n hn
    obtain ⟨ρ, hf, hfl⟩ := s_found (κ := κ) (A := A) hO hT hL hF' hV hk hn
    intro g hh
    refine e_start rfl (by show (lg_sl _).length ≤ 6; simp [lg_sl, cat_rf, cat_i, cat_l, cat_r, cat_n]) (lv := [(0, vr A 5 0), (1, .int (iI k)), (2, .int (iI n)), (3, .int (iI ((0 : Nat) : Int)))]) (by simp [lv_args, cat_rf, cat_i, cat_l, cat_r, cat_n]) ?_
    refine r_aload_nO dX5_read_0 rfl rfl ?_
    refine r_iload_n dX5_read_1 rfl rfl ?_
    refine r_iload_n dX5_read_2 rfl rfl ?_
    refine e_callVP (z := MX5_found) dX5_read_3 ml_X5_44 cz_X5_found mk_X5_found ms_X5_found cb5 (by decide) hfl rfl rfl (by simp [cat_rf, cat_i, cat_l, cat_r, cat_n]) (by omega) (by assumption) (lv1 _ 5 (fun _ => rfl)) (fun g hh => ?_)
    refine r_pc 6 rfl ?_
    refine r_astoreO dX5_read_6 (by decide) ?_
    refine r_aloadO dX5_read_8 rfl ?_
    refine e_ifnonnull 17 dX5_read_10 (by decide) (fun h10 => ?_) (fun h10 => ?_)
    · refine r_pc 17 rfl ?_
      obtain ⟨hh0, hρ, hrw⟩ := fnd_row hO hT hL hkd hf h10
      obtain ⟨hr0, hr3, hrp, hrn⟩ := hrw
      have hhk := hF_lv hT hL hkd hh0
      have hVh := hV _ n hhk hn
      by_cases hpr : isPr (τ 15 (hF τ n (lo L k)) n)
      · obtain ⟨hr1, hr2, hr5, hr6⟩ := hrp hpr
        refine r_aloadO dX5_read_17 rfl ?_
        refine e_iconst dX5_read_19 ?_
        refine e_iald (t := 25) dX5_read_20 (by decide) (by decide) (by rfl) (by intro _; rfl) (by assumption) (by assumption) (by have e : ln 25 = 7 := rfl; omega) ?_
        refine e_iv hr1 ?_
        refine e_iconst dX5_read_21 ?_
        refine e_ic_ne 30 dX5_read_22 (by decide) ⟨by omega, by omega⟩ ⟨by omega, by omega⟩ (fun h22 => ?_) (fun h22 => by exfalso; omega)
        refine r_pc 30 rfl ?_
        refine r_aloadO dX5_read_30 rfl ?_
        refine e_iconst dX5_read_32 ?_
        refine e_iald (t := 25) dX5_read_33 (by decide) (by decide) (by rfl) (by intro _; rfl) (by assumption) (by assumption) (by have e : ln 25 = 7 := rfl; omega) ?_
        refine e_iv hr2 ?_
        refine e_if_lt 41 dX5_read_34 (by decide) ⟨by omega, by omega⟩ (fun h34 => ?_) (fun h34 => ?_)
        · refine r_pc 41 rfl ?_
          refine e_sipush dX5_read_41 (by decide +kernel) ?_
          exact q_iret dX5_read_44 rfl (by rw [rdv_z hh0 (Or.inr (by omega))]; exact (hVh.2.2.2.2.1 hpr).symm) (by assumption)
        · refine r_pc 37 rfl ?_
          refine r_iload_n dX5_read_37 rfl rfl ?_
          refine e_if_ne 45 dX5_read_38 (by decide) ⟨by omega, by omega⟩ (fun h38 => by exfalso; omega) (fun h38 => ?_)
          refine r_pc 41 rfl ?_
          refine e_sipush dX5_read_41 (by decide +kernel) ?_
          exact q_iret dX5_read_44 rfl (by rw [rdv_z hh0 (Or.inl rfl)]; exact (hVh.2.2.2.2.1 hpr).symm) (by assumption)
      · obtain ⟨hr1, hr2⟩ := hrn hpr
        have h15n := (hF_in hh0).2
        refine r_aloadO dX5_read_17 rfl ?_
        refine e_iconst dX5_read_19 ?_
        refine e_iald (t := 25) dX5_read_20 (by decide) (by decide) (by rfl) (by intro _; rfl) (by assumption) (by assumption) (by have e : ln 25 = 7 := rfl; omega) ?_
        refine e_iv hr1 ?_
        refine e_iconst dX5_read_21 ?_
        refine e_ic_ne 30 dX5_read_22 (by decide) ⟨by omega, by omega⟩ ⟨by omega, by omega⟩ (fun h22 => by exfalso; omega) (fun h22 => ?_)
        refine r_pc 25 rfl ?_
        refine r_aloadO dX5_read_25 rfl ?_
        refine e_iconst dX5_read_27 ?_
        refine e_iald (t := 25) dX5_read_28 (by decide) (by decide) (by rfl) (by intro _; rfl) (by assumption) (by assumption) (by have e : ln 25 = 7 := rfl; omega) ?_
        refine e_iv hr2 ?_
        exact q_iret dX5_read_29 rfl (by exact (rdv_pl hh0 (hVh.2.2.2.2.2 h15n hpr)).symm) (by assumption)
    · refine r_pc 13 rfl ?_
      refine e_sipush dX5_read_13 (by decide +kernel) ?_
      exact q_iret dX5_read_16 rfl (by exact (rdv_no (fnd_neg hO hT hL hkd hf h10)).symm) (by assumption)
  | succ m ih0 =>
    intro hm6
    have ih := ih0 (by omega)
    intro n hn
    obtain ⟨ρ, hf, hfl⟩ := s_found (κ := κ) (A := A) hO hT hL hF' hV hk hn
    intro g hh
    refine e_start rfl (by show (lg_sl _).length ≤ 6; simp [lg_sl, cat_rf, cat_i, cat_l, cat_r, cat_n]) (lv := [(0, vr A 5 0), (1, .int (iI k)), (2, .int (iI n)), (3, .int (iI ((m + 1 : Nat) : Int)))]) (by simp [lv_args, cat_rf, cat_i, cat_l, cat_r, cat_n]) ?_
    refine r_aload_nO dX5_read_0 rfl rfl ?_
    refine r_iload_n dX5_read_1 rfl rfl ?_
    refine r_iload_n dX5_read_2 rfl rfl ?_
    refine e_callVP (z := MX5_found) dX5_read_3 ml_X5_44 cz_X5_found mk_X5_found ms_X5_found cb5 (by decide) hfl rfl rfl (by simp [cat_rf, cat_i, cat_l, cat_r, cat_n]) (by omega) (by assumption) (lv1 _ 5 (fun _ => rfl)) (fun g hh => ?_)
    refine r_pc 6 rfl ?_
    refine r_astoreO dX5_read_6 (by decide) ?_
    refine r_aloadO dX5_read_8 rfl ?_
    refine e_ifnonnull 17 dX5_read_10 (by decide) (fun h10 => ?_) (fun h10 => ?_)
    · refine r_pc 17 rfl ?_
      obtain ⟨hh0, hρ, hrw⟩ := fnd_row hO hT hL hkd hf h10
      obtain ⟨hr0, hr3, hrp, hrn⟩ := hrw
      have hhk := hF_lv hT hL hkd hh0
      have hVh := hV _ n hhk hn
      by_cases hpr : isPr (τ 15 (hF τ n (lo L k)) n)
      · obtain ⟨hr1, hr2, hr5, hr6⟩ := hrp hpr
        refine r_aloadO dX5_read_17 rfl ?_
        refine e_iconst dX5_read_19 ?_
        refine e_iald (t := 25) dX5_read_20 (by decide) (by decide) (by rfl) (by intro _; rfl) (by assumption) (by assumption) (by have e : ln 25 = 7 := rfl; omega) ?_
        refine e_iv hr1 ?_
        refine e_iconst dX5_read_21 ?_
        refine e_ic_ne 30 dX5_read_22 (by decide) ⟨by omega, by omega⟩ ⟨by omega, by omega⟩ (fun h22 => ?_) (fun h22 => by exfalso; omega)
        refine r_pc 30 rfl ?_
        refine r_aloadO dX5_read_30 rfl ?_
        refine e_iconst dX5_read_32 ?_
        refine e_iald (t := 25) dX5_read_33 (by decide) (by decide) (by rfl) (by intro _; rfl) (by assumption) (by assumption) (by have e : ln 25 = 7 := rfl; omega) ?_
        refine e_iv hr2 ?_
        refine e_if_lt 41 dX5_read_34 (by decide) ⟨by omega, by omega⟩ (fun h34 => ?_) (fun h34 => ?_)
        · refine r_pc 41 rfl ?_
          refine e_sipush dX5_read_41 (by decide +kernel) ?_
          exact q_iret dX5_read_44 rfl (by rw [rdv_z hh0 (Or.inr (by omega))]; exact (hVh.2.2.2.2.1 hpr).symm) (by assumption)
        · refine r_pc 37 rfl ?_
          refine r_iload_n dX5_read_37 rfl rfl ?_
          refine e_if_ne 45 dX5_read_38 (by decide) ⟨by omega, by omega⟩ (fun h38 => ?_) (fun h38 => by exfalso; omega)
          refine r_pc 45 rfl ?_
          have hg12 : 0 ≤ τ 17 (hF τ n (lo L k)) n ∧ τ 17 (hF τ n (lo L k)) n < 12 := by omega
          refine r_aload_nO dX5_read_45 rfl rfl ?_
          refine r_iload_n dX5_read_46 rfl rfl ?_
          refine r_aloadO dX5_read_47 rfl ?_
          refine e_iconst dX5_read_49 ?_
          refine e_iald (t := 25) dX5_read_50 (by decide) (by decide) (by rfl) (by intro _; rfl) (by assumption) (by assumption) (by have e : ln 25 = 7 := rfl; omega) ?_
          refine e_iv hr2 ?_
          refine r_iload_n dX5_read_51 rfl rfl ?_
          refine e_iconst dX5_read_52 ?_
          first | refine e_isub dX5_read_53 ?_ | refine r_isub dX5_read_53 ?_
          refine e_iv (show ((m + 1 : Nat) : Int) - 1 = (m : Int) by omega) ?_
          refine e_callVP (z := MX5_read) dX5_read_54 ml_X5_48 cz_X5_read mk_X5_read ms_X5_read cb5 (by decide) (ih _ hg12) rfl rfl (by simp [cat_rf, cat_i, cat_l, cat_r, cat_n]) (by omega) (by assumption) (lv1 _ 5 (fun _ => rfl)) (fun g hh => ?_)
          refine r_pc 57 rfl ?_
          have hvr := rdv_r hT hL hV hkd m _ hg12
          have e7 : rdv τ (lo L k) (m + 1) n = raI (rdv τ (lo L k) m (τ 17 (hF τ n (lo L k)) n)) (τ 19 (hF τ n (lo L k)) n) := by rw [rdv, if_neg (by omega), if_neg (by omega)]
          refine r_istore dX5_read_57 (by decide) ?_
          refine r_stw (by repeat' first | exact True.intro | refine And.intro (fun h => by first | rfl | exact cat_rf _ | exact absurd h (by decide)) ?_) ?_
          refine r_iload dX5_read_59 rfl ?_
          refine e_sipush dX5_read_61 (by decide +kernel) ?_
          refine e_ic_le 89 dX5_read_64 (by decide) ⟨by omega, by omega⟩ ⟨by omega, by omega⟩ (fun h64 => ?_) (fun h64 => ?_)
          · refine r_pc 89 rfl ?_
            refine r_iload dX5_read_89 rfl ?_
            exact q_iret dX5_read_91 rfl (by rw [e7]; exact raI_id (by omega)) (by assumption)
          · refine r_pc 67 rfl ?_
            refine r_iload dX5_read_67 rfl ?_
            refine e_sipush dX5_read_69 (by decide +kernel) ?_
            refine e_ic_ge 89 dX5_read_72 (by decide) ⟨by omega, by omega⟩ ⟨by omega, by omega⟩ (fun h72 => ?_) (fun h72 => ?_)
            · refine r_pc 89 rfl ?_
              refine r_iload dX5_read_89 rfl ?_
              exact q_iret dX5_read_91 rfl (by rw [e7]; exact raI_id (by omega)) (by assumption)
            · refine r_pc 75 rfl ?_
              refine r_iload dX5_read_75 rfl ?_
              refine r_aloadO dX5_read_77 rfl ?_
              refine e_bipush dX5_read_79 (by decide +kernel) ?_
              refine e_iald (t := 25) dX5_read_81 (by decide) (by decide) (by rfl) (by intro _; rfl) (by assumption) (by assumption) (by have e : ln 25 = 7 := rfl; omega) ?_
              refine e_iv hr6 ?_
              first | refine e_iadd dX5_read_82 ?_ | refine r_iadd dX5_read_82 ?_
              refine e_callSP (z := MX5_held) dX5_read_83 ml_X5_52 cz_X5_held mk_X5_held (s_held (by omega)) rfl rfl (by simp [cat_rf, cat_i, cat_l, cat_r, cat_n]) (by omega) (by assumption) (fun g hh => ?_)
              refine r_pc 86 rfl ?_
              refine r_goto 91 dX5_read_86 (by decide) ?_
              exact q_iret dX5_read_91 rfl (by rw [e7]; exact raI_held (by omega) (by omega)) (by assumption)
      · obtain ⟨hr1, hr2⟩ := hrn hpr
        have h15n := (hF_in hh0).2
        refine r_aloadO dX5_read_17 rfl ?_
        refine e_iconst dX5_read_19 ?_
        refine e_iald (t := 25) dX5_read_20 (by decide) (by decide) (by rfl) (by intro _; rfl) (by assumption) (by assumption) (by have e : ln 25 = 7 := rfl; omega) ?_
        refine e_iv hr1 ?_
        refine e_iconst dX5_read_21 ?_
        refine e_ic_ne 30 dX5_read_22 (by decide) ⟨by omega, by omega⟩ ⟨by omega, by omega⟩ (fun h22 => by exfalso; omega) (fun h22 => ?_)
        refine r_pc 25 rfl ?_
        refine r_aloadO dX5_read_25 rfl ?_
        refine e_iconst dX5_read_27 ?_
        refine e_iald (t := 25) dX5_read_28 (by decide) (by decide) (by rfl) (by intro _; rfl) (by assumption) (by assumption) (by have e : ln 25 = 7 := rfl; omega) ?_
        refine e_iv hr2 ?_
        exact q_iret dX5_read_29 rfl (by exact (rdv_pl hh0 (hVh.2.2.2.2.2 h15n hpr)).symm) (by assumption)
    · refine r_pc 13 rfl ?_
      refine e_sipush dX5_read_13 (by decide +kernel) ?_
      exact q_iret dX5_read_16 rfl (by exact (rdv_no (fnd_neg hO hT hL hkd hf h10)).symm) (by assumption)
