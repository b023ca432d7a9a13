theorem wpO_of {τ : ST} {k h n : Int} (h1 : ¬ (0 ≤ h ∧ isFx (τ 15 h n))) (h2 : h = k ∨ τ 3 k 3 = 0) : wpO τ k h n := ⟨h1, h2⟩
theorem wpM_self {τ : ST} {k n v : Int} (h : wpO τ k k n) : wpM τ k k n v = fil τ k n v (-1) (-1) 0 := by rw [wpM, cI_t h, cI_t rfl]
theorem wpM_new {τ : ST} {k h n v : Int} (h1 : wpO τ k h n) (h2 : ¬ h = k) : wpM τ k h n v = putM τ k n 1 v (-1) (-1) 0 := by rw [wpM, cI_t h1, cI_f h2]
theorem wpM_no {τ : ST} {k h n v : Int} (h1 : ¬ wpO τ k h n) : wpM τ k h n v = τ := by rw [wpM, cI_f h1]
theorem s_writes {κ : KK} {A : Nat → Int → Nat} {σ : ST} {τ : ST} {L : Int → List Int} (hO : OWN τ σ) (hT : WT τ) (hL : WL τ L) (hF' : WF τ) (hV : WV τ) {k : Int} (hk : Lv τ 3 k) : ∀ (m : Nat), m ≤ 6 → ∀ (n v : Int), (0 ≤ n ∧ n < 12) → (-1000 ≤ v ∧ v ≤ 2000) → ∀ g, HR κ A g σ → Spec κ MX5_writes (m + 3) 1 7 [vr A 5 0, .int (iI k), .int (iI n), .int (iI v), .int (iI (m : Int))] g (OQ κ A σ (wrM τ (lo L k) k m n v) (some (.int (iI (bI (wrO τ (lo L k) k m n v)))))) := by
  obtain ⟨hk22, hk24⟩ := lv24 (σ := σ) hT hk
  obtain ⟨ho20, ho23, ho24⟩ := hO.2.1 k hk
  have hz := wt_sz hT hk
  have hkd := kd3 hk
  intro m
  induction m with
  | zero =>
    intro hm6
    intro n v hn hv g hh
    obtain ⟨ρ, hf, hfl⟩ := s_found (κ := κ) (A := A) hO hT hL hF' hV hk hn
    obtain ⟨p, hp, hpl⟩ := s_place (κ := κ) (A := A) hO hT hL hF' hV hk hn
    have hsh := (hT.2.2 k hk).2.2.2.2.1
    refine e_start rfl (by show (lg_sl _).length ≤ 7; simp [lg_sl, cat_rf, cat_i, cat_l, cat_r, cat_n]) (lv := [(0, vr A 5 0), (1, .int (iI k)), (2, .int (iI n)), (3, .int (iI v)), (4, .int (iI ((0 : Nat) : Int)))]) (by simp [lv_args, cat_rf, cat_i, cat_l, cat_r, cat_n]) ?_
    refine r_aload_nO dX5_writes_0 rfl rfl ?_
    refine r_iload_n dX5_writes_1 rfl rfl ?_
    refine r_iload_n dX5_writes_2 rfl rfl ?_
    refine e_callVP (z := MX5_found) dX5_writes_3 ml_X5_44 cz_X5_found mk_X5_found ms_X5_found cb5 (by decide) hfl rfl rfl (by simp [cat_rf, cat_i, cat_l, cat_r, cat_n]) (by omega) (by assumption) (lv1 _ 5 (fun _ => rfl)) (fun g hh => ?_)
    refine r_pc 6 rfl ?_
    refine r_astoreO dX5_writes_6 (by decide) ?_
    refine r_aloadO dX5_writes_8 rfl ?_
    refine e_ifnull 83 dX5_writes_10 (by decide) (fun h10 => ?_) (fun h10 => ?_)
    · refine r_pc 83 rfl ?_
      have hneg := fnd_neg hO hT hL hkd hf h10
      have hwp : ¬ wrP τ (lo L k) n := fun y => by have := y.1; omega
      refine r_aloadO dX5_writes_83 rfl ?_
      refine e_ifnull 98 dX5_writes_85 (by decide) (fun h85 => ?_) (fun h85 => by exfalso; omega)
      refine r_pc 98 rfl ?_
      refine r_aload_nO dX5_writes_98 rfl rfl ?_
      refine r_iload_n dX5_writes_99 rfl rfl ?_
      refine r_iload_n dX5_writes_100 rfl rfl ?_
      refine e_callVP (z := MX5_place) dX5_writes_101 ml_X5_35 cz_X5_place mk_X5_place ms_X5_place cb5 (by decide) hpl rfl rfl (by simp [cat_rf, cat_i, cat_l, cat_r, cat_n]) (by omega) (by assumption) (lv1 _ 5 (fun _ => rfl)) (fun g hh => ?_)
      refine r_pc 104 rfl ?_
      by_cases hc : τ 15 k n = 0
      · obtain rfl := plc_neg (hF' k hk) hp hc
        have hhk := hF_oth (L := L) hk hc
        refine e_if_lt 125 dX5_writes_104 (by decide) ⟨by omega, by omega⟩ (fun h104 => ?_) (fun h104 => by exfalso; omega)
        refine r_pc 125 rfl ?_
        refine r_aload_nO dX5_writes_125 rfl rfl ?_
        refine e_getF (t := 5) (k := 3) (t1 := 24) dX5_writes_126 cb5 (by decide) mf_X5_21 (by rfl) (by rfl) (by decide) (by assumption) (lv1 _ 5 (fun _ => rfl)) ?_
        refine r_iload_n dX5_writes_129 rfl rfl ?_
        refine e_bald (t := 24) dX5_writes_130 (by decide) (by decide) (by rfl) (by intro _; rfl) (by assumption) (lv1 _ 24 (fun _ => rfl)) (by have e : ln 24 = 24 := rfl; omega) ?_
        refine e_iv ho24 ?_
        refine e_if_eq 136 dX5_writes_131 (by decide) ⟨by omega, by omega⟩ (fun h131 => ?_) (fun h131 => ?_)
        · refine r_pc 136 rfl ?_
          refine e_bipush dX5_writes_136 (by decide +kernel) ?_
          refine e_nb (rowF n 1 v 0 0 (-1) 0) dX5_writes_138 (by assumption) (kc' := 0) (ks' := 0) (by decide) (by decide) (fun g b hN => ?_)
          refine r_dup dX5_writes_140 (by first | rfl | exact cat_rf _) ?_
          refine e_iconst dX5_writes_141 ?_
          refine r_iload_n dX5_writes_142 rfl rfl ?_
          refine e_ist7 (m := 0) dX5_writes_143 hN rfl (by decide) rfl (fun g hN => ?_)
          refine r_dup dX5_writes_144 (by first | rfl | exact cat_rf _) ?_
          refine e_iconst dX5_writes_145 ?_
          refine e_iconst dX5_writes_146 ?_
          refine e_ist7 (m := 1) dX5_writes_147 hN rfl (by decide) rfl (fun g hN => ?_)
          refine r_dup dX5_writes_148 (by first | rfl | exact cat_rf _) ?_
          refine e_iconst dX5_writes_149 ?_
          refine r_iload_n dX5_writes_150 rfl rfl ?_
          refine e_ist7 (m := 2) dX5_writes_151 hN rfl (by decide) rfl (fun g hN => ?_)
          refine r_dup dX5_writes_152 (by first | rfl | exact cat_rf _) ?_
          refine e_iconst dX5_writes_153 ?_
          refine e_iconst dX5_writes_154 ?_
          refine e_ist7 (m := 3) dX5_writes_155 hN rfl (by decide) rfl (fun g hN => ?_)
          refine r_dup dX5_writes_156 (by first | rfl | exact cat_rf _) ?_
          refine e_iconst dX5_writes_157 ?_
          refine e_iconst dX5_writes_158 ?_
          refine e_ist7 (m := 4) dX5_writes_159 hN rfl (by decide) rfl (fun g hN => ?_)
          refine r_dup dX5_writes_160 (by first | rfl | exact cat_rf _) ?_
          refine e_iconst dX5_writes_161 ?_
          refine e_iconst dX5_writes_162 ?_
          refine e_ist7 (m := 5) dX5_writes_163 hN rfl (by decide) rfl (fun g hN => ?_)
          refine r_dup dX5_writes_164 (by first | rfl | exact cat_rf _) ?_
          refine e_bipush dX5_writes_165 (by decide +kernel) ?_
          refine e_iconst dX5_writes_167 ?_
          refine e_ist7 (m := 6) dX5_writes_168 hN rfl (by decide) rfl (fun g hN => ?_)
          have hh := nb_end hN hO.2.2.2.2.2 (rowF_7 _ _ _ _ _ _ _)
          obtain ⟨A', hA'⟩ : ∃ A', A' = gA A 25 (σ 99 25 0) b := ⟨_, rfl⟩
          have e5 : Value.ref b = vr A' 25 (σ 99 25 0) := by rw [vr_some hO.2.2.2.2.2, hA', gA_at]
          have e0 : vr A 5 0 = vr A' 5 0 := by rw [hA']; rfl
          replace hh : HR κ A' g (gS σ 25 (rowF n 1 v 0 0 (-1) 0)) := by rw [hA']; exact hh
          have hAe : ∀ t, t ≠ 25 → A' t = A t := fun t ht => by rw [hA']; funext r; exact gA_ne (fun y => ht y.1)
          obtain ⟨hO1, hρ1, hfr1⟩ := own_grow (f := rowF n 1 v 0 0 (-1) 0) hO
          rw [e5, e0]
          refine r_astoreO dX5_writes_169 (by decide) ?_
          refine r_stw (by repeat' first | exact True.intro | refine And.intro (fun h => by first | rfl | exact cat_rf _ | exact absurd h (by decide)) ?_) ?_
          refine r_aload_nO dX5_writes_171 rfl rfl ?_
          refine r_iload_n dX5_writes_172 rfl rfl ?_
          refine r_aloadO dX5_writes_173 rfl ?_
          refine e_callV (z := MX5_put) (kc' := 0) (ks' := 0) dX5_writes_175 ml_X5_59 cz_X5_put mk_X5_put ms_X5_put cb5 (by decide) (by rfl) (by rfl) (by simp [cat_rf, cat_i, cat_l, cat_r, cat_n]) (by omega) (by assumption) (lv1 _ 5 (fun _ => rfl)) (s_put (σ := gS σ 25 (rowF n 1 v 0 0 (-1) 0)) (A := A') (t := 1) (a := v) (b := -1) (c := -1) (d := 0) hO1 hT hL hF' hV hk hn hρ1 hfr1 (rw_pl (bI_f (by unfold isFx; omega)).symm (by unfold isPr; omega)) hh) (by decide) (by decide) (fun w g hq => ?_)
          obtain ⟨A2, σ2, hh, rfl, hA2, hO2, hof2, -, -, -⟩ := hq
          refine r_pc 178 rfl ?_
          refine e_iconst dX5_writes_178 ?_
          have hok : wpO τ k (hF τ n (lo L k)) n := ⟨(fun y => by have := y.1; omega), Or.inr (by omega)⟩
          obtain ⟨eO, eM⟩ := wr_pl (k := k) (v := v) 0 hwp
          exact r_zret dX5_writes_179 rfl (narrow_01 (by omega)) ⟨A2, σ2, hh, by rw [bI_eq eO, bI_t hok], fun t ht => (hA2 t ht).trans (hAe t ht), by rw [eM, wpM_new hok hhk]; exact hO2, (gS_of σ _).tr hof2⟩
        · refine r_pc 134 rfl ?_
          refine e_iconst dX5_writes_134 ?_
          have hok : ¬ wpO τ k (hF τ n (lo L k)) n := fun z => z.2.elim hhk (fun y => by omega)
          obtain ⟨eO, eM⟩ := wr_pl (k := k) (v := v) 0 hwp
          exact r_zret dX5_writes_135 rfl (narrow_01 (by omega)) ⟨A, σ, hh, by rw [bI_eq eO, bI_f hok], fun _ _ => rfl, by rw [eM, wpM_no hok]; exact hO, OF.rf' σ⟩
      · have hp12 := plc_pos (hF' k hk) hn hp hc
        have hhk := hF_self hL hk hc
        obtain ⟨hρk, -, -, -⟩ := hO.2.2.1 k p hk hp12.1
        refine e_if_lt 125 dX5_writes_104 (by decide) ⟨by omega, by omega⟩ (fun h104 => by exfalso; omega) (fun h104 => ?_)
        refine r_pc 107 rfl ?_
        refine r_aload_nO dX5_writes_107 rfl rfl ?_
        refine e_getF (t := 5) (k := 1) (t1 := 21) dX5_writes_108 cb5 (by decide) mf_X5_15 (by rfl) (by rfl) (by decide) (by assumption) (lv1 _ 5 (fun _ => rfl)) ?_
        refine r_iload_n dX5_writes_111 rfl rfl ?_
        refine e_aald21 dX5_writes_112 (by assumption) (by have e : ln 21 = 24 := rfl; omega) ?_
        refine r_aload_nO dX5_writes_113 rfl rfl ?_
        refine r_iload_n dX5_writes_114 rfl rfl ?_
        refine r_iload_n dX5_writes_115 rfl rfl ?_
        refine e_callVP (z := MX5_place) dX5_writes_116 ml_X5_35 cz_X5_place mk_X5_place ms_X5_place cb5 (by decide) hpl rfl rfl (by simp [cat_rf, cat_i, cat_l, cat_r, cat_n]) (by omega) (by assumption) (lv1 _ 5 (fun _ => rfl)) (fun g hh => ?_)
        refine r_pc 119 rfl ?_
        have hnp : ¬ isPr (τ 15 k n) := fun y => hwp ⟨by rw [hhk]; exact hk.1, by rw [hhk]; exact y⟩
        refine e_aald (t := 22) (t1 := 25) dX5_writes_119 (by decide) (by decide) (by decide) (by intro _; rfl) (by decide) (by assumption) (by assumption) (by have e : ln 22 = 12 := rfl; omega) ?_
        refine e_iconst dX5_writes_120 ?_
        refine r_iload_n dX5_writes_121 rfl rfl ?_
        refine e_iast (t := 25) dX5_writes_122 (by decide) (by decide) (by rfl) (by intro _; rfl) (by assumption) (by assumption) (by have e : ln 25 = 7 := rfl; omega) (fun g hh => ?_)
        refine e_iconst dX5_writes_123 ?_
        have hok : wpO τ k k n := ⟨by have hfx0 : ¬ (0 ≤ hF τ n (lo L k) ∧ isFx (τ 15 (hF τ n (lo L k)) n)) := (fun y => by have := y.1; omega); rw [hhk] at hfx0; exact hfx0, Or.inl rfl⟩
        obtain ⟨eO, eM⟩ := wr_pl (k := k) (v := v) 0 hwp
        rw [hhk] at eO eM
        exact r_zret dX5_writes_124 rfl (narrow_01 (by omega)) ⟨A, _, hh, by rw [bI_eq eO, bI_t hok], fun _ _ => rfl, by rw [eM, wpM_self hok]; exact hO.val (fun k hk => hF' k hk) hk hn hp12 hnp, (OF.rf' σ).u 25 _ 2 v rfl⟩
    · refine r_pc 13 rfl ?_
      obtain ⟨hh0, hρ, hrw⟩ := fnd_row hO hT hL hkd hf h10
      obtain ⟨hr0, hr3, hrp, hrn⟩ := hrw
      have hhk0 := hF_lv hT hL hkd hh0
      have hVh := hV _ n hhk0 hn
      by_cases hpr : isPr (τ 15 (hF τ n (lo L k)) n)
      · have hwp : wrP τ (lo L k) n := ⟨hh0, hpr⟩
        obtain ⟨hr1, hr2, hr5, hr6⟩ := hrp hpr
        refine r_aloadO dX5_writes_13 rfl ?_
        refine e_iconst dX5_writes_15 ?_
        refine e_iald (t := 25) dX5_writes_16 (by decide) (by decide) (by rfl) (by intro _; rfl) (by assumption) (by assumption) (by have e : ln 25 = 7 := rfl; omega) ?_
        refine e_iv hr1 ?_
        refine e_iconst dX5_writes_17 ?_
        refine e_ic_ne 83 dX5_writes_18 (by decide) ⟨by omega, by omega⟩ ⟨by omega, by omega⟩ (fun h18 => by exfalso; omega) (fun h18 => ?_)
        refine r_pc 21 rfl ?_
        refine r_aloadO dX5_writes_21 rfl ?_
        refine e_iconst dX5_writes_23 ?_
        refine e_iald (t := 25) dX5_writes_24 (by decide) (by decide) (by rfl) (by intro _; rfl) (by assumption) (by assumption) (by have e : ln 25 = 7 := rfl; omega) ?_
        refine e_iv hr5 ?_
        refine e_if_lt 81 dX5_writes_25 (by decide) ⟨by omega, by omega⟩ (fun h25 => ?_) (fun h25 => ?_)
        · refine r_pc 81 rfl ?_
          refine e_iconst dX5_writes_81 ?_
          obtain ⟨eO, eM⟩ := wr_no (k := k) (m := 0) (v := v) hwp (Or.inl rfl)
          exact r_zret dX5_writes_82 rfl (narrow_01 (by omega)) ⟨A, σ, hh, by rw [bI_f eO], fun _ _ => rfl, by rw [eM]; exact hO, OF.rf' σ⟩
        · refine r_pc 28 rfl ?_
          refine r_iload dX5_writes_28 rfl ?_
          refine e_if_le 81 dX5_writes_30 (by decide) ⟨by omega, by omega⟩ (fun h30 => ?_) (fun h30 => by exfalso; omega)
          refine r_pc 81 rfl ?_
          refine e_iconst dX5_writes_81 ?_
          obtain ⟨eO, eM⟩ := wr_no (k := k) (m := 0) (v := v) hwp (Or.inl rfl)
          exact r_zret dX5_writes_82 rfl (narrow_01 (by omega)) ⟨A, σ, hh, by rw [bI_f eO], fun _ _ => rfl, by rw [eM]; exact hO, OF.rf' σ⟩
      · have hwp : ¬ wrP τ (lo L k) n := fun y => hpr y.2
        obtain ⟨hr1, hr2⟩ := hrn hpr
        refine r_aloadO dX5_writes_13 rfl ?_
        refine e_iconst dX5_writes_15 ?_
        refine e_iald (t := 25) dX5_writes_16 (by decide) (by decide) (by rfl) (by intro _; rfl) (by assumption) (by assumption) (by have e : ln 25 = 7 := rfl; omega) ?_
        refine e_iv hr1 ?_
        refine e_iconst dX5_writes_17 ?_
        refine e_ic_ne 83 dX5_writes_18 (by decide) ⟨by omega, by omega⟩ ⟨by omega, by omega⟩ (fun h18 => ?_) (fun h18 => by exfalso; omega)
        refine r_pc 83 rfl ?_
        refine r_aloadO dX5_writes_83 rfl ?_
        refine e_ifnull 98 dX5_writes_85 (by decide) (fun h85 => by exfalso; omega) (fun h85 => ?_)
        refine r_pc 88 rfl ?_
        refine r_aloadO dX5_writes_88 rfl ?_
        refine e_iconst dX5_writes_90 ?_
        refine e_iald (t := 25) dX5_writes_91 (by decide) (by decide) (by rfl) (by intro _; rfl) (by assumption) (by assumption) (by have e : ln 25 = 7 := rfl; omega) ?_
        refine e_iv hr3 ?_
        by_cases hfx : isFx (τ 15 (hF τ n (lo L k)) n)
        · refine e_iv (bI_t hfx) ?_
          refine e_iconst dX5_writes_92 ?_
          refine e_ic_ne 98 dX5_writes_93 (by decide) ⟨by omega, by omega⟩ ⟨by omega, by omega⟩ (fun h93 => by exfalso; omega) (fun h93 => ?_)
          refine r_pc 96 rfl ?_
          refine e_iconst dX5_writes_96 ?_
          have hok : ¬ wpO τ k (hF τ n (lo L k)) n := fun z => z.1 ⟨hh0, hfx⟩
          obtain ⟨eO, eM⟩ := wr_pl (k := k) (v := v) 0 hwp
          exact r_zret dX5_writes_97 rfl (narrow_01 (by omega)) ⟨A, σ, hh, by rw [bI_eq eO, bI_f hok], fun _ _ => rfl, by rw [eM, wpM_no hok]; exact hO, OF.rf' σ⟩
        · refine e_iv (bI_f hfx) ?_
          refine e_iconst dX5_writes_92 ?_
          refine e_ic_ne 98 dX5_writes_93 (by decide) ⟨by omega, by omega⟩ ⟨by omega, by omega⟩ (fun h93 => ?_) (fun h93 => by exfalso; omega)
          refine r_pc 98 rfl ?_
          refine r_aload_nO dX5_writes_98 rfl rfl ?_
          refine r_iload_n dX5_writes_99 rfl rfl ?_
          refine r_iload_n dX5_writes_100 rfl rfl ?_
          refine e_callVP (z := MX5_place) dX5_writes_101 ml_X5_35 cz_X5_place mk_X5_place ms_X5_place cb5 (by decide) hpl rfl rfl (by simp [cat_rf, cat_i, cat_l, cat_r, cat_n]) (by omega) (by assumption) (lv1 _ 5 (fun _ => rfl)) (fun g hh => ?_)
          refine r_pc 104 rfl ?_
          by_cases hc : τ 15 k n = 0
          · obtain rfl := plc_neg (hF' k hk) hp hc
            have hhk := hF_oth (L := L) hk hc
            refine e_if_lt 125 dX5_writes_104 (by decide) ⟨by omega, by omega⟩ (fun h104 => ?_) (fun h104 => by exfalso; omega)
            refine r_pc 125 rfl ?_
            refine r_aload_nO dX5_writes_125 rfl rfl ?_
            refine e_getF (t := 5) (k := 3) (t1 := 24) dX5_writes_126 cb5 (by decide) mf_X5_21 (by rfl) (by rfl) (by decide) (by assumption) (lv1 _ 5 (fun _ => rfl)) ?_
            refine r_iload_n dX5_writes_129 rfl rfl ?_
            refine e_bald (t := 24) dX5_writes_130 (by decide) (by decide) (by rfl) (by intro _; rfl) (by assumption) (lv1 _ 24 (fun _ => rfl)) (by have e : ln 24 = 24 := rfl; omega) ?_
            refine e_iv ho24 ?_
            refine e_if_eq 136 dX5_writes_131 (by decide) ⟨by omega, by omega⟩ (fun h131 => ?_) (fun h131 => ?_)
            · refine r_pc 136 rfl ?_
              refine e_bipush dX5_writes_136 (by decide +kernel) ?_
              refine e_nb (rowF n 1 v 0 0 (-1) 0) dX5_writes_138 (by assumption) (kc' := 0) (ks' := 0) (by decide) (by decide) (fun g b hN => ?_)
              refine r_dup dX5_writes_140 (by first | rfl | exact cat_rf _) ?_
              refine e_iconst dX5_writes_141 ?_
              refine r_iload_n dX5_writes_142 rfl rfl ?_
              refine e_ist7 (m := 0) dX5_writes_143 hN rfl (by decide) rfl (fun g hN => ?_)
              refine r_dup dX5_writes_144 (by first | rfl | exact cat_rf _) ?_
              refine e_iconst dX5_writes_145 ?_
              refine e_iconst dX5_writes_146 ?_
              refine e_ist7 (m := 1) dX5_writes_147 hN rfl (by decide) rfl (fun g hN => ?_)
              refine r_dup dX5_writes_148 (by first | rfl | exact cat_rf _) ?_
              refine e_iconst dX5_writes_149 ?_
              refine r_iload_n dX5_writes_150 rfl rfl ?_
              refine e_ist7 (m := 2) dX5_writes_151 hN rfl (by decide) rfl (fun g hN => ?_)
              refine r_dup dX5_writes_152 (by first | rfl | exact cat_rf _) ?_
              refine e_iconst dX5_writes_153 ?_
              refine e_iconst dX5_writes_154 ?_
              refine e_ist7 (m := 3) dX5_writes_155 hN rfl (by decide) rfl (fun g hN => ?_)
              refine r_dup dX5_writes_156 (by first | rfl | exact cat_rf _) ?_
              refine e_iconst dX5_writes_157 ?_
              refine e_iconst dX5_writes_158 ?_
              refine e_ist7 (m := 4) dX5_writes_159 hN rfl (by decide) rfl (fun g hN => ?_)
              refine r_dup dX5_writes_160 (by first | rfl | exact cat_rf _) ?_
              refine e_iconst dX5_writes_161 ?_
              refine e_iconst dX5_writes_162 ?_
              refine e_ist7 (m := 5) dX5_writes_163 hN rfl (by decide) rfl (fun g hN => ?_)
              refine r_dup dX5_writes_164 (by first | rfl | exact cat_rf _) ?_
              refine e_bipush dX5_writes_165 (by decide +kernel) ?_
              refine e_iconst dX5_writes_167 ?_
              refine e_ist7 (m := 6) dX5_writes_168 hN rfl (by decide) rfl (fun g hN => ?_)
              have hh := nb_end hN hO.2.2.2.2.2 (rowF_7 _ _ _ _ _ _ _)
              obtain ⟨A', hA'⟩ : ∃ A', A' = gA A 25 (σ 99 25 0) b := ⟨_, rfl⟩
              have e5 : Value.ref b = vr A' 25 (σ 99 25 0) := by rw [vr_some hO.2.2.2.2.2, hA', gA_at]
              have e0 : vr A 5 0 = vr A' 5 0 := by rw [hA']; rfl
              replace hh : HR κ A' g (gS σ 25 (rowF n 1 v 0 0 (-1) 0)) := by rw [hA']; exact hh
              have hAe : ∀ t, t ≠ 25 → A' t = A t := fun t ht => by rw [hA']; funext r; exact gA_ne (fun y => ht y.1)
              obtain ⟨hO1, hρ1, hfr1⟩ := own_grow (f := rowF n 1 v 0 0 (-1) 0) hO
              rw [e5, e0]
              refine r_astoreO dX5_writes_169 (by decide) ?_
              refine r_stw (by repeat' first | exact True.intro | refine And.intro (fun h => by first | rfl | exact cat_rf _ | exact absurd h (by decide)) ?_) ?_
              refine r_aload_nO dX5_writes_171 rfl rfl ?_
              refine r_iload_n dX5_writes_172 rfl rfl ?_
              refine r_aloadO dX5_writes_173 rfl ?_
              refine e_callV (z := MX5_put) (kc' := 0) (ks' := 0) dX5_writes_175 ml_X5_59 cz_X5_put mk_X5_put ms_X5_put cb5 (by decide) (by rfl) (by rfl) (by simp [cat_rf, cat_i, cat_l, cat_r, cat_n]) (by omega) (by assumption) (lv1 _ 5 (fun _ => rfl)) (s_put (σ := gS σ 25 (rowF n 1 v 0 0 (-1) 0)) (A := A') (t := 1) (a := v) (b := -1) (c := -1) (d := 0) hO1 hT hL hF' hV hk hn hρ1 hfr1 (rw_pl (bI_f (by unfold isFx; omega)).symm (by unfold isPr; omega)) hh) (by decide) (by decide) (fun w g hq => ?_)
              obtain ⟨A2, σ2, hh, rfl, hA2, hO2, hof2, -, -, -⟩ := hq
              refine r_pc 178 rfl ?_
              refine e_iconst dX5_writes_178 ?_
              have hok : wpO τ k (hF τ n (lo L k)) n := ⟨(fun y => hfx y.2), Or.inr (by omega)⟩
              obtain ⟨eO, eM⟩ := wr_pl (k := k) (v := v) 0 hwp
              exact r_zret dX5_writes_179 rfl (narrow_01 (by omega)) ⟨A2, σ2, hh, by rw [bI_eq eO, bI_t hok], fun t ht => (hA2 t ht).trans (hAe t ht), by rw [eM, wpM_new hok hhk]; exact hO2, (gS_of σ _).tr hof2⟩
            · refine r_pc 134 rfl ?_
              refine e_iconst dX5_writes_134 ?_
              have hok : ¬ wpO τ k (hF τ n (lo L k)) n := fun z => z.2.elim hhk (fun y => by omega)
              obtain ⟨eO, eM⟩ := wr_pl (k := k) (v := v) 0 hwp
              exact r_zret dX5_writes_135 rfl (narrow_01 (by omega)) ⟨A, σ, hh, by rw [bI_eq eO, bI_f hok], fun _ _ => rfl, by rw [eM, wpM_no hok]; exact hO, OF.rf' σ⟩
          · have hp12 := plc_pos (hF' k hk) hn hp hc
            have hhk := hF_self hL hk hc
            obtain ⟨hρk, -, -, -⟩ := hO.2.2.1 k p hk hp12.1
            refine e_if_lt 125 dX5_writes_104 (by decide) ⟨by omega, by omega⟩ (fun h104 => by exfalso; omega) (fun h104 => ?_)
            refine r_pc 107 rfl ?_
            refine r_aload_nO dX5_writes_107 rfl rfl ?_
            refine e_getF (t := 5) (k := 1) (t1 := 21) dX5_writes_108 cb5 (by decide) mf_X5_15 (by rfl) (by rfl) (by decide) (by assumption) (lv1 _ 5 (fun _ => rfl)) ?_
            refine r_iload_n dX5_writes_111 rfl rfl ?_
            refine e_aald21 dX5_writes_112 (by assumption) (by have e : ln 21 = 24 := rfl; omega) ?_
            refine r_aload_nO dX5_writes_113 rfl rfl ?_
            refine r_iload_n dX5_writes_114 rfl rfl ?_
            refine r_iload_n dX5_writes_115 rfl rfl ?_
            refine e_callVP (z := MX5_place) dX5_writes_116 ml_X5_35 cz_X5_place mk_X5_place ms_X5_place cb5 (by decide) hpl rfl rfl (by simp [cat_rf, cat_i, cat_l, cat_r, cat_n]) (by omega) (by assumption) (lv1 _ 5 (fun _ => rfl)) (fun g hh => ?_)
            refine r_pc 119 rfl ?_
            have hnp : ¬ isPr (τ 15 k n) := fun y => hwp ⟨by rw [hhk]; exact hk.1, by rw [hhk]; exact y⟩
            refine e_aald (t := 22) (t1 := 25) dX5_writes_119 (by decide) (by decide) (by decide) (by intro _; rfl) (by decide) (by assumption) (by assumption) (by have e : ln 22 = 12 := rfl; omega) ?_
            refine e_iconst dX5_writes_120 ?_
            refine r_iload_n dX5_writes_121 rfl rfl ?_
            refine e_iast (t := 25) dX5_writes_122 (by decide) (by decide) (by rfl) (by intro _; rfl) (by assumption) (by assumption) (by have e : ln 25 = 7 := rfl; omega) (fun g hh => ?_)
            refine e_iconst dX5_writes_123 ?_
            have hok : wpO τ k k n := ⟨by have hfx0 : ¬ (0 ≤ hF τ n (lo L k) ∧ isFx (τ 15 (hF τ n (lo L k)) n)) := (fun y => hfx y.2); rw [hhk] at hfx0; exact hfx0, Or.inl rfl⟩
            obtain ⟨eO, eM⟩ := wr_pl (k := k) (v := v) 0 hwp
            rw [hhk] at eO eM
            exact r_zret dX5_writes_124 rfl (narrow_01 (by omega)) ⟨A, _, hh, by rw [bI_eq eO, bI_t hok], fun _ _ => rfl, by rw [eM, wpM_self hok]; exact hO.val (fun k hk => hF' k hk) hk hn hp12 hnp, (OF.rf' σ).u 25 _ 2 v rfl⟩
  | succ m ih0 =>
    intro hm6
    have ih := ih0 (by omega)
    intro n v hn hv g hh
    obtain ⟨ρ, hf, hfl⟩ := s_found (κ := κ) (A := A) hO hT hL hF' hV hk hn
    obtain ⟨p, hp, hpl⟩ := s_place (κ := κ) (A := A) hO hT hL hF' hV hk hn
    have hsh := (hT.2.2 k hk).2.2.2.2.1
    refine e_start rfl (by show (lg_sl _).length ≤ 7; simp [lg_sl, cat_rf, cat_i, cat_l, cat_r, cat_n]) (lv := [(0, vr A 5 0), (1, .int (iI k)), (2, .int (iI n)), (3, .int (iI v)), (4, .int (iI ((m + 1 : Nat) : Int)))]) (by simp [lv_args, cat_rf, cat_i, cat_l, cat_r, cat_n]) ?_
    refine r_aload_nO dX5_writes_0 rfl rfl ?_
    refine r_iload_n dX5_writes_1 rfl rfl ?_
    refine r_iload_n dX5_writes_2 rfl rfl ?_
    refine e_callVP (z := MX5_found) dX5_writes_3 ml_X5_44 cz_X5_found mk_X5_found ms_X5_found cb5 (by decide) hfl rfl rfl (by simp [cat_rf, cat_i, cat_l, cat_r, cat_n]) (by omega) (by assumption) (lv1 _ 5 (fun _ => rfl)) (fun g hh => ?_)
    refine r_pc 6 rfl ?_
    refine r_astoreO dX5_writes_6 (by decide) ?_
    refine r_aloadO dX5_writes_8 rfl ?_
    refine e_ifnull 83 dX5_writes_10 (by decide) (fun h10 => ?_) (fun h10 => ?_)
    · refine r_pc 83 rfl ?_
      have hneg := fnd_neg hO hT hL hkd hf h10
      have hwp : ¬ wrP τ (lo L k) n := fun y => by have := y.1; omega
      refine r_aloadO dX5_writes_83 rfl ?_
      refine e_ifnull 98 dX5_writes_85 (by decide) (fun h85 => ?_) (fun h85 => by exfalso; omega)
      refine r_pc 98 rfl ?_
      refine r_aload_nO dX5_writes_98 rfl rfl ?_
      refine r_iload_n dX5_writes_99 rfl rfl ?_
      refine r_iload_n dX5_writes_100 rfl rfl ?_
      refine e_callVP (z := MX5_place) dX5_writes_101 ml_X5_35 cz_X5_place mk_X5_place ms_X5_place cb5 (by decide) hpl rfl rfl (by simp [cat_rf, cat_i, cat_l, cat_r, cat_n]) (by omega) (by assumption) (lv1 _ 5 (fun _ => rfl)) (fun g hh => ?_)
      refine r_pc 104 rfl ?_
      by_cases hc : τ 15 k n = 0
      · obtain rfl := plc_neg (hF' k hk) hp hc
        have hhk := hF_oth (L := L) hk hc
        refine e_if_lt 125 dX5_writes_104 (by decide) ⟨by omega, by omega⟩ (fun h104 => ?_) (fun h104 => by exfalso; omega)
        refine r_pc 125 rfl ?_
        refine r_aload_nO dX5_writes_125 rfl rfl ?_
        refine e_getF (t := 5) (k := 3) (t1 := 24) dX5_writes_126 cb5 (by decide) mf_X5_21 (by rfl) (by rfl) (by decide) (by assumption) (lv1 _ 5 (fun _ => rfl)) ?_
        refine r_iload_n dX5_writes_129 rfl rfl ?_
        refine e_bald (t := 24) dX5_writes_130 (by decide) (by decide) (by rfl) (by intro _; rfl) (by assumption) (lv1 _ 24 (fun _ => rfl)) (by have e : ln 24 = 24 := rfl; omega) ?_
        refine e_iv ho24 ?_
        refine e_if_eq 136 dX5_writes_131 (by decide) ⟨by omega, by omega⟩ (fun h131 => ?_) (fun h131 => ?_)
        · refine r_pc 136 rfl ?_
          refine e_bipush dX5_writes_136 (by decide +kernel) ?_
          refine e_nb (rowF n 1 v 0 0 (-1) 0) dX5_writes_138 (by assumption) (kc' := 0) (ks' := 0) (by decide) (by decide) (fun g b hN => ?_)
          refine r_dup dX5_writes_140 (by first | rfl | exact cat_rf _) ?_
          refine e_iconst dX5_writes_141 ?_
          refine r_iload_n dX5_writes_142 rfl rfl ?_
          refine e_ist7 (m := 0) dX5_writes_143 hN rfl (by decide) rfl (fun g hN => ?_)
          refine r_dup dX5_writes_144 (by first | rfl | exact cat_rf _) ?_
          refine e_iconst dX5_writes_145 ?_
          refine e_iconst dX5_writes_146 ?_
          refine e_ist7 (m := 1) dX5_writes_147 hN rfl (by decide) rfl (fun g hN => ?_)
          refine r_dup dX5_writes_148 (by first | rfl | exact cat_rf _) ?_
          refine e_iconst dX5_writes_149 ?_
          refine r_iload_n dX5_writes_150 rfl rfl ?_
          refine e_ist7 (m := 2) dX5_writes_151 hN rfl (by decide) rfl (fun g hN => ?_)
          refine r_dup dX5_writes_152 (by first | rfl | exact cat_rf _) ?_
          refine e_iconst dX5_writes_153 ?_
          refine e_iconst dX5_writes_154 ?_
          refine e_ist7 (m := 3) dX5_writes_155 hN rfl (by decide) rfl (fun g hN => ?_)
          refine r_dup dX5_writes_156 (by first | rfl | exact cat_rf _) ?_
          refine e_iconst dX5_writes_157 ?_
          refine e_iconst dX5_writes_158 ?_
          refine e_ist7 (m := 4) dX5_writes_159 hN rfl (by decide) rfl (fun g hN => ?_)
          refine r_dup dX5_writes_160 (by first | rfl | exact cat_rf _) ?_
          refine e_iconst dX5_writes_161 ?_
          refine e_iconst dX5_writes_162 ?_
          refine e_ist7 (m := 5) dX5_writes_163 hN rfl (by decide) rfl (fun g hN => ?_)
          refine r_dup dX5_writes_164 (by first | rfl | exact cat_rf _) ?_
          refine e_bipush dX5_writes_165 (by decide +kernel) ?_
          refine e_iconst dX5_writes_167 ?_
          refine e_ist7 (m := 6) dX5_writes_168 hN rfl (by decide) rfl (fun g hN => ?_)
          have hh := nb_end hN hO.2.2.2.2.2 (rowF_7 _ _ _ _ _ _ _)
          obtain ⟨A', hA'⟩ : ∃ A', A' = gA A 25 (σ 99 25 0) b := ⟨_, rfl⟩
          have e5 : Value.ref b = vr A' 25 (σ 99 25 0) := by rw [vr_some hO.2.2.2.2.2, hA', gA_at]
          have e0 : vr A 5 0 = vr A' 5 0 := by rw [hA']; rfl
          replace hh : HR κ A' g (gS σ 25 (rowF n 1 v 0 0 (-1) 0)) := by rw [hA']; exact hh
          have hAe : ∀ t, t ≠ 25 → A' t = A t := fun t ht => by rw [hA']; funext r; exact gA_ne (fun y => ht y.1)
          obtain ⟨hO1, hρ1, hfr1⟩ := own_grow (f := rowF n 1 v 0 0 (-1) 0) hO
          rw [e5, e0]
          refine r_astoreO dX5_writes_169 (by decide) ?_
          refine r_stw (by repeat' first | exact True.intro | refine And.intro (fun h => by first | rfl | exact cat_rf _ | exact absurd h (by decide)) ?_) ?_
          refine r_aload_nO dX5_writes_171 rfl rfl ?_
          refine r_iload_n dX5_writes_172 rfl rfl ?_
          refine r_aloadO dX5_writes_173 rfl ?_
          refine e_callV (z := MX5_put) (kc' := 0) (ks' := 0) dX5_writes_175 ml_X5_59 cz_X5_put mk_X5_put ms_X5_put cb5 (by decide) (by rfl) (by rfl) (by simp [cat_rf, cat_i, cat_l, cat_r, cat_n]) (by omega) (by assumption) (lv1 _ 5 (fun _ => rfl)) (s_put (σ := gS σ 25 (rowF n 1 v 0 0 (-1) 0)) (A := A') (t := 1) (a := v) (b := -1) (c := -1) (d := 0) hO1 hT hL hF' hV hk hn hρ1 hfr1 (rw_pl (bI_f (by unfold isFx; omega)).symm (by unfold isPr; omega)) hh) (by decide) (by decide) (fun w g hq => ?_)
          obtain ⟨A2, σ2, hh, rfl, hA2, hO2, hof2, -, -, -⟩ := hq
          refine r_pc 178 rfl ?_
          refine e_iconst dX5_writes_178 ?_
          have hok : wpO τ k (hF τ n (lo L k)) n := ⟨(fun y => by have := y.1; omega), Or.inr (by omega)⟩
          obtain ⟨eO, eM⟩ := wr_pl (k := k) (v := v) (m + 1) hwp
          exact r_zret dX5_writes_179 rfl (narrow_01 (by omega)) ⟨A2, σ2, hh, by rw [bI_eq eO, bI_t hok], fun t ht => (hA2 t ht).trans (hAe t ht), by rw [eM, wpM_new hok hhk]; exact hO2, (gS_of σ _).tr hof2⟩
        · refine r_pc 134 rfl ?_
          refine e_iconst dX5_writes_134 ?_
          have hok : ¬ wpO τ k (hF τ n (lo L k)) n := fun z => z.2.elim hhk (fun y => by omega)
          obtain ⟨eO, eM⟩ := wr_pl (k := k) (v := v) (m + 1) hwp
          exact r_zret dX5_writes_135 rfl (narrow_01 (by omega)) ⟨A, σ, hh, by rw [bI_eq eO, bI_f hok], fun _ _ => rfl, by rw [eM, wpM_no hok]; exact hO, OF.rf' σ⟩
      · have hp12 := plc_pos (hF' k hk) hn hp hc
        have hhk := hF_self hL hk hc
        obtain ⟨hρk, -, -, -⟩ := hO.2.2.1 k p hk hp12.1
        refine e_if_lt 125 dX5_writes_104 (by decide) ⟨by omega, by omega⟩ (fun h104 => by exfalso; omega) (fun h104 => ?_)
        refine r_pc 107 rfl ?_
        refine r_aload_nO dX5_writes_107 rfl rfl ?_
        refine e_getF (t := 5) (k := 1) (t1 := 21) dX5_writes_108 cb5 (by decide) mf_X5_15 (by rfl) (by rfl) (by decide) (by assumption) (lv1 _ 5 (fun _ => rfl)) ?_
        refine r_iload_n dX5_writes_111 rfl rfl ?_
        refine e_aald21 dX5_writes_112 (by assumption) (by have e : ln 21 = 24 := rfl; omega) ?_
        refine r_aload_nO dX5_writes_113 rfl rfl ?_
        refine r_iload_n dX5_writes_114 rfl rfl ?_
        refine r_iload_n dX5_writes_115 rfl rfl ?_
        refine e_callVP (z := MX5_place) dX5_writes_116 ml_X5_35 cz_X5_place mk_X5_place ms_X5_place cb5 (by decide) hpl rfl rfl (by simp [cat_rf, cat_i, cat_l, cat_r, cat_n]) (by omega) (by assumption) (lv1 _ 5 (fun _ => rfl)) (fun g hh => ?_)
        refine r_pc 119 rfl ?_
        have hnp : ¬ isPr (τ 15 k n) := fun y => hwp ⟨by rw [hhk]; exact hk.1, by rw [hhk]; exact y⟩
        refine e_aald (t := 22) (t1 := 25) dX5_writes_119 (by decide) (by decide) (by decide) (by intro _; rfl) (by decide) (by assumption) (by assumption) (by have e : ln 22 = 12 := rfl; omega) ?_
        refine e_iconst dX5_writes_120 ?_
        refine r_iload_n dX5_writes_121 rfl rfl ?_
        refine e_iast (t := 25) dX5_writes_122 (by decide) (by decide) (by rfl) (by intro _; rfl) (by assumption) (by assumption) (by have e : ln 25 = 7 := rfl; omega) (fun g hh => ?_)
        refine e_iconst dX5_writes_123 ?_
        have hok : wpO τ k k n := ⟨by have hfx0 : ¬ (0 ≤ hF τ n (lo L k) ∧ isFx (τ 15 (hF τ n (lo L k)) n)) := (fun y => by have := y.1; omega); rw [hhk] at hfx0; exact hfx0, Or.inl rfl⟩
        obtain ⟨eO, eM⟩ := wr_pl (k := k) (v := v) (m + 1) hwp
        rw [hhk] at eO eM
        exact r_zret dX5_writes_124 rfl (narrow_01 (by omega)) ⟨A, _, hh, by rw [bI_eq eO, bI_t hok], fun _ _ => rfl, by rw [eM, wpM_self hok]; exact hO.val (fun k hk => hF' k hk) hk hn hp12 hnp, (OF.rf' σ).u 25 _ 2 v rfl⟩
    · refine r_pc 13 rfl ?_
      obtain ⟨hh0, hρ, hrw⟩ := fnd_row hO hT hL hkd hf h10
      obtain ⟨hr0, hr3, hrp, hrn⟩ := hrw
      have hhk0 := hF_lv hT hL hkd hh0
      have hVh := hV _ n hhk0 hn
      by_cases hpr : isPr (τ 15 (hF τ n (lo L k)) n)
      · have hwp : wrP τ (lo L k) n := ⟨hh0, hpr⟩
        obtain ⟨hr1, hr2, hr5, hr6⟩ := hrp hpr
        refine r_aloadO dX5_writes_13 rfl ?_
        refine e_iconst dX5_writes_15 ?_
        refine e_iald (t := 25) dX5_writes_16 (by decide) (by decide) (by rfl) (by intro _; rfl) (by assumption) (by assumption) (by have e : ln 25 = 7 := rfl; omega) ?_
        refine e_iv hr1 ?_
        refine e_iconst dX5_writes_17 ?_
        refine e_ic_ne 83 dX5_writes_18 (by decide) ⟨by omega, by omega⟩ ⟨by omega, by omega⟩ (fun h18 => by exfalso; omega) (fun h18 => ?_)
        refine r_pc 21 rfl ?_
        refine r_aloadO dX5_writes_21 rfl ?_
        refine e_iconst dX5_writes_23 ?_
        refine e_iald (t := 25) dX5_writes_24 (by decide) (by decide) (by rfl) (by intro _; rfl) (by assumption) (by assumption) (by have e : ln 25 = 7 := rfl; omega) ?_
        refine e_iv hr5 ?_
        refine e_if_lt 81 dX5_writes_25 (by decide) ⟨by omega, by omega⟩ (fun h25 => ?_) (fun h25 => ?_)
        · refine r_pc 81 rfl ?_
          refine e_iconst dX5_writes_81 ?_
          obtain ⟨eO, eM⟩ := wr_no (k := k) (m := (m + 1)) (v := v) hwp (Or.inr (by omega))
          exact r_zret dX5_writes_82 rfl (narrow_01 (by omega)) ⟨A, σ, hh, by rw [bI_f eO], fun _ _ => rfl, by rw [eM]; exact hO, OF.rf' σ⟩
        · refine r_pc 28 rfl ?_
          refine r_iload dX5_writes_28 rfl ?_
          refine e_if_le 81 dX5_writes_30 (by decide) ⟨by omega, by omega⟩ (fun h30 => by exfalso; omega) (fun h30 => ?_)
          refine r_pc 33 rfl ?_
          refine r_aload_nO dX5_writes_33 rfl rfl ?_
          refine r_iload_n dX5_writes_34 rfl rfl ?_
          refine r_aloadO dX5_writes_35 rfl ?_
          refine e_iconst dX5_writes_37 ?_
          refine e_iald (t := 25) dX5_writes_38 (by decide) (by decide) (by rfl) (by intro _; rfl) (by assumption) (by assumption) (by have e : ln 25 = 7 := rfl; omega) ?_
          refine e_iv hr5 ?_
          refine r_iload_n dX5_writes_39 rfl rfl ?_
          refine e_sipush dX5_writes_40 (by decide +kernel) ?_
          refine e_ic_le 66 dX5_writes_43 (by decide) ⟨by omega, by omega⟩ ⟨by omega, by omega⟩ (fun h43 => ?_) (fun h43 => ?_)
          · refine r_pc 66 rfl ?_
            refine r_iload_n dX5_writes_66 rfl rfl ?_
            refine e_iv (show v = raI v (τ 19 (hF τ n (lo L k)) n) from raI_id (by omega)) ?_
            have h18 : 0 ≤ τ 18 (hF τ n (lo L k)) n ∧ τ 18 (hF τ n (lo L k)) n < 12 := by omega
            have hvv := raI_r (a := τ 19 (hF τ n (lo L k)) n) hv
            obtain ⟨eO, eM⟩ := wr_on (k := k) (m := m) (v := v) hwp (by omega)
            refine r_iload dX5_writes_67 rfl ?_
            refine e_iconst dX5_writes_69 ?_
            first | refine e_isub dX5_writes_70 ?_ | refine r_isub dX5_writes_70 ?_
            refine e_iv (show ((m + 1 : Nat) : Int) - 1 = (m : Int) by omega) ?_
            refine e_callV (z := MX5_writes) (kc' := 0) (ks' := 0) dX5_writes_71 ml_X5_55 cz_X5_writes mk_X5_writes ms_X5_writes cb5 (by decide) (by rfl) (by rfl) (by simp [cat_rf, cat_i, cat_l, cat_r, cat_n]) (by omega) (by assumption) (lv1 _ 5 (fun _ => rfl)) (ih (τ 18 (hF τ n (lo L k)) n) (raI v (τ 19 (hF τ n (lo L k)) n)) h18 hvv g hh) (by decide) (by decide) (fun w g hq => ?_)
            obtain ⟨A2, σ2, hh, rfl, hA2, hO2, hof2⟩ := hq
            refine r_pc 74 rfl ?_
            refine e_ifeq_b 81 dX5_writes_74 (by decide) (fun h74 => ?_) (fun h74 => ?_)
            · refine r_pc 81 rfl ?_
              refine e_iconst dX5_writes_81 ?_
              exact r_zret dX5_writes_82 rfl (narrow_01 (by omega)) ⟨A2, σ2, hh, by rw [bI_eq eO, bI_f h74], hA2, by rw [eM]; exact hO2, hof2⟩
            · refine r_pc 77 rfl ?_
              refine e_iconst dX5_writes_77 ?_
              refine r_goto 82 dX5_writes_78 (by decide) ?_
              exact r_zret dX5_writes_82 rfl (narrow_01 (by omega)) ⟨A2, σ2, hh, by rw [bI_eq eO, bI_t h74], hA2, by rw [eM]; exact hO2, hof2⟩
          · refine r_pc 46 rfl ?_
            refine r_iload_n dX5_writes_46 rfl rfl ?_
            refine e_sipush dX5_writes_47 (by decide +kernel) ?_
            refine e_ic_ge 66 dX5_writes_50 (by decide) ⟨by omega, by omega⟩ ⟨by omega, by omega⟩ (fun h50 => ?_) (fun h50 => ?_)
            · refine r_pc 66 rfl ?_
              refine r_iload_n dX5_writes_66 rfl rfl ?_
              refine e_iv (show v = raI v (τ 19 (hF τ n (lo L k)) n) from raI_id (by omega)) ?_
              have h18 : 0 ≤ τ 18 (hF τ n (lo L k)) n ∧ τ 18 (hF τ n (lo L k)) n < 12 := by omega
              have hvv := raI_r (a := τ 19 (hF τ n (lo L k)) n) hv
              obtain ⟨eO, eM⟩ := wr_on (k := k) (m := m) (v := v) hwp (by omega)
              refine r_iload dX5_writes_67 rfl ?_
              refine e_iconst dX5_writes_69 ?_
              first | refine e_isub dX5_writes_70 ?_ | refine r_isub dX5_writes_70 ?_
              refine e_iv (show ((m + 1 : Nat) : Int) - 1 = (m : Int) by omega) ?_
              refine e_callV (z := MX5_writes) (kc' := 0) (ks' := 0) dX5_writes_71 ml_X5_55 cz_X5_writes mk_X5_writes ms_X5_writes cb5 (by decide) (by rfl) (by rfl) (by simp [cat_rf, cat_i, cat_l, cat_r, cat_n]) (by omega) (by assumption) (lv1 _ 5 (fun _ => rfl)) (ih (τ 18 (hF τ n (lo L k)) n) (raI v (τ 19 (hF τ n (lo L k)) n)) h18 hvv g hh) (by decide) (by decide) (fun w g hq => ?_)
              obtain ⟨A2, σ2, hh, rfl, hA2, hO2, hof2⟩ := hq
              refine r_pc 74 rfl ?_
              refine e_ifeq_b 81 dX5_writes_74 (by decide) (fun h74 => ?_) (fun h74 => ?_)
              · refine r_pc 81 rfl ?_
                refine e_iconst dX5_writes_81 ?_
                exact r_zret dX5_writes_82 rfl (narrow_01 (by omega)) ⟨A2, σ2, hh, by rw [bI_eq eO, bI_f h74], hA2, by rw [eM]; exact hO2, hof2⟩
              · refine r_pc 77 rfl ?_
                refine e_iconst dX5_writes_77 ?_
                refine r_goto 82 dX5_writes_78 (by decide) ?_
                exact r_zret dX5_writes_82 rfl (narrow_01 (by omega)) ⟨A2, σ2, hh, by rw [bI_eq eO, bI_t h74], hA2, by rw [eM]; exact hO2, hof2⟩
            · refine r_pc 53 rfl ?_
              refine r_iload_n dX5_writes_53 rfl rfl ?_
              refine r_aloadO dX5_writes_54 rfl ?_
              refine e_bipush dX5_writes_56 (by decide +kernel) ?_
              refine e_iald (t := 25) dX5_writes_58 (by decide) (by decide) (by rfl) (by intro _; rfl) (by assumption) (by assumption) (by have e : ln 25 = 7 := rfl; omega) ?_
              refine e_iv hr6 ?_
              first | refine e_iadd dX5_writes_59 ?_ | refine r_iadd dX5_writes_59 ?_
              refine e_callSP (z := MX5_held) dX5_writes_60 ml_X5_52 cz_X5_held mk_X5_held (s_held (by omega)) rfl rfl (by simp [cat_rf, cat_i, cat_l, cat_r, cat_n]) (by omega) (by assumption) (fun g hh => ?_)
              refine r_pc 63 rfl ?_
              refine r_goto 67 dX5_writes_63 (by decide) ?_
              refine e_iv (raI_held (by omega) (by omega)) ?_
              have h18 : 0 ≤ τ 18 (hF τ n (lo L k)) n ∧ τ 18 (hF τ n (lo L k)) n < 12 := by omega
              have hvv := raI_r (a := τ 19 (hF τ n (lo L k)) n) hv
              obtain ⟨eO, eM⟩ := wr_on (k := k) (m := m) (v := v) hwp (by omega)
              refine r_iload dX5_writes_67 rfl ?_
              refine e_iconst dX5_writes_69 ?_
              first | refine e_isub dX5_writes_70 ?_ | refine r_isub dX5_writes_70 ?_
              refine e_iv (show ((m + 1 : Nat) : Int) - 1 = (m : Int) by omega) ?_
              refine e_callV (z := MX5_writes) (kc' := 0) (ks' := 0) dX5_writes_71 ml_X5_55 cz_X5_writes mk_X5_writes ms_X5_writes cb5 (by decide) (by rfl) (by rfl) (by simp [cat_rf, cat_i, cat_l, cat_r, cat_n]) (by omega) (by assumption) (lv1 _ 5 (fun _ => rfl)) (ih (τ 18 (hF τ n (lo L k)) n) (raI v (τ 19 (hF τ n (lo L k)) n)) h18 hvv g hh) (by decide) (by decide) (fun w g hq => ?_)
              obtain ⟨A2, σ2, hh, rfl, hA2, hO2, hof2⟩ := hq
              refine r_pc 74 rfl ?_
              refine e_ifeq_b 81 dX5_writes_74 (by decide) (fun h74 => ?_) (fun h74 => ?_)
              · refine r_pc 81 rfl ?_
                refine e_iconst dX5_writes_81 ?_
                exact r_zret dX5_writes_82 rfl (narrow_01 (by omega)) ⟨A2, σ2, hh, by rw [bI_eq eO, bI_f h74], hA2, by rw [eM]; exact hO2, hof2⟩
              · refine r_pc 77 rfl ?_
                refine e_iconst dX5_writes_77 ?_
                refine r_goto 82 dX5_writes_78 (by decide) ?_
                exact r_zret dX5_writes_82 rfl (narrow_01 (by omega)) ⟨A2, σ2, hh, by rw [bI_eq eO, bI_t h74], hA2, by rw [eM]; exact hO2, hof2⟩
      · have hwp : ¬ wrP τ (lo L k) n := fun y => hpr y.2
        obtain ⟨hr1, hr2⟩ := hrn hpr
        refine r_aloadO dX5_writes_13 rfl ?_
        refine e_iconst dX5_writes_15 ?_
        refine e_iald (t := 25) dX5_writes_16 (by decide) (by decide) (by rfl) (by intro _; rfl) (by assumption) (by assumption) (by have e : ln 25 = 7 := rfl; omega) ?_
        refine e_iv hr1 ?_
        refine e_iconst dX5_writes_17 ?_
        refine e_ic_ne 83 dX5_writes_18 (by decide) ⟨by omega, by omega⟩ ⟨by omega, by omega⟩ (fun h18 => ?_) (fun h18 => by exfalso; omega)
        refine r_pc 83 rfl ?_
        refine r_aloadO dX5_writes_83 rfl ?_
        refine e_ifnull 98 dX5_writes_85 (by decide) (fun h85 => by exfalso; omega) (fun h85 => ?_)
        refine r_pc 88 rfl ?_
        refine r_aloadO dX5_writes_88 rfl ?_
        refine e_iconst dX5_writes_90 ?_
        refine e_iald (t := 25) dX5_writes_91 (by decide) (by decide) (by rfl) (by intro _; rfl) (by assumption) (by assumption) (by have e : ln 25 = 7 := rfl; omega) ?_
        refine e_iv hr3 ?_
        by_cases hfx : isFx (τ 15 (hF τ n (lo L k)) n)
        · refine e_iv (bI_t hfx) ?_
          refine e_iconst dX5_writes_92 ?_
          refine e_ic_ne 98 dX5_writes_93 (by decide) ⟨by omega, by omega⟩ ⟨by omega, by omega⟩ (fun h93 => by exfalso; omega) (fun h93 => ?_)
          refine r_pc 96 rfl ?_
          refine e_iconst dX5_writes_96 ?_
          have hok : ¬ wpO τ k (hF τ n (lo L k)) n := fun z => z.1 ⟨hh0, hfx⟩
          obtain ⟨eO, eM⟩ := wr_pl (k := k) (v := v) (m + 1) hwp
          exact r_zret dX5_writes_97 rfl (narrow_01 (by omega)) ⟨A, σ, hh, by rw [bI_eq eO, bI_f hok], fun _ _ => rfl, by rw [eM, wpM_no hok]; exact hO, OF.rf' σ⟩
        · refine e_iv (bI_f hfx) ?_
          refine e_iconst dX5_writes_92 ?_
          refine e_ic_ne 98 dX5_writes_93 (by decide) ⟨by omega, by omega⟩ ⟨by omega, by omega⟩ (fun h93 => ?_) (fun h93 => by exfalso; omega)
          refine r_pc 98 rfl ?_
          refine r_aload_nO dX5_writes_98 rfl rfl ?_
          refine r_iload_n dX5_writes_99 rfl rfl ?_
          refine r_iload_n dX5_writes_100 rfl rfl ?_
          refine e_callVP (z := MX5_place) dX5_writes_101 ml_X5_35 cz_X5_place mk_X5_place ms_X5_place cb5 (by decide) hpl rfl rfl (by simp [cat_rf, cat_i, cat_l, cat_r, cat_n]) (by omega) (by assumption) (lv1 _ 5 (fun _ => rfl)) (fun g hh => ?_)
          refine r_pc 104 rfl ?_
          by_cases hc : τ 15 k n = 0
          · obtain rfl := plc_neg (hF' k hk) hp hc
            have hhk := hF_oth (L := L) hk hc
            refine e_if_lt 125 dX5_writes_104 (by decide) ⟨by omega, by omega⟩ (fun h104 => ?_) (fun h104 => by exfalso; omega)
            refine r_pc 125 rfl ?_
            refine r_aload_nO dX5_writes_125 rfl rfl ?_
            refine e_getF (t := 5) (k := 3) (t1 := 24) dX5_writes_126 cb5 (by decide) mf_X5_21 (by rfl) (by rfl) (by decide) (by assumption) (lv1 _ 5 (fun _ => rfl)) ?_
            refine r_iload_n dX5_writes_129 rfl rfl ?_
            refine e_bald (t := 24) dX5_writes_130 (by decide) (by decide) (by rfl) (by intro _; rfl) (by assumption) (lv1 _ 24 (fun _ => rfl)) (by have e : ln 24 = 24 := rfl; omega) ?_
            refine e_iv ho24 ?_
            refine e_if_eq 136 dX5_writes_131 (by decide) ⟨by omega, by omega⟩ (fun h131 => ?_) (fun h131 => ?_)
            · refine r_pc 136 rfl ?_
              refine e_bipush dX5_writes_136 (by decide +kernel) ?_
              refine e_nb (rowF n 1 v 0 0 (-1) 0) dX5_writes_138 (by assumption) (kc' := 0) (ks' := 0) (by decide) (by decide) (fun g b hN => ?_)
              refine r_dup dX5_writes_140 (by first | rfl | exact cat_rf _) ?_
              refine e_iconst dX5_writes_141 ?_
              refine r_iload_n dX5_writes_142 rfl rfl ?_
              refine e_ist7 (m := 0) dX5_writes_143 hN rfl (by decide) rfl (fun g hN => ?_)
              refine r_dup dX5_writes_144 (by first | rfl | exact cat_rf _) ?_
              refine e_iconst dX5_writes_145 ?_
              refine e_iconst dX5_writes_146 ?_
              refine e_ist7 (m := 1) dX5_writes_147 hN rfl (by decide) rfl (fun g hN => ?_)
              refine r_dup dX5_writes_148 (by first | rfl | exact cat_rf _) ?_
              refine e_iconst dX5_writes_149 ?_
              refine r_iload_n dX5_writes_150 rfl rfl ?_
              refine e_ist7 (m := 2) dX5_writes_151 hN rfl (by decide) rfl (fun g hN => ?_)
              refine r_dup dX5_writes_152 (by first | rfl | exact cat_rf _) ?_
              refine e_iconst dX5_writes_153 ?_
              refine e_iconst dX5_writes_154 ?_
              refine e_ist7 (m := 3) dX5_writes_155 hN rfl (by decide) rfl (fun g hN => ?_)
              refine r_dup dX5_writes_156 (by first | rfl | exact cat_rf _) ?_
              refine e_iconst dX5_writes_157 ?_
              refine e_iconst dX5_writes_158 ?_
              refine e_ist7 (m := 4) dX5_writes_159 hN rfl (by decide) rfl (fun g hN => ?_)
              refine r_dup dX5_writes_160 (by first | rfl | exact cat_rf _) ?_
              refine e_iconst dX5_writes_161 ?_
              refine e_iconst dX5_writes_162 ?_
              refine e_ist7 (m := 5) dX5_writes_163 hN rfl (by decide) rfl (fun g hN => ?_)
              refine r_dup dX5_writes_164 (by first | rfl | exact cat_rf _) ?_
              refine e_bipush dX5_writes_165 (by decide +kernel) ?_
              refine e_iconst dX5_writes_167 ?_
              refine e_ist7 (m := 6) dX5_writes_168 hN rfl (by decide) rfl (fun g hN => ?_)
              have hh := nb_end hN hO.2.2.2.2.2 (rowF_7 _ _ _ _ _ _ _)
              obtain ⟨A', hA'⟩ : ∃ A', A' = gA A 25 (σ 99 25 0) b := ⟨_, rfl⟩
              have e5 : Value.ref b = vr A' 25 (σ 99 25 0) := by rw [vr_some hO.2.2.2.2.2, hA', gA_at]
              have e0 : vr A 5 0 = vr A' 5 0 := by rw [hA']; rfl
              replace hh : HR κ A' g (gS σ 25 (rowF n 1 v 0 0 (-1) 0)) := by rw [hA']; exact hh
              have hAe : ∀ t, t ≠ 25 → A' t = A t := fun t ht => by rw [hA']; funext r; exact gA_ne (fun y => ht y.1)
              obtain ⟨hO1, hρ1, hfr1⟩ := own_grow (f := rowF n 1 v 0 0 (-1) 0) hO
              rw [e5, e0]
              refine r_astoreO dX5_writes_169 (by decide) ?_
              refine r_stw (by repeat' first | exact True.intro | refine And.intro (fun h => by first | rfl | exact cat_rf _ | exact absurd h (by decide)) ?_) ?_
              refine r_aload_nO dX5_writes_171 rfl rfl ?_
              refine r_iload_n dX5_writes_172 rfl rfl ?_
              refine r_aloadO dX5_writes_173 rfl ?_
              refine e_callV (z := MX5_put) (kc' := 0) (ks' := 0) dX5_writes_175 ml_X5_59 cz_X5_put mk_X5_put ms_X5_put cb5 (by decide) (by rfl) (by rfl) (by simp [cat_rf, cat_i, cat_l, cat_r, cat_n]) (by omega) (by assumption) (lv1 _ 5 (fun _ => rfl)) (s_put (σ := gS σ 25 (rowF n 1 v 0 0 (-1) 0)) (A := A') (t := 1) (a := v) (b := -1) (c := -1) (d := 0) hO1 hT hL hF' hV hk hn hρ1 hfr1 (rw_pl (bI_f (by unfold isFx; omega)).symm (by unfold isPr; omega)) hh) (by decide) (by decide) (fun w g hq => ?_)
              obtain ⟨A2, σ2, hh, rfl, hA2, hO2, hof2, -, -, -⟩ := hq
              refine r_pc 178 rfl ?_
              refine e_iconst dX5_writes_178 ?_
              have hok : wpO τ k (hF τ n (lo L k)) n := ⟨(fun y => hfx y.2), Or.inr (by omega)⟩
              obtain ⟨eO, eM⟩ := wr_pl (k := k) (v := v) (m + 1) hwp
              exact r_zret dX5_writes_179 rfl (narrow_01 (by omega)) ⟨A2, σ2, hh, by rw [bI_eq eO, bI_t hok], fun t ht => (hA2 t ht).trans (hAe t ht), by rw [eM, wpM_new hok hhk]; exact hO2, (gS_of σ _).tr hof2⟩
            · refine r_pc 134 rfl ?_
              refine e_iconst dX5_writes_134 ?_
              have hok : ¬ wpO τ k (hF τ n (lo L k)) n := fun z => z.2.elim hhk (fun y => by omega)
              obtain ⟨eO, eM⟩ := wr_pl (k := k) (v := v) (m + 1) hwp
              exact r_zret dX5_writes_135 rfl (narrow_01 (by omega)) ⟨A, σ, hh, by rw [bI_eq eO, bI_f hok], fun _ _ => rfl, by rw [eM, wpM_no hok]; exact hO, OF.rf' σ⟩
          · have hp12 := plc_pos (hF' k hk) hn hp hc
            have hhk := hF_self hL hk hc
            obtain ⟨hρk, -, -, -⟩ := hO.2.2.1 k p hk hp12.1
            refine e_if_lt 125 dX5_writes_104 (by decide) ⟨by omega, by omega⟩ (fun h104 => by exfalso; omega) (fun h104 => ?_)
            refine r_pc 107 rfl ?_
            refine r_aload_nO dX5_writes_107 rfl rfl ?_
            refine e_getF (t := 5) (k := 1) (t1 := 21) dX5_writes_108 cb5 (by decide) mf_X5_15 (by rfl) (by rfl) (by decide) (by assumption) (lv1 _ 5 (fun _ => rfl)) ?_
            refine r_iload_n dX5_writes_111 rfl rfl ?_
            refine e_aald21 dX5_writes_112 (by assumption) (by have e : ln 21 = 24 := rfl; omega) ?_
            refine r_aload_nO dX5_writes_113 rfl rfl ?_
            refine r_iload_n dX5_writes_114 rfl rfl ?_
            refine r_iload_n dX5_writes_115 rfl rfl ?_
            refine e_callVP (z := MX5_place) dX5_writes_116 ml_X5_35 cz_X5_place mk_X5_place ms_X5_place cb5 (by decide) hpl rfl rfl (by simp [cat_rf, cat_i, cat_l, cat_r, cat_n]) (by omega) (by assumption) (lv1 _ 5 (fun _ => rfl)) (fun g hh => ?_)
            refine r_pc 119 rfl ?_
            have hnp : ¬ isPr (τ 15 k n) := fun y => hwp ⟨by rw [hhk]; exact hk.1, by rw [hhk]; exact y⟩
            refine e_aald (t := 22) (t1 := 25) dX5_writes_119 (by decide) (by decide) (by decide) (by intro _; rfl) (by decide) (by assumption) (by assumption) (by have e : ln 22 = 12 := rfl; omega) ?_
            refine e_iconst dX5_writes_120 ?_
            refine r_iload_n dX5_writes_121 rfl rfl ?_
            refine e_iast (t := 25) dX5_writes_122 (by decide) (by decide) (by rfl) (by intro _; rfl) (by assumption) (by assumption) (by have e : ln 25 = 7 := rfl; omega) (fun g hh => ?_)
            refine e_iconst dX5_writes_123 ?_
            have hok : wpO τ k k n := ⟨by have hfx0 : ¬ (0 ≤ hF τ n (lo L k) ∧ isFx (τ 15 (hF τ n (lo L k)) n)) := (fun y => hfx y.2); rw [hhk] at hfx0; exact hfx0, Or.inl rfl⟩
            obtain ⟨eO, eM⟩ := wr_pl (k := k) (v := v) (m + 1) hwp
            rw [hhk] at eO eM
            exact r_zret dX5_writes_124 rfl (narrow_01 (by omega)) ⟨A, _, hh, by rw [bI_eq eO, bI_t hok], fun _ _ => rfl, by rw [eM, wpM_self hok]; exact hO.val (fun k hk => hF' k hk) hk hn hp12 hnp, (OF.rf' σ).u 25 _ 2 v rfl⟩
