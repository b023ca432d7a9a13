theorem s_isRead {κ : KK} {A : Nat → Int → Nat} {σ : ST} {g : GG} {L Sc : Int → List Int} {T : Int} {x : Int32} (hc : CO σ L Sc T) (hO : OWN σ σ) (hN1 : 1 ≤ σ 99 3 0) (hh : HR κ A g σ) : Spec κ ML_isRead 10 0 0 [vr A 4 0, vr A 5 0, .int x] g (LQ κ A σ (T + 1)) := by
  have hT := hc.wt
  have hL := hc.wl
  have hS := hc.ws
  have hsB := hS.2.1
  have hP := hc.wp
  have hF' := hc.wf
  have hV := hc.wv
  obtain ⟨N, hNn⟩ : ∃ N : Nat, (N : Int) = σ 99 3 0 := ⟨(σ 99 3 0).toNat, by have := hc.wt.2.1; omega⟩
  have hNp : 0 < N := by omega
  have hN24 := hT.2.1
  have h5 : σ 5 0 4 = (N : Int) := hO.1.trans hNn.symm
  refine e_start rfl (by show (lg_sl _).length ≤ 9; simp [lg_sl, cat_rf, cat_i, cat_l, cat_r, cat_n]) (lv := [(0, vr A 4 0), (1, vr A 5 0), (2, .int x)]) (by simp [lv_args, cat_rf, cat_i, cat_l, cat_r, cat_n]) ?_
  refine r_iload_n dL_isRead_0 rfl rfl ?_
  refine e_iconst dL_isRead_1 ?_
  refine r_ishr dL_isRead_2 ?_
  refine r_aload_nO dL_isRead_3 rfl rfl ?_
  refine e_getIN (t := 5) (k := 4) 4 dL_isRead_4 cb5 (by decide) (List.mem_of_getElem? (i := 4) rfl) (by rfl) rfl (by assumption) (lv1 _ 5 (fun _ => rfl)) ?_
  refine e_iv h5 ?_
  refine e_callSP (z := ML_below) dL_isRead_7 ml_L_21 cz_L_below mk_L_below (s_below (v := (x >>> (iI 4 &&& 31))) (n := N) hNp (by omega)) rfl rfl (by simp [cat_rf, cat_i, cat_l, cat_r, cat_n]) (by decide) (by assumption) (fun g hh => ?_)
  refine r_pc 10 rfl ?_
  have hk := blw_r (x >>> (iI 4 &&& 31)) (n := N) hNp
  generalize blw (x >>> (iI 4 &&& 31)) N = k at *
  have hk : Lv σ 3 k := ⟨hk.1, by show k < σ 99 3 0; omega⟩
  refine r_istore_n dL_isRead_10 rfl (by decide) ?_
  refine r_iload_n dL_isRead_11 rfl rfl ?_
  refine e_bipush dL_isRead_12 (by decide +kernel) ?_
  refine r_ishr dL_isRead_14 ?_
  refine e_bipush dL_isRead_15 (by decide +kernel) ?_
  refine e_callSP (z := ML_below) dL_isRead_17 ml_L_21 cz_L_below mk_L_below (s_below (v := (x >>> (iI 8 &&& 31))) (n := 12) (by decide) (by decide)) rfl rfl (by simp [cat_rf, cat_i, cat_l, cat_r, cat_n]) (by decide) (by assumption) (fun g hh => ?_)
  refine r_pc 20 rfl ?_
  have hn := blw_r (x >>> (iI 8 &&& 31)) (n := 12) (by omega)
  generalize blw (x >>> (iI 8 &&& 31)) 12 = n at *
  refine r_istore dL_isRead_20 (by decide) ?_
  refine r_iload_n dL_isRead_22 rfl rfl ?_
  refine e_bipush dL_isRead_23 (by decide +kernel) ?_
  refine r_ishr dL_isRead_25 ?_
  refine e_bipush dL_isRead_26 (by decide +kernel) ?_
  refine e_callSP (z := ML_below) dL_isRead_28 ml_L_21 cz_L_below mk_L_below (s_below (v := (x >>> (iI 10 &&& 31))) (n := 6) (by decide) (by decide)) rfl rfl (by simp [cat_rf, cat_i, cat_l, cat_r, cat_n]) (by decide) (by assumption) (fun g hh => ?_)
  refine r_pc 31 rfl ?_
  have hp := blw_r (x >>> (iI 10 &&& 31)) (n := 6) (by omega)
  generalize blw (x >>> (iI 10 &&& 31)) 6 = p at *
  refine r_istore dL_isRead_31 (by decide) ?_
  have hp : Lv σ 0 p := hp
  obtain ⟨c, ⟨hc0, hcq⟩, hwc⟩ := s_wouldCost (κ := κ) (A := A) hp hk hn hT hL hS hP hF' hV
  refine r_aload_nO dL_isRead_33 rfl rfl ?_
  refine r_iload dL_isRead_34 rfl ?_
  refine r_iload_n dL_isRead_36 rfl rfl ?_
  refine r_iload dL_isRead_37 rfl ?_
  refine e_callVP (z := MX4_wouldCost) dL_isRead_39 ml_L_67 cz_X4_wouldCost mk_X4_wouldCost ms_X4_wouldCost cb4 (by decide) hwc rfl rfl (by simp [cat_rf, cat_i, cat_l, cat_r, cat_n]) (by decide) (by assumption) (lv1 _ 4 (fun _ => rfl)) (fun g hh => ?_)
  refine r_pc 42 rfl ?_
  refine r_istore dL_isRead_42 (by decide) ?_
  refine r_aload_nO dL_isRead_44 rfl rfl ?_
  refine e_bipush dL_isRead_45 (by decide +kernel) ?_
  refine e_callVP (z := MX4_many) dL_isRead_47 ml_L_29 cz_X4_many mk_X4_many ms_X4_many cb4 (by decide) (s_many7 hT hS hF') rfl rfl (by simp [cat_rf, cat_i, cat_l, cat_r, cat_n]) (by decide) (by assumption) (lv1 _ 4 (fun _ => rfl)) (fun g hh => ?_)
  refine r_pc 50 rfl ?_
  refine r_istore dL_isRead_50 (by decide) ?_
  refine r_aload_nO dL_isRead_52 rfl rfl ?_
  refine e_iconst dL_isRead_53 ?_
  refine e_callVP (z := MX4_many) dL_isRead_54 ml_L_29 cz_X4_many mk_X4_many ms_X4_many cb4 (by decide) (s_many5 hT hS hF') rfl rfl (by simp [cat_rf, cat_i, cat_l, cat_r, cat_n]) (by decide) (by assumption) (lv1 _ 4 (fun _ => rfl)) (fun g hh => ?_)
  refine r_pc 57 rfl ?_
  refine r_aload_nO dL_isRead_57 rfl rfl ?_
  refine e_bipush dL_isRead_58 (by decide +kernel) ?_
  refine e_callVP (z := MX4_many) dL_isRead_60 ml_L_29 cz_X4_many mk_X4_many ms_X4_many cb4 (by decide) (s_many6 hT hS hF') rfl rfl (by simp [cat_rf, cat_i, cat_l, cat_r, cat_n]) (by decide) (by assumption) (lv1 _ 4 (fun _ => rfl)) (fun g hh => ?_)
  refine r_pc 63 rfl ?_
  first | refine e_iadd dL_isRead_63 ?_ | refine r_iadd dL_isRead_63 ?_
  refine r_istore dL_isRead_64 (by decide) ?_
  refine r_aload_nO dL_isRead_66 rfl rfl ?_
  refine r_iload dL_isRead_67 rfl ?_
  refine r_iload_n dL_isRead_69 rfl rfl ?_
  refine r_iload dL_isRead_70 rfl ?_
  refine e_callV (z := MX4_readAt) (kc' := 0) (ks' := 0) dL_isRead_72 ml_L_71 cz_X4_readAt mk_X4_readAt ms_X4_readAt cb4 (by decide) (by rfl) (by rfl) (by simp [cat_rf, cat_i, cat_l, cat_r, cat_n]) (by decide) (by assumption) (lv1 _ 4 (fun _ => rfl)) (s_readAt hc hp hk hn hcq hh) (by decide) (by decide) (fun w g hq => ?_)
  obtain ⟨σ', hh, rfl, hc1, hag, hrc⟩ := hq
  have hO' : OWN σ' σ' := (hO.cf hag.cf).ve hag.ve
  have hk1 : Lv σ' 3 k := lv_ve hag.ve hk
  refine r_pc 75 rfl ?_
  refine r_aload_nO dL_isRead_75 rfl rfl ?_
  refine r_iload_n dL_isRead_76 rfl rfl ?_
  refine r_iload dL_isRead_77 rfl ?_
  refine e_bipush dL_isRead_79 (by decide +kernel) ?_
  refine e_callVP (z := MX5_read) dL_isRead_81 ml_L_74 cz_X5_read mk_X5_read ms_X5_read cb5 (by decide) (s_oread hO' hc1.wt hc1.wl hc1.wf hc1.wv hk1 6 (by omega) n hn) rfl rfl (by simp [cat_rf, cat_i, cat_l, cat_r, cat_n]) (by decide) (by assumption) (lv1 _ 5 (fun _ => rfl)) (fun g hh => ?_)
  refine r_pc 84 rfl ?_
  refine e_iv (rdv_ag hag (lo L k) 6 n) ?_
  refine r_ic_ne 141 dL_isRead_84 (by decide) (fun h84 => by exact absurd rfl h84) (fun h84 => ?_)
  refine r_pc 87 rfl ?_
  refine r_aload_nO dL_isRead_87 rfl rfl ?_
  refine e_bipush dL_isRead_88 (by decide +kernel) ?_
  refine e_callVP (z := MX4_many) dL_isRead_90 ml_L_29 cz_X4_many mk_X4_many ms_X4_many cb4 (by decide) (s_many7 hc1.wt hc1.ws hc1.wf) rfl rfl (by simp [cat_rf, cat_i, cat_l, cat_r, cat_n]) (by decide) (by assumption) (lv1 _ 4 (fun _ => rfl)) (fun g hh => ?_)
  refine r_pc 93 rfl ?_
  refine r_iload dL_isRead_93 rfl ?_
  refine r_iload dL_isRead_95 rfl ?_
  first | refine e_iadd dL_isRead_97 ?_ | refine r_iadd dL_isRead_97 ?_
  refine r_ic_ne 141 dL_isRead_98 (by decide) (fun h98 => by exact (h98 (congrArg iI hrc.2.1)).elim) (fun h98 => ?_)
  refine r_pc 101 rfl ?_
  refine r_aload_nO dL_isRead_101 rfl rfl ?_
  refine e_iconst dL_isRead_102 ?_
  refine e_callVP (z := MX4_many) dL_isRead_103 ml_L_29 cz_X4_many mk_X4_many ms_X4_many cb4 (by decide) (s_many5 hc1.wt hc1.ws hc1.wf) rfl rfl (by simp [cat_rf, cat_i, cat_l, cat_r, cat_n]) (by decide) (by assumption) (lv1 _ 4 (fun _ => rfl)) (fun g hh => ?_)
  refine r_pc 106 rfl ?_
  refine r_aload_nO dL_isRead_106 rfl rfl ?_
  refine e_bipush dL_isRead_107 (by decide +kernel) ?_
  refine e_callVP (z := MX4_many) dL_isRead_109 ml_L_29 cz_X4_many mk_X4_many ms_X4_many cb4 (by decide) (s_many6 hc1.wt hc1.ws hc1.wf) rfl rfl (by simp [cat_rf, cat_i, cat_l, cat_r, cat_n]) (by decide) (by assumption) (lv1 _ 4 (fun _ => rfl)) (fun g hh => ?_)
  refine r_pc 112 rfl ?_
  first | refine e_iadd dL_isRead_112 ?_ | refine r_iadd dL_isRead_112 ?_
  refine r_iload dL_isRead_113 rfl ?_
  refine e_iconst dL_isRead_115 ?_
  first | refine e_iadd dL_isRead_116 ?_ | refine r_iadd dL_isRead_116 ?_
  refine r_ic_ne 141 dL_isRead_117 (by decide) (fun h117 => by exact (h117 (congrArg iI hrc.2.2.1)).elim) (fun h117 => ?_)
  refine r_pc 120 rfl ?_
  refine r_iload dL_isRead_120 rfl ?_
  refine e_if_le 141 dL_isRead_122 (by decide) ⟨by omega, by omega⟩ (fun h122 => by exfalso; omega) (fun h122 => ?_)
  refine r_pc 125 rfl ?_
  refine r_aload_nO dL_isRead_125 rfl rfl ?_
  refine r_iload dL_isRead_126 rfl ?_
  refine e_iconst dL_isRead_128 ?_
  refine e_callVP (z := MX4_ofPlace) dL_isRead_129 ml_L_77 cz_X4_ofPlace mk_X4_ofPlace ms_X4_ofPlace cb4 (by decide) (s_ofPlace4 (σ := σ') hp) rfl rfl (by simp [cat_rf, cat_i, cat_l, cat_r, cat_n]) (by decide) (by assumption) (lv1 _ 4 (fun _ => rfl)) (fun g hh => ?_)
  refine r_pc 132 rfl ?_
  refine r_iload dL_isRead_132 rfl ?_
  refine r_ic_ne 141 dL_isRead_134 (by decide) (fun h134 => by exact (h134 (congrArg iI hrc.2.2.2)).elim) (fun h134 => ?_)
  refine r_pc 137 rfl ?_
  refine e_iconst dL_isRead_137 ?_
  refine r_goto 142 dL_isRead_138 (by decide) ?_
  exact r_zret dL_isRead_142 rfl (narrow_01 (by omega)) (lq_end hh ⟨rfl, rfl⟩ hc1 (hO.cf hag.cf) hag.ve (by rw [hrc.1]; exact Int.le_refl _) (SD.rf' σ))
theorem s_places {κ : KK} {A : Nat → Int → Nat} {σ : ST} {L Sc : Int → List Int} {T : Int} (hc : CO σ L Sc T) (hT60 : T ≤ 1000) (hO : OWN σ σ) (hN1 : 1 ≤ σ 99 3 0) : PU κ A ML_arePlacesRight 7 σ [vr A 4 0, vr A 5 0] (.int (iI 1)) := by
  have hT := hc.wt
  have hL := hc.wl
  have hS := hc.ws
  have hsB := hS.2.1
  have hP := hc.wp
  have hF' := hc.wf
  have hV := hc.wv
  obtain ⟨N, hNn⟩ : ∃ N : Nat, (N : Int) = σ 99 3 0 := ⟨(σ 99 3 0).toNat, by have := hc.wt.2.1; omega⟩
  have hNp : 0 < N := by omega
  have hN24 := hT.2.1
  have h5 : σ 5 0 4 = (N : Int) := hO.1.trans hNn.symm
  intro g hh
  have main : ∀ m : Nat, ∀ p : Int, ∀ e : Int, ∀ f : Int, 0 ≤ p → p + (m : Int) = 6 → (e = sumI (fun p => σ 0 p 0) p.toNat) → (f = sumI (fun p => σ 0 p 8) p.toNat) → ∀ g, HR κ A g σ → Wp κ ML_arePlacesRight 7 0 0 7 [(0, vr A 4 0), (1, vr A 5 0), (2, .int (iI e)), (3, .int (iI f)), (4, .int (iI p))] [] g (PQ κ A σ (some (.int (iI 1)))) := by
    intro m
    induction m with
    | zero =>
      intro p e f hj0 hjm he hf g hh
      refine r_iload dL_arePlacesRight_7 rfl ?_
      refine e_bipush dL_arePlacesRight_9 (by decide +kernel) ?_
      refine e_ic_ge 225 dL_arePlacesRight_11 (by decide) ⟨by omega, by omega⟩ ⟨by omega, by omega⟩ (fun h11 => ?_) (fun h11 => by exfalso; omega)
      refine r_pc 225 rfl ?_
      refine r_aload_nO dL_arePlacesRight_225 rfl rfl ?_
      refine e_iconst dL_arePlacesRight_226 ?_
      refine e_callVP (z := MX4_many) dL_arePlacesRight_227 ml_L_29 cz_X4_many mk_X4_many ms_X4_many cb4 (by decide) (s_many4 hT hS hF') rfl rfl (by simp [cat_rf, cat_i, cat_l, cat_r, cat_n]) (by decide) (by assumption) (lv1 _ 4 (fun _ => rfl)) (fun g hh => ?_)
      refine r_pc 230 rfl ?_
      refine r_iload_n dL_arePlacesRight_230 rfl rfl ?_
      refine r_ic_ne 248 dL_arePlacesRight_231 (by decide) (fun h231 => by exact (h231 (congrArg iI (by rw [he, show p = 6 by omega]; rfl))).elim) (fun h231 => ?_)
      refine r_pc 234 rfl ?_
      refine r_aload_nO dL_arePlacesRight_234 rfl rfl ?_
      refine e_bipush dL_arePlacesRight_235 (by decide +kernel) ?_
      refine e_callVP (z := MX4_many) dL_arePlacesRight_237 ml_L_29 cz_X4_many mk_X4_many ms_X4_many cb4 (by decide) (s_many9 hT hS hF') rfl rfl (by simp [cat_rf, cat_i, cat_l, cat_r, cat_n]) (by decide) (by assumption) (lv1 _ 4 (fun _ => rfl)) (fun g hh => ?_)
      refine r_pc 240 rfl ?_
      refine r_iload_n dL_arePlacesRight_240 rfl rfl ?_
      refine r_ic_ne 248 dL_arePlacesRight_241 (by decide) (fun h241 => by exact (h241 (congrArg iI (by rw [hf, show p = 6 by omega]; rfl))).elim) (fun h241 => ?_)
      refine r_pc 244 rfl ?_
      refine e_iconst dL_arePlacesRight_244 ?_
      refine r_goto 249 dL_arePlacesRight_245 (by decide) ?_
      exact q_zret dL_arePlacesRight_249 rfl (by omega) (by rfl) (by assumption)
    | succ m ih =>
      intro p e f hj0 hjm he hf g hh
      have hp : Lv σ 0 p := ⟨hj0, by show p < 6; omega⟩
      have hpp := hP p hp
      have hwm := CX.wm hc p hp
      refine r_iload dL_arePlacesRight_7 rfl ?_
      refine e_bipush dL_arePlacesRight_9 (by decide +kernel) ?_
      refine e_ic_ge 225 dL_arePlacesRight_11 (by decide) ⟨by omega, by omega⟩ ⟨by omega, by omega⟩ (fun h11 => by exfalso; omega) (fun h11 => ?_)
      refine r_pc 14 rfl ?_
      refine r_iload_n dL_arePlacesRight_14 rfl rfl ?_
      refine r_aload_nO dL_arePlacesRight_15 rfl rfl ?_
      refine r_iload dL_arePlacesRight_16 rfl ?_
      refine e_iconst dL_arePlacesRight_18 ?_
      refine e_callVP (z := MX4_ofPlace) dL_arePlacesRight_19 ml_L_77 cz_X4_ofPlace mk_X4_ofPlace ms_X4_ofPlace cb4 (by decide) (s_ofPlace0 hp) rfl rfl (by simp [cat_rf, cat_i, cat_l, cat_r, cat_n]) (by decide) (by assumption) (lv1 _ 4 (fun _ => rfl)) (fun g hh => ?_)
      refine r_pc 22 rfl ?_
      first | refine e_iadd dL_arePlacesRight_22 ?_ | refine r_iadd dL_arePlacesRight_22 ?_
      refine r_istore_n dL_arePlacesRight_23 rfl (by decide) ?_
      refine r_stw (by repeat' first | exact True.intro | refine And.intro (fun h => by first | rfl | exact cat_rf _ | exact absurd h (by decide)) ?_) ?_
      refine r_iload_n dL_arePlacesRight_24 rfl rfl ?_
      refine r_aload_nO dL_arePlacesRight_25 rfl rfl ?_
      refine r_iload dL_arePlacesRight_26 rfl ?_
      refine e_iconst dL_arePlacesRight_28 ?_
      refine e_callVP (z := MX4_ofPlace) dL_arePlacesRight_29 ml_L_77 cz_X4_ofPlace mk_X4_ofPlace ms_X4_ofPlace cb4 (by decide) (s_ofPlace5 hp) rfl rfl (by simp [cat_rf, cat_i, cat_l, cat_r, cat_n]) (by decide) (by assumption) (lv1 _ 4 (fun _ => rfl)) (fun g hh => ?_)
      refine r_pc 32 rfl ?_
      first | refine e_iadd dL_arePlacesRight_32 ?_ | refine r_iadd dL_arePlacesRight_32 ?_
      refine r_istore_n dL_arePlacesRight_33 rfl (by decide) ?_
      refine r_aload_nO dL_arePlacesRight_34 rfl rfl ?_
      refine r_iload dL_arePlacesRight_35 rfl ?_
      refine e_iconst dL_arePlacesRight_37 ?_
      refine e_callVP (z := MX4_ofPlace) dL_arePlacesRight_38 ml_L_77 cz_X4_ofPlace mk_X4_ofPlace ms_X4_ofPlace cb4 (by decide) (s_ofPlace0 hp) rfl rfl (by simp [cat_rf, cat_i, cat_l, cat_r, cat_n]) (by decide) (by assumption) (lv1 _ 4 (fun _ => rfl)) (fun g hh => ?_)
      refine r_pc 41 rfl ?_
      refine e_iconst dL_arePlacesRight_41 ?_
      refine e_ic_gt 70 dL_arePlacesRight_42 (by decide) ⟨by omega, by omega⟩ ⟨by omega, by omega⟩ (fun h42 => by exfalso; omega) (fun h42 => ?_)
      refine r_pc 45 rfl ?_
      refine r_aload_nO dL_arePlacesRight_45 rfl rfl ?_
      refine r_iload dL_arePlacesRight_46 rfl ?_
      refine e_iconst dL_arePlacesRight_48 ?_
      refine e_callVP (z := MX4_ofPlace) dL_arePlacesRight_49 ml_L_77 cz_X4_ofPlace mk_X4_ofPlace ms_X4_ofPlace cb4 (by decide) (s_ofPlace0 hp) rfl rfl (by simp [cat_rf, cat_i, cat_l, cat_r, cat_n]) (by decide) (by assumption) (lv1 _ 4 (fun _ => rfl)) (fun g hh => ?_)
      refine r_pc 52 rfl ?_
      refine r_aload_nO dL_arePlacesRight_52 rfl rfl ?_
      refine r_iload dL_arePlacesRight_53 rfl ?_
      refine e_iconst dL_arePlacesRight_55 ?_
      refine e_callVP (z := MX4_ofPlace) dL_arePlacesRight_56 ml_L_77 cz_X4_ofPlace mk_X4_ofPlace ms_X4_ofPlace cb4 (by decide) (s_ofPlace5 hp) rfl rfl (by simp [cat_rf, cat_i, cat_l, cat_r, cat_n]) (by decide) (by assumption) (lv1 _ 4 (fun _ => rfl)) (fun g hh => ?_)
      refine r_pc 59 rfl ?_
      first | refine e_iadd dL_arePlacesRight_59 ?_ | refine r_iadd dL_arePlacesRight_59 ?_
      refine r_aload_nO dL_arePlacesRight_60 rfl rfl ?_
      refine r_iload dL_arePlacesRight_61 rfl ?_
      refine e_iconst dL_arePlacesRight_63 ?_
      refine e_callVP (z := MX4_ofPlace) dL_arePlacesRight_64 ml_L_77 cz_X4_ofPlace mk_X4_ofPlace ms_X4_ofPlace cb4 (by decide) (s_ofPlace2 hp) rfl rfl (by simp [cat_rf, cat_i, cat_l, cat_r, cat_n]) (by decide) (by assumption) (lv1 _ 4 (fun _ => rfl)) (fun g hh => ?_)
      refine r_pc 67 rfl ?_
      refine e_ic_le 72 dL_arePlacesRight_67 (by decide) ⟨by omega, by omega⟩ ⟨by omega, by omega⟩ (fun h67 => ?_) (fun h67 => by exfalso; omega)
      refine r_pc 72 rfl ?_
      have he2 : (e + σ 0 p 0) = sumI (fun p => σ 0 p 0) (p + 1).toNat := sumI_e hj0 he rfl rfl
      have hf2 : (f + σ 0 p 8) = sumI (fun p => σ 0 p 8) (p + 1).toNat := sumI_e hj0 hf rfl rfl
      clear he hf
      generalize e + σ 0 p 0 = e at *
      generalize f + σ 0 p 8 = f at *
      have ihp := ih
      have kloop : ∀ m : Nat, ∀ q : Int, 0 ≤ q → q + (m : Int) = σ 0 p 0 → ∀ g, HR κ A g σ → Wp κ ML_arePlacesRight 7 0 0 75 [(0, vr A 4 0), (1, vr A 5 0), (2, .int (iI e)), (3, .int (iI f)), (4, .int (iI p)), (5, .int (iI q))] [] g (PQ κ A σ (some (.int (iI 1)))) := by
        intro m
        induction m with
        | zero =>
          intro q hj0 hjm g hh
          refine r_iload dL_arePlacesRight_75 rfl ?_
          refine r_aload_nO dL_arePlacesRight_77 rfl rfl ?_
          refine r_iload dL_arePlacesRight_78 rfl ?_
          refine e_iconst dL_arePlacesRight_80 ?_
          refine e_callVP (z := MX4_ofPlace) dL_arePlacesRight_81 ml_L_77 cz_X4_ofPlace mk_X4_ofPlace ms_X4_ofPlace cb4 (by decide) (s_ofPlace0 hp) rfl rfl (by simp [cat_rf, cat_i, cat_l, cat_r, cat_n]) (by decide) (by assumption) (lv1 _ 4 (fun _ => rfl)) (fun g hh => ?_)
          refine r_pc 84 rfl ?_
          refine e_ic_ge 219 dL_arePlacesRight_84 (by decide) ⟨by omega, by omega⟩ ⟨by omega, by omega⟩ (fun h84 => ?_) (fun h84 => by exfalso; omega)
          refine r_pc 219 rfl ?_
          refine e_iinc dL_arePlacesRight_219 rfl (by decide) ?_
          refine r_goto 7 dL_arePlacesRight_222 (by decide) ?_
          refine r_lv [(0, vr A 4 0), (1, vr A 5 0), (2, .int (iI e)), (3, .int (iI f)), (4, .int (iI (p + 1)))] rfl ?_
          exact ihp (p + 1) e f (by omega) (by omega) he2 hf2 g hh
        | succ m ih =>
          intro q hj0 hjm g hh
          have hqe : 0 ≤ q ∧ q < σ 0 p 0 := by omega
          obtain ⟨hq1, hq2, hq3⟩ := hpp.2 q hqe
          have ihk := ih
          have oloop : ∀ m : Nat, ∀ o : Int, 0 ≤ o → o + (m : Int) = (N : Int) → ∀ g, HR κ A g σ → Wp κ ML_arePlacesRight 7 0 0 150 [(0, vr A 4 0), (1, vr A 5 0), (2, .int (iI e)), (3, .int (iI f)), (4, .int (iI p)), (5, .int (iI q)), (6, .int (iI o))] [] g (PQ κ A σ (some (.int (iI 1)))) := by
            intro m
            induction m with
            | zero =>
              intro o hj0 hjm g hh
              refine r_iload dL_arePlacesRight_150 rfl ?_
              refine r_aload_nO dL_arePlacesRight_152 rfl rfl ?_
              refine e_getIN (t := 5) (k := 4) 4 dL_arePlacesRight_153 cb5 (by decide) (List.mem_of_getElem? (i := 4) rfl) (by rfl) rfl (by assumption) (lv1 _ 5 (fun _ => rfl)) ?_
              refine e_iv h5 ?_
              refine e_ic_ge 213 dL_arePlacesRight_156 (by decide) ⟨by omega, by omega⟩ ⟨by omega, by omega⟩ (fun h156 => ?_) (fun h156 => by exfalso; omega)
              refine r_pc 213 rfl ?_
              refine e_iinc dL_arePlacesRight_213 rfl (by decide) ?_
              refine r_goto 75 dL_arePlacesRight_216 (by decide) ?_
              refine r_lv [(0, vr A 4 0), (1, vr A 5 0), (2, .int (iI e)), (3, .int (iI f)), (4, .int (iI p)), (5, .int (iI (q + 1)))] rfl ?_
              exact ihk (q + 1) (by omega) (by omega) g hh
            | succ m ih =>
              intro o hj0 hjm g hh
              have hok : Lv σ 3 o := ⟨hj0, by show o < σ 99 3 0; omega⟩
              refine r_iload dL_arePlacesRight_150 rfl ?_
              refine r_aload_nO dL_arePlacesRight_152 rfl rfl ?_
              refine e_getIN (t := 5) (k := 4) 4 dL_arePlacesRight_153 cb5 (by decide) (List.mem_of_getElem? (i := 4) rfl) (by rfl) rfl (by assumption) (lv1 _ 5 (fun _ => rfl)) ?_
              refine e_iv h5 ?_
              refine e_ic_ge 213 dL_arePlacesRight_156 (by decide) ⟨by omega, by omega⟩ ⟨by omega, by omega⟩ (fun h156 => by exfalso; omega) (fun h156 => ?_)
              refine r_pc 159 rfl ?_
              refine r_aload_nO dL_arePlacesRight_159 rfl rfl ?_
              refine r_iload dL_arePlacesRight_160 rfl ?_
              refine e_iconst dL_arePlacesRight_162 ?_
              refine e_callVP (z := MX4_ofObject) dL_arePlacesRight_163 ml_L_44 cz_X4_ofObject mk_X4_ofObject ms_X4_ofObject cb4 (by decide) (s_ofObject2 hok hT hS) rfl rfl (by simp [cat_rf, cat_i, cat_l, cat_r, cat_n]) (by decide) (by assumption) (lv1 _ 4 (fun _ => rfl)) (fun g hh => ?_)
              refine r_pc 166 rfl ?_
              refine r_aload_nO dL_arePlacesRight_166 rfl rfl ?_
              refine r_iload dL_arePlacesRight_167 rfl ?_
              refine r_iload dL_arePlacesRight_169 rfl ?_
              refine e_iconst dL_arePlacesRight_171 ?_
              refine e_callVP (z := MX4_entry) dL_arePlacesRight_172 ml_L_109 cz_X4_entry mk_X4_entry ms_X4_entry cb4 (by decide) (s_entry0 hp hP hS hqe) rfl rfl (by simp [cat_rf, cat_i, cat_l, cat_r, cat_n]) (by decide) (by assumption) (lv1 _ 4 (fun _ => rfl)) (fun g hh => ?_)
              refine r_pc 175 rfl ?_
              have hosd := (hT.2.2 o hok).2.2.2.1
              have hs0 := hq1.1
              have hs1 : σ 11 p q < σ 99 1 0 := hq1.2
              refine e_ic_ne 207 dL_arePlacesRight_175 (by decide) ⟨by omega, by omega⟩ ⟨by omega, by omega⟩ (fun h175 => ?_) (fun h175 => ?_)
              · refine r_pc 207 rfl ?_
                refine e_iinc dL_arePlacesRight_207 rfl (by decide) ?_
                refine r_goto 150 dL_arePlacesRight_210 (by decide) ?_
                refine r_lv [(0, vr A 4 0), (1, vr A 5 0), (2, .int (iI e)), (3, .int (iI f)), (4, .int (iI p)), (5, .int (iI q)), (6, .int (iI (o + 1)))] rfl ?_
                exact ih (o + 1) (by omega) (by omega) g hh
              · refine r_pc 178 rfl ?_
                refine r_aload_nO dL_arePlacesRight_178 rfl rfl ?_
                refine r_iload dL_arePlacesRight_179 rfl ?_
                refine r_iload dL_arePlacesRight_181 rfl ?_
                refine e_iconst dL_arePlacesRight_183 ?_
                refine e_callVP (z := MX4_entry) dL_arePlacesRight_184 ml_L_109 cz_X4_entry mk_X4_entry ms_X4_entry cb4 (by decide) (s_entry2 hp hP hS hqe) rfl rfl (by simp [cat_rf, cat_i, cat_l, cat_r, cat_n]) (by decide) (by assumption) (lv1 _ 4 (fun _ => rfl)) (fun g hh => ?_)
                refine r_pc 187 rfl ?_
                refine r_aload_nO dL_arePlacesRight_187 rfl rfl ?_
                refine r_iload dL_arePlacesRight_188 rfl ?_
                refine r_aload_nO dL_arePlacesRight_190 rfl rfl ?_
                refine r_iload dL_arePlacesRight_191 rfl ?_
                refine r_iload dL_arePlacesRight_193 rfl ?_
                refine e_iconst dL_arePlacesRight_195 ?_
                refine e_callVP (z := MX4_entry) dL_arePlacesRight_196 ml_L_109 cz_X4_entry mk_X4_entry ms_X4_entry cb4 (by decide) (s_entry1 hp hP hS hqe) rfl rfl (by simp [cat_rf, cat_i, cat_l, cat_r, cat_n]) (by decide) (by assumption) (lv1 _ 4 (fun _ => rfl)) (fun g hh => ?_)
                refine r_pc 199 rfl ?_
                refine e_callVP (z := MX5_far) dL_arePlacesRight_199 ml_L_112 cz_X5_far mk_X5_far ms_X5_far cb5 (by decide) (s_far hO hT hL hF' hV hok hq2) rfl rfl (by simp [cat_rf, cat_i, cat_l, cat_r, cat_n]) (by decide) (by assumption) (lv1 _ 5 (fun _ => rfl)) (fun g hh => ?_)
                refine r_pc 202 rfl ?_
                refine r_ic_eq 207 dL_arePlacesRight_202 (by decide) (fun h202 => ?_) (fun h202 => by exact absurd (congrArg iI (by rw [hc.we p q hp hqe, ew_thing hc hok (by omega) hq2, h175])) h202)
                refine r_pc 207 rfl ?_
                refine e_iinc dL_arePlacesRight_207 rfl (by decide) ?_
                refine r_goto 150 dL_arePlacesRight_210 (by decide) ?_
                refine r_lv [(0, vr A 4 0), (1, vr A 5 0), (2, .int (iI e)), (3, .int (iI f)), (4, .int (iI p)), (5, .int (iI q)), (6, .int (iI (o + 1)))] rfl ?_
                exact ih (o + 1) (by omega) (by omega) g hh
          have jloop : ∀ m : Nat, ∀ j : Int, 0 ≤ j → j + (m : Int) = q → ∀ g, HR κ A g σ → Wp κ ML_arePlacesRight 7 0 0 90 [(0, vr A 4 0), (1, vr A 5 0), (2, .int (iI e)), (3, .int (iI f)), (4, .int (iI p)), (5, .int (iI q)), (6, .int (iI j))] [] g (PQ κ A σ (some (.int (iI 1)))) := by
            intro m
            induction m with
            | zero =>
              intro j hj0 hjm g hh
              refine r_iload dL_arePlacesRight_90 rfl ?_
              refine r_iload dL_arePlacesRight_92 rfl ?_
              refine e_ic_ge 147 dL_arePlacesRight_94 (by decide) ⟨by omega, by omega⟩ ⟨by omega, by omega⟩ (fun h94 => ?_) (fun h94 => by exfalso; omega)
              refine r_pc 147 rfl ?_
              refine e_iconst dL_arePlacesRight_147 ?_
              refine r_istore dL_arePlacesRight_148 (by decide) ?_
              refine r_lv [(0, vr A 4 0), (1, vr A 5 0), (2, .int (iI e)), (3, .int (iI f)), (4, .int (iI p)), (5, .int (iI q)), (6, .int (iI 0))] rfl ?_
              exact oloop N 0 (by omega) (by omega) g hh
            | succ m ih =>
              intro j hj0 hjm g hh
              have hje : 0 ≤ j ∧ j < σ 0 p 0 := by omega
              obtain ⟨hj1, hj2, -⟩ := hpp.2 j hje
              have hwd := CX.wd hc p j q hp hj0 (by omega) hqe.2
              have hs0 := hq1.1
              have hs1 : σ 11 p q < σ 99 1 0 := hq1.2
              have hs2 := hj1.1
              have hs3 : σ 11 p j < σ 99 1 0 := hj1.2
              refine r_iload dL_arePlacesRight_90 rfl ?_
              refine r_iload dL_arePlacesRight_92 rfl ?_
              refine e_ic_ge 147 dL_arePlacesRight_94 (by decide) ⟨by omega, by omega⟩ ⟨by omega, by omega⟩ (fun h94 => by exfalso; omega) (fun h94 => ?_)
              refine r_pc 97 rfl ?_
              refine r_aload_nO dL_arePlacesRight_97 rfl rfl ?_
              refine r_iload dL_arePlacesRight_98 rfl ?_
              refine r_iload dL_arePlacesRight_100 rfl ?_
              refine e_iconst dL_arePlacesRight_102 ?_
              refine e_callVP (z := MX4_entry) dL_arePlacesRight_103 ml_L_109 cz_X4_entry mk_X4_entry ms_X4_entry cb4 (by decide) (s_entry0 hp hP hS hje) rfl rfl (by simp [cat_rf, cat_i, cat_l, cat_r, cat_n]) (by decide) (by assumption) (lv1 _ 4 (fun _ => rfl)) (fun g hh => ?_)
              refine r_pc 106 rfl ?_
              refine r_aload_nO dL_arePlacesRight_106 rfl rfl ?_
              refine r_iload dL_arePlacesRight_107 rfl ?_
              refine r_iload dL_arePlacesRight_109 rfl ?_
              refine e_iconst dL_arePlacesRight_111 ?_
              refine e_callVP (z := MX4_entry) dL_arePlacesRight_112 ml_L_109 cz_X4_entry mk_X4_entry ms_X4_entry cb4 (by decide) (s_entry0 hp hP hS hqe) rfl rfl (by simp [cat_rf, cat_i, cat_l, cat_r, cat_n]) (by decide) (by assumption) (lv1 _ 4 (fun _ => rfl)) (fun g hh => ?_)
              refine r_pc 115 rfl ?_
              refine e_ic_ne 141 dL_arePlacesRight_115 (by decide) ⟨by omega, by omega⟩ ⟨by omega, by omega⟩ (fun h115 => ?_) (fun h115 => ?_)
              · refine r_pc 141 rfl ?_
                refine e_iinc dL_arePlacesRight_141 rfl (by decide) ?_
                refine r_goto 90 dL_arePlacesRight_144 (by decide) ?_
                refine r_lv [(0, vr A 4 0), (1, vr A 5 0), (2, .int (iI e)), (3, .int (iI f)), (4, .int (iI p)), (5, .int (iI q)), (6, .int (iI (j + 1)))] rfl ?_
                exact ih (j + 1) (by omega) (by omega) g hh
              · refine r_pc 118 rfl ?_
                refine r_aload_nO dL_arePlacesRight_118 rfl rfl ?_
                refine r_iload dL_arePlacesRight_119 rfl ?_
                refine r_iload dL_arePlacesRight_121 rfl ?_
                refine e_iconst dL_arePlacesRight_123 ?_
                refine e_callVP (z := MX4_entry) dL_arePlacesRight_124 ml_L_109 cz_X4_entry mk_X4_entry ms_X4_entry cb4 (by decide) (s_entry1 hp hP hS hje) rfl rfl (by simp [cat_rf, cat_i, cat_l, cat_r, cat_n]) (by decide) (by assumption) (lv1 _ 4 (fun _ => rfl)) (fun g hh => ?_)
                refine r_pc 127 rfl ?_
                refine r_aload_nO dL_arePlacesRight_127 rfl rfl ?_
                refine r_iload dL_arePlacesRight_128 rfl ?_
                refine r_iload dL_arePlacesRight_130 rfl ?_
                refine e_iconst dL_arePlacesRight_132 ?_
                refine e_callVP (z := MX4_entry) dL_arePlacesRight_133 ml_L_109 cz_X4_entry mk_X4_entry ms_X4_entry cb4 (by decide) (s_entry1 hp hP hS hqe) rfl rfl (by simp [cat_rf, cat_i, cat_l, cat_r, cat_n]) (by decide) (by assumption) (lv1 _ 4 (fun _ => rfl)) (fun g hh => ?_)
                refine r_pc 136 rfl ?_
                refine e_ic_ne 141 dL_arePlacesRight_136 (by decide) ⟨by omega, by omega⟩ ⟨by omega, by omega⟩ (fun h136 => ?_) (fun h136 => by exact absurd ⟨h115, h136⟩ hwd)
                refine r_pc 141 rfl ?_
                refine e_iinc dL_arePlacesRight_141 rfl (by decide) ?_
                refine r_goto 90 dL_arePlacesRight_144 (by decide) ?_
                refine r_lv [(0, vr A 4 0), (1, vr A 5 0), (2, .int (iI e)), (3, .int (iI f)), (4, .int (iI p)), (5, .int (iI q)), (6, .int (iI (j + 1)))] rfl ?_
                exact ih (j + 1) (by omega) (by omega) g hh
          refine r_iload dL_arePlacesRight_75 rfl ?_
          refine r_aload_nO dL_arePlacesRight_77 rfl rfl ?_
          refine r_iload dL_arePlacesRight_78 rfl ?_
          refine e_iconst dL_arePlacesRight_80 ?_
          refine e_callVP (z := MX4_ofPlace) dL_arePlacesRight_81 ml_L_77 cz_X4_ofPlace mk_X4_ofPlace ms_X4_ofPlace cb4 (by decide) (s_ofPlace0 hp) rfl rfl (by simp [cat_rf, cat_i, cat_l, cat_r, cat_n]) (by decide) (by assumption) (lv1 _ 4 (fun _ => rfl)) (fun g hh => ?_)
          refine r_pc 84 rfl ?_
          refine e_ic_ge 219 dL_arePlacesRight_84 (by decide) ⟨by omega, by omega⟩ ⟨by omega, by omega⟩ (fun h84 => by exfalso; omega) (fun h84 => ?_)
          refine r_pc 87 rfl ?_
          refine e_iconst dL_arePlacesRight_87 ?_
          refine r_istore dL_arePlacesRight_88 (by decide) ?_
          refine r_lv [(0, vr A 4 0), (1, vr A 5 0), (2, .int (iI e)), (3, .int (iI f)), (4, .int (iI p)), (5, .int (iI q)), (6, .int (iI 0))] rfl ?_
          exact jloop q.toNat 0 (by omega) (by omega) g hh
      refine e_iconst dL_arePlacesRight_72 ?_
      refine r_istore dL_arePlacesRight_73 (by decide) ?_
      refine r_lv [(0, vr A 4 0), (1, vr A 5 0), (2, .int (iI e)), (3, .int (iI f)), (4, .int (iI p)), (5, .int (iI 0))] rfl ?_
      exact kloop (σ 0 p 0).toNat 0 (by omega) (by omega) g hh
  refine e_start rfl (by show (lg_sl _).length ≤ 7; simp [lg_sl, cat_rf, cat_i, cat_l, cat_r, cat_n]) (lv := [(0, vr A 4 0), (1, vr A 5 0)]) (by simp [lv_args, cat_rf, cat_i, cat_l, cat_r, cat_n]) ?_
  refine e_iconst dL_arePlacesRight_0 ?_
  refine r_istore_n dL_arePlacesRight_1 rfl (by decide) ?_
  refine r_stw (by repeat' first | exact True.intro | refine And.intro (fun h => by first | rfl | exact cat_rf _ | exact absurd h (by decide)) ?_) ?_
  refine e_iconst dL_arePlacesRight_2 ?_
  refine r_istore_n dL_arePlacesRight_3 rfl (by decide) ?_
  refine e_iconst dL_arePlacesRight_4 ?_
  refine r_istore dL_arePlacesRight_5 (by decide) ?_
  refine r_lv [(0, vr A 4 0), (1, vr A 5 0), (2, .int (iI 0)), (3, .int (iI 0)), (4, .int (iI 0))] rfl ?_
  exact main 6 0 0 0 (by omega) (by omega) rfl rfl g hh
