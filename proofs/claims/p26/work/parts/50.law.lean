theorem rem_I {a : Int} {n : Nat} (h : 0 ≤ a ∧ a < 2147483648) (hn : 0 < n) (hn2 : n < 2 ^ 31) : iI a - iI a / iI (n : Int) * iI (n : Int) = iI (a % (n : Int)) := by
  obtain ⟨m, rfl⟩ := Int.eq_ofNat_of_zero_le h.1
  rw [iI_nI (by omega), iI_nI (v := (n : Int)) (by omega)]
  have e : (m : Int).toNat = m := rfl
  have e2 : (n : Int).toNat = n := rfl
  rw [e, e2, pk_rem (by omega) hn hn2, iI_nI (by omega)]
  rfl
theorem abs_1 {d : Int} (h : -1 ≤ d ∧ d ≤ 1) : (if 0 ≤ iI d then iI d else 0 - iI d) = iI (if d < 0 then -d else d) := by
  have e : d = -1 ∨ d = 0 ∨ d = 1 := by omega
  rcases e with rfl | rfl | rfl <;> decide +kernel
theorem cmp_0 (r : Int64) : lg_cmp r r = iI 0 := by
  unfold lg_cmp
  have h : ¬ r > r := fun h => absurd (Int64.lt_iff_toInt_lt.mp h) (Int.lt_irrefl _)
  rw [if_neg h, if_pos rfl]
  rfl
theorem s_cell {κ : KK} {A : Nat → Int → Nat} {σ : ST} {k : Int} (hk : 0 ≤ k ∧ k < 100) (hsl : sl κ ≤ 260) : ∃ v : Int32, PU κ A ML_cell 0 σ [.ref (sb κ), .int (iI k)] (.int v) := by
  by_cases hc : k < (sl κ : Int)
  · refine ⟨xs κ k.toNat, ?_⟩
    intro g hh
    refine e_start rfl (by show (lg_sl _).length ≤ 2; simp [lg_sl, cat_rf, cat_i, cat_l, cat_r, cat_n]) (lv := [(0, .ref (sb κ)), (1, .int (iI k))]) (by simp [lv_args, cat_rf, cat_i, cat_l, cat_r, cat_n]) ?_
    refine r_iload_n dL_cell_0 rfl rfl ?_
    refine r_aload_n dL_cell_1 rfl rfl ?_
    refine r_slen dL_cell_2 ?_
    refine r_iv (show nI (sl κ) = iI (sl κ : Int) from (iI_nI (v := (sl κ : Int)) (by omega)).symm) ?_
    refine e_ic_ge 12 dL_cell_3 (by decide) ⟨by omega, by omega⟩ ⟨by omega, by omega⟩ (fun h3 => by exfalso; omega) (fun h3 => ?_)
    refine r_pc 6 rfl ?_
    refine r_aload_n dL_cell_6 rfl rfl ?_
    refine r_iload_n dL_cell_7 rfl rfl ?_
    refine r_sld (j := k.toNat) dL_cell_8 (iI_nI hk.1) (by omega) (by omega) ?_
    refine r_goto 18 dL_cell_9 (by decide) ?_
    exact r_iret dL_cell_18 rfl ⟨rfl, by assumption⟩
  · refine ⟨790386105 * iI (k + 3), ?_⟩
    intro g hh
    refine e_start rfl (by show (lg_sl _).length ≤ 2; simp [lg_sl, cat_rf, cat_i, cat_l, cat_r, cat_n]) (lv := [(0, .ref (sb κ)), (1, .int (iI k))]) (by simp [lv_args, cat_rf, cat_i, cat_l, cat_r, cat_n]) ?_
    refine r_iload_n dL_cell_0 rfl rfl ?_
    refine r_aload_n dL_cell_1 rfl rfl ?_
    refine r_slen dL_cell_2 ?_
    refine r_iv (show nI (sl κ) = iI (sl κ : Int) from (iI_nI (v := (sl κ : Int)) (by omega)).symm) ?_
    refine e_ic_ge 12 dL_cell_3 (by decide) ⟨by omega, by omega⟩ ⟨by omega, by omega⟩ (fun h3 => ?_) (fun h3 => by exfalso; omega)
    refine r_pc 12 rfl ?_
    refine r_ldc dL_cell_12 md_L_8 ?_
    refine r_iload_n dL_cell_14 rfl rfl ?_
    refine e_iconst dL_cell_15 ?_
    first | refine e_iadd dL_cell_16 ?_ | refine r_iadd dL_cell_16 ?_
    first | refine e_imul dL_cell_17 ?_ | refine r_imul dL_cell_17 ?_
    exact r_iret dL_cell_18 rfl ⟨rfl, by assumption⟩
theorem s_law16 {κ : KK} {A : Nat → Int → Nat} {σ : ST} {g : GG} {L Sc : Int → List Int} (hsl : sl κ ≤ 260) (hc : CO σ L Sc 0) (hO : OWN σ σ) (hN : 0 ≤ σ 99 3 0) (hh : HR κ A g σ) : Wp κ ML_law 11 1832 18360 16 [(0, .ref (sb κ)), (1, vr A 4 0), (2, vr A 5 0)] [] g (fun w _ => w = some (.int (iI 1))) := by
  have hz12 : ¬ iI 12 = 0 := by decide
  have main : ∀ (m : Nat) (t sh : Int) (A : Nat → Int → Nat) (σ : ST) (L Sc : Int → List Int), 0 ≤ t → t + (m : Int) = 60 → CO σ L Sc t → OWN σ σ → 4 ≤ σ 99 3 0 → sh ≤ σ 99 1 0 → -1 ≤ sh → ∀ g, HR κ A g σ → Wp κ ML_law 11 (30 * m) (300 * m) 57 [(0, .ref (sb κ)), (1, vr A 4 0), (2, vr A 5 0), (3, .int (iI sh)), (4, .int (iI t))] [] g (fun w _ => w = some (.int (iI 1))) := by
    intro m
    induction m with
    | zero =>
      intro t sh A σ L Sc ht0 htm hc hO hN4 hsh hsh0 g hh
      have hT := hc.wt
      have hS := hc.ws
      have hF' := hc.wf
      have hN24 := hT.2.1
      have hs2 := hS.2.1
      obtain ⟨r, -, hr⟩ := s_digest (κ := κ) (A := A) hT hc.wl hS hc.wp hF' hc.wv
      have h00 : Lv σ 3 0 := ⟨Int.le_refl 0, by show (0 : Int) < σ 99 3 0; omega⟩
      refine r_iload dL_law_57 rfl ?_
      refine e_bipush dL_law_59 (by decide +kernel) ?_
      refine e_ic_ge 303 dL_law_61 (by decide) ⟨by omega, by omega⟩ ⟨by omega, by omega⟩ (fun h61 => ?_) (fun h61 => by exfalso; omega)
      refine r_pc 303 rfl ?_
      refine r_aload_nO dL_law_303 rfl rfl ?_
      refine e_callVP (z := MX4_digest) dL_law_304 ml_L_60 cz_X4_digest mk_X4_digest ms_X4_digest cb4 (by decide) hr rfl rfl (by simp [cat_rf, cat_i, cat_l, cat_r, cat_n]) (by decide) (by assumption) (lv1 _ 4 (fun _ => rfl)) (fun g hh => ?_)
      refine r_pc 307 rfl ?_
      refine r_lstore dL_law_307 (by decide) ?_
      refine r_aload_nO dL_law_309 rfl rfl ?_
      refine e_iconst dL_law_310 ?_
      refine e_iconst dL_law_311 ?_
      refine e_callVP (z := MX4_differs) dL_law_312 ml_L_64 cz_X4_differs mk_X4_differs ms_X4_differs cb4 (by decide) (s_differs h00 hT hc.wl hS hc.wp hF' hc.wv) rfl rfl (by simp [cat_rf, cat_i, cat_l, cat_r, cat_n]) (by decide) (by assumption) (lv1 _ 4 (fun _ => rfl)) (fun g hh => ?_)
      refine r_pc 315 rfl ?_
      refine e_if_ne 332 dL_law_315 (by decide) ⟨by omega, by omega⟩ (fun h315 => by exfalso; omega) (fun h315 => ?_)
      refine r_pc 318 rfl ?_
      refine r_aload_nO dL_law_318 rfl rfl ?_
      refine e_callVP (z := MX4_digest) dL_law_319 ml_L_60 cz_X4_digest mk_X4_digest ms_X4_digest cb4 (by decide) hr rfl rfl (by simp [cat_rf, cat_i, cat_l, cat_r, cat_n]) (by decide) (by assumption) (lv1 _ 4 (fun _ => rfl)) (fun g hh => ?_)
      refine r_pc 322 rfl ?_
      refine r_lload dL_law_322 rfl ?_
      refine r_lcmp dL_law_324 ?_
      refine r_iv (cmp_0 r) ?_
      refine e_if_ne 332 dL_law_325 (by decide) ⟨by omega, by omega⟩ (fun h325 => by exfalso; omega) (fun h325 => ?_)
      refine r_pc 328 rfl ?_
      refine e_iconst dL_law_328 ?_
      refine r_goto 333 dL_law_329 (by decide) ?_
      exact r_zret dL_law_333 rfl (narrow_01 (by omega)) rfl
    | succ m ih =>
      intro t sh A σ L Sc ht0 htm hc hO hN4 hsh hsh0 g hh
      have hT := hc.wt
      have hS := hc.ws
      have hF' := hc.wf
      have hN24 := hT.2.1
      have hs2 := hS.2.1
      obtain ⟨N, hNn⟩ : ∃ N : Nat, (N : Int) = σ 99 3 0 := ⟨(σ 99 3 0).toNat, by omega⟩
      have hNp : 0 < N := by omega
      have h5 : σ 5 0 4 = (N : Int) := hO.1.trans hNn.symm
      obtain ⟨cv, hcv⟩ := s_cell (κ := κ) (A := A) (σ := σ) (k := t % 29) (by omega) hsl
      have J235 : ∀ (A' : Nat → Int → Nat) (σ' : ST) (L' Sc' : Int → List Int), CO σ' L' Sc' (t + 1) → OWN σ' σ' → σ 99 1 0 ≤ σ' 99 1 0 → SD σ σ' → ∀ g, HR κ A' g σ' → Wp κ ML_law 11 (30 * m + 10) (300 * m + 100) 235 [(0, .ref (sb κ)), (1, vr A' 4 0), (2, vr A' 5 0), (3, .int (iI sh)), (4, .int (iI t)), (6, .int (iI (SZS σ)))] [] g (fun w _ => w = some (.int (iI 1))) := by
        intro A' σ' L' Sc' hc' hO' hle hsd g hh
        have hT' := hc'.wt
        have hS' := hc'.ws
        have hF2 := hc'.wf
        have hs3 := hS'.2.1
        have hN3 := hsd.2.2
        have hd : -1 ≤ SZS σ' - SZS σ ∧ SZS σ' - SZS σ ≤ 1 := ⟨hsd.1, hsd.2.1⟩
        refine r_aload_nO dL_law_235 rfl rfl ?_
        refine e_iconst dL_law_236 ?_
        refine e_callVP (z := MX4_many) dL_law_237 ml_L_29 cz_X4_many mk_X4_many ms_X4_many cb4 (by decide) (s_many1 hT' hS' hF2) rfl rfl (by simp [cat_rf, cat_i, cat_l, cat_r, cat_n]) (by decide) (by assumption) (lv1 _ 4 (fun _ => rfl)) (fun g hh => ?_)
        refine r_pc 240 rfl ?_
        refine r_iload dL_law_240 rfl ?_
        first | refine e_isub dL_law_242 ?_ | refine r_isub dL_law_242 ?_
        refine e_iv (show _ = SZS σ' - SZS σ from rfl) ?_
        refine r_abs dL_law_243 ml_L_51 (by decide) (by simp [cat_rf, cat_i, cat_l, cat_r, cat_n]) ?_
        refine r_iv (abs_1 hd) ?_
        refine e_iconst dL_law_246 ?_
        refine e_ic_gt 269 dL_law_247 (by decide) ⟨by omega, by omega⟩ ⟨by omega, by omega⟩ (fun h247 => by exfalso; split at h247 <;> omega) (fun h247 => ?_)
        refine r_pc 250 rfl ?_
        refine r_aload_nO dL_law_250 rfl rfl ?_
        refine e_iconst dL_law_251 ?_
        refine e_callVP (z := MX4_many) dL_law_252 ml_L_29 cz_X4_many mk_X4_many ms_X4_many cb4 (by decide) (s_many2 hT' hS' hF2) rfl rfl (by simp [cat_rf, cat_i, cat_l, cat_r, cat_n]) (by decide) (by assumption) (lv1 _ 4 (fun _ => rfl)) (fun g hh => ?_)
        refine r_pc 255 rfl ?_
        refine r_iload_n dL_law_255 rfl rfl ?_
        refine e_ic_lt 269 dL_law_256 (by decide) ⟨by omega, by omega⟩ ⟨by omega, by omega⟩ (fun h256 => by exfalso; omega) (fun h256 => ?_)
        refine r_pc 259 rfl ?_
        refine r_aload_nO dL_law_259 rfl rfl ?_
        refine e_iconst dL_law_260 ?_
        refine e_callVP (z := MX4_many) dL_law_261 ml_L_29 cz_X4_many mk_X4_many ms_X4_many cb4 (by decide) (s_many2 hT' hS' hF2) rfl rfl (by simp [cat_rf, cat_i, cat_l, cat_r, cat_n]) (by decide) (by assumption) (lv1 _ 4 (fun _ => rfl)) (fun g hh => ?_)
        refine r_pc 264 rfl ?_
        refine e_bipush dL_law_264 (by decide +kernel) ?_
        refine e_ic_le 271 dL_law_266 (by decide) ⟨by omega, by omega⟩ ⟨by omega, by omega⟩ (fun h266 => ?_) (fun h266 => by exfalso; omega)
        refine r_pc 271 rfl ?_
        refine r_aload_nO dL_law_271 rfl rfl ?_
        refine e_iconst dL_law_272 ?_
        refine e_callVP (z := MX4_many) dL_law_273 ml_L_29 cz_X4_many mk_X4_many ms_X4_many cb4 (by decide) (s_many2 hT' hS' hF2) rfl rfl (by simp [cat_rf, cat_i, cat_l, cat_r, cat_n]) (by decide) (by assumption) (lv1 _ 4 (fun _ => rfl)) (fun g hh => ?_)
        refine r_pc 276 rfl ?_
        refine r_istore_n dL_law_276 rfl (by decide) ?_
        refine r_stw (by repeat' first | exact True.intro | refine And.intro (fun h => by first | rfl | exact cat_rf _ | exact absurd h (by decide)) ?_) ?_
        refine r_iload dL_law_277 rfl ?_
        refine e_bipush dL_law_279 (by decide +kernel) ?_
        refine r_irem dL_law_281 (by assumption) ?_
        refine r_iv (rem_I (n := 12) ⟨by omega, by omega⟩ (by omega) (by omega)) ?_
        refine e_bipush dL_law_282 (by decide +kernel) ?_
        refine e_ic_ne 297 dL_law_284 (by decide) ⟨by omega, by omega⟩ ⟨by omega, by omega⟩ (fun h284 => ?_) (fun h284 => ?_)
        · refine r_pc 297 rfl ?_
          refine e_iinc dL_law_297 rfl (by decide) ?_
          refine r_goto 57 dL_law_300 (by decide) ?_
          refine Wp.widen (kc := 30 * m) (ks := 300 * m) (by omega) (by omega) ?_
          refine r_lv [(0, .ref (sb κ)), (1, vr A' 4 0), (2, vr A' 5 0), (3, .int (iI (σ' 99 1 0))), (4, .int (iI (t + 1)))] rfl ?_
          exact ih (t + 1) _ A' σ' L' Sc' (by omega) (by omega) hc' hO' (by omega) (Int.le_refl _) (by omega) g hh
        · refine r_pc 287 rfl ?_
          refine r_aload_nO dL_law_287 rfl rfl ?_
          refine r_aload_nO dL_law_288 rfl rfl ?_
          refine r_callS (z := ML_isSo) (kc' := (30*m)) (ks' := (300*m)) dL_law_289 ml_L_56 cz_L_isSo mk_L_isSo (s_isSo hc' (by omega) hO' (by omega) hh) (by rfl) (by rfl) (by simp [cat_rf, cat_i, cat_l, cat_r, cat_n]) (by decide) (by omega) (by omega) (fun w g hq => ?_)
          obtain ⟨A2, σ2, L2, Sc2, hh, rfl, hA2, hc2, hO2, hle2, hsd2, hN2⟩ := hq
          have e4 : vr A' 4 0 = vr A2 4 0 := by unfold vr rf; rw [hA2.1]
          have e5 : vr A' 5 0 = vr A2 5 0 := by unfold vr rf; rw [hA2.2]
          rw [e4, e5]
          refine r_pc 292 rfl ?_
          refine e_if_ne 297 dL_law_292 (by decide) ⟨by omega, by omega⟩ (fun h292 => ?_) (fun h292 => by exfalso; omega)
          refine r_pc 297 rfl ?_
          refine e_iinc dL_law_297 rfl (by decide) ?_
          refine r_goto 57 dL_law_300 (by decide) ?_
          refine Wp.widen (kc := 30 * m) (ks := 300 * m) (by omega) (by omega) ?_
          refine r_lv [(0, .ref (sb κ)), (1, vr A2 4 0), (2, vr A2 5 0), (3, .int (iI (σ' 99 1 0))), (4, .int (iI (t + 1)))] rfl ?_
          exact ih (t + 1) _ A2 σ2 L2 Sc2 (by omega) (by omega) hc2 hO2 (by omega) hle2 (by omega) g hh
      refine r_iload dL_law_57 rfl ?_
      refine e_bipush dL_law_59 (by decide +kernel) ?_
      refine e_ic_ge 303 dL_law_61 (by decide) ⟨by omega, by omega⟩ ⟨by omega, by omega⟩ (fun h61 => by exfalso; omega) (fun h61 => ?_)
      refine r_pc 64 rfl ?_
      have hz29 : ¬ iI 29 = 0 := by decide
      refine r_aload_n dL_law_64 rfl rfl ?_
      refine r_iload dL_law_65 rfl ?_
      refine e_bipush dL_law_67 (by decide +kernel) ?_
      refine r_irem dL_law_69 (by assumption) ?_
      refine r_iv (rem_I (n := 29) ⟨by omega, by omega⟩ (by omega) (by omega)) ?_
      refine e_callSP (z := ML_cell) dL_law_70 ml_L_15 cz_L_cell mk_L_cell hcv rfl rfl (by simp [cat_rf, cat_i, cat_l, cat_r, cat_n]) (by decide) (by assumption) (fun g hh => ?_)
      refine r_pc 73 rfl ?_
      refine r_iload dL_law_73 rfl ?_
      refine e_bipush dL_law_75 (by decide +kernel) ?_
      refine r_idiv dL_law_77 (by assumption) ?_
      refine e_bipush dL_law_78 (by decide +kernel) ?_
      refine r_imul dL_law_80 ?_
      refine r_ishr dL_law_81 ?_
      generalize (cv >>> _) = x
      refine r_istore dL_law_82 (by decide) ?_
      refine r_aload_nO dL_law_84 rfl rfl ?_
      refine e_iconst dL_law_85 ?_
      refine e_callVP (z := MX4_many) dL_law_86 ml_L_29 cz_X4_many mk_X4_many ms_X4_many cb4 (by decide) (s_many1 hT hS hF') rfl rfl (by simp [cat_rf, cat_i, cat_l, cat_r, cat_n]) (by decide) (by assumption) (lv1 _ 4 (fun _ => rfl)) (fun g hh => ?_)
      refine r_pc 89 rfl ?_
      refine e_iv (show _ = SZS σ from rfl) ?_
      have hw := blw_r x (n := 16) (by omega)
      obtain ⟨ww, ew⟩ : ∃ ww, ww = blw x 16 := ⟨_, rfl⟩
      rw [← ew] at hw
      refine r_istore dL_law_89 (by decide) ?_
      refine r_iload dL_law_91 rfl ?_
      refine e_bipush dL_law_93 (by decide +kernel) ?_
      refine e_callSP (z := ML_below) dL_law_95 ml_L_21 cz_L_below mk_L_below (s_below (v := x) (n := 16) (by decide) (by decide)) rfl rfl (by simp [cat_rf, cat_i, cat_l, cat_r, cat_n]) (by decide) (by assumption) (fun g hh => ?_)
      refine r_pc 98 rfl ?_
      rw [← ew]
      refine e_bipush dL_law_98 (by decide +kernel) ?_
      refine e_ic_ne 128 dL_law_100 (by decide) ⟨by omega, by omega⟩ ⟨by omega, by omega⟩ (fun h100 => ?_) (fun h100 => ?_)
      · refine r_pc 128 rfl ?_
        refine r_iload dL_law_128 rfl ?_
        refine e_bipush dL_law_130 (by decide +kernel) ?_
        refine e_callSP (z := ML_below) dL_law_132 ml_L_21 cz_L_below mk_L_below (s_below (v := x) (n := 16) (by decide) (by decide)) rfl rfl (by simp [cat_rf, cat_i, cat_l, cat_r, cat_n]) (by decide) (by assumption) (fun g hh => ?_)
        refine r_pc 135 rfl ?_
        rw [← ew]
        refine e_bipush dL_law_135 (by decide +kernel) ?_
        refine e_ic_le 152 dL_law_137 (by decide) ⟨by omega, by omega⟩ ⟨by omega, by omega⟩ (fun h137 => ?_) (fun h137 => ?_)
        · refine r_pc 152 rfl ?_
          refine r_iload dL_law_152 rfl ?_
          refine e_bipush dL_law_154 (by decide +kernel) ?_
          refine e_callSP (z := ML_below) dL_law_156 ml_L_21 cz_L_below mk_L_below (s_below (v := x) (n := 16) (by decide) (by decide)) rfl rfl (by simp [cat_rf, cat_i, cat_l, cat_r, cat_n]) (by decide) (by assumption) (fun g hh => ?_)
          refine r_pc 159 rfl ?_
          rw [← ew]
          refine e_bipush dL_law_159 (by decide +kernel) ?_
          refine e_ic_ne 203 dL_law_161 (by decide) ⟨by omega, by omega⟩ ⟨by omega, by omega⟩ (fun h161 => ?_) (fun h161 => ?_)
          · refine r_pc 203 rfl ?_
            refine r_aload_nO dL_law_203 rfl rfl ?_
            refine r_aload_nO dL_law_204 rfl rfl ?_
            refine r_iload dL_law_205 rfl ?_
            refine e_bipush dL_law_207 (by decide +kernel) ?_
            refine e_callSP (z := ML_below) dL_law_209 ml_L_21 cz_L_below mk_L_below (s_below (v := x) (n := 16) (by decide) (by decide)) rfl rfl (by simp [cat_rf, cat_i, cat_l, cat_r, cat_n]) (by decide) (by assumption) (fun g hh => ?_)
            refine r_pc 212 rfl ?_
            rw [← ew]
            refine e_bipush dL_law_212 (by decide +kernel) ?_
            refine r_iload dL_law_214 rfl ?_
            refine e_bipush dL_law_216 (by decide +kernel) ?_
            refine r_ishr dL_law_218 ?_
            refine e_sipush dL_law_219 (by decide +kernel) ?_
            refine r_iand dL_law_222 ?_
            refine r_imul dL_law_223 ?_
            refine r_iadd dL_law_224 ?_
            refine e_bipush dL_law_225 (by decide +kernel) ?_
            refine e_callV (z := MX5_isChanged) (kc' := (30*m+10)) (ks' := (300*m+100)) dL_law_227 ml_L_47 cz_X5_isChanged mk_X5_isChanged ms_X5_isChanged cb5 (by decide) (by rfl) (by rfl) (by simp [cat_rf, cat_i, cat_l, cat_r, cat_n]) (by decide) (by assumption) (lv1 _ 5 (fun _ => rfl)) (s_isChanged hc hO (by omega) hh) (by omega) (by omega) (fun w g hq => ?_)
            obtain ⟨A2, σ2, L2, Sc2, hh, rfl, hA2, hc2, hO2, hle2, hsd2, -⟩ := hq
            have e4 : vr A 4 0 = vr A2 4 0 := by unfold vr rf; rw [hA2.1]
            have e5 : vr A 5 0 = vr A2 5 0 := by unfold vr rf; rw [hA2.2]
            rw [e4, e5]
            refine r_pc 230 rfl ?_
            refine e_if_ne 235 dL_law_230 (by decide) ⟨by omega, by omega⟩ (fun h230 => ?_) (fun h230 => by exfalso; omega)
            refine r_pc 235 rfl ?_
            refine r_lv [(0, .ref (sb κ)), (1, vr A2 4 0), (2, vr A2 5 0), (3, .int (iI sh)), (4, .int (iI t)), (6, .int (iI (SZS σ)))] rfl ?_
            exact J235 A2 σ2 L2 Sc2 (CX.mono hc2 (by omega)) hO2 hle2 hsd2 g hh
          · refine r_pc 164 rfl ?_
            refine r_aload_nO dL_law_164 rfl rfl ?_
            refine r_iload dL_law_165 rfl ?_
            refine e_iconst dL_law_167 ?_
            refine r_ishr dL_law_168 ?_
            refine r_aload_nO dL_law_169 rfl rfl ?_
            refine e_getIN (t := 5) (k := 4) 4 dL_law_170 cb5 (by decide) (List.mem_of_getElem? (i := 4) rfl) (by rfl) rfl (by assumption) (lv1 _ 5 (fun _ => rfl)) ?_
            refine e_iv h5 ?_
            refine e_callSP (z := ML_below) dL_law_173 ml_L_21 cz_L_below mk_L_below (s_below (v := (x >>> (iI 4 &&& 31))) (n := N) hNp (by omega)) rfl rfl (by simp [cat_rf, cat_i, cat_l, cat_r, cat_n]) (by decide) (by assumption) (fun g hh => ?_)
            refine r_pc 176 rfl ?_
            have hkr := blw_r (x >>> (iI 4 &&& 31)) hNp
            obtain ⟨k, ek⟩ : ∃ k, k = blw (x >>> (iI 4 &&& 31)) N := ⟨_, rfl⟩
            rw [← ek] at hkr ⊢
            have hk : Lv σ 3 k := ⟨hkr.1, by show k < σ 99 3 0; omega⟩
            refine e_callV (z := MX4_settle) (kc' := (30*m+10)) (ks' := (300*m+100)) dL_law_176 ml_L_40 cz_X4_settle mk_X4_settle ms_X4_settle cb4 (by decide) (by rfl) (by rfl) (by simp [cat_rf, cat_i, cat_l, cat_r, cat_n]) (by decide) (by assumption) (lv1 _ 4 (fun _ => rfl)) (s_settle hc hk hh) (by omega) (by omega) (fun w g hq => ?_)
            obtain ⟨A2, σ2, L2, Sc2, hh, rfl, hA2, hc2, hag, hle2⟩ := hq
            have hO2 : OWN σ2 σ2 := (hO.cf hag.cf).ve hag.ve
            have hsd2 : SD σ σ2 := (SD.rf' σ).ve hag.ve
            have e4 : vr A 4 0 = vr A2 4 0 := vr_eq hA2 (by decide) 0
            have e5 : vr A 5 0 = vr A2 5 0 := vr_eq hA2 (by decide) 0
            rw [e4, e5]
            have hk2 : Lv σ2 3 k := lv_ve hag.ve hk
            have h52 : σ2 5 0 4 = (N : Int) := (hag.1 5 0 4 rfl).trans h5
            refine r_pc 179 rfl ?_
            refine e_ifeq_b 235 dL_law_179 (by decide) (fun h179 => ?_) (fun h179 => ?_)
            · refine r_pc 235 rfl ?_
              refine r_lv [(0, .ref (sb κ)), (1, vr A2 4 0), (2, vr A2 5 0), (3, .int (iI sh)), (4, .int (iI t)), (6, .int (iI (SZS σ)))] rfl ?_
              exact J235 A2 σ2 L2 Sc2 (CX.mono hc2 (by omega)) hO2 hle2 hsd2 g hh
            · refine r_pc 182 rfl ?_
              refine r_aload_nO dL_law_182 rfl rfl ?_
              refine r_iload dL_law_183 rfl ?_
              refine e_iconst dL_law_185 ?_
              refine r_ishr dL_law_186 ?_
              refine r_aload_nO dL_law_187 rfl rfl ?_
              refine e_getIN (t := 5) (k := 4) 4 dL_law_188 cb5 (by decide) (List.mem_of_getElem? (i := 4) rfl) (by rfl) rfl (by assumption) (lv1 _ 5 (fun _ => rfl)) ?_
              refine e_iv h52 ?_
              refine e_callSP (z := ML_below) dL_law_191 ml_L_21 cz_L_below mk_L_below (s_below (v := (x >>> (iI 4 &&& 31))) (n := N) hNp (by omega)) rfl rfl (by simp [cat_rf, cat_i, cat_l, cat_r, cat_n]) (by decide) (by assumption) (fun g hh => ?_)
              refine r_pc 194 rfl ?_
              rw [← ek]
              refine e_iconst dL_law_194 ?_
              refine e_callVP (z := MX4_ofObject) dL_law_195 ml_L_44 cz_X4_ofObject mk_X4_ofObject ms_X4_ofObject cb4 (by decide) (s_ofObject2 hk2 hc2.wt hc2.ws) rfl rfl (by simp [cat_rf, cat_i, cat_l, cat_r, cat_n]) (by decide) (by assumption) (lv1 _ 4 (fun _ => rfl)) (fun g hh => ?_)
              refine r_pc 198 rfl ?_
              have hsdm := (hc2.wt.2.2 k hk2).2.2.2.1
              have hs4 := hc2.ws.2.1
              refine e_if_ge 235 dL_law_198 (by decide) ⟨by omega, by omega⟩ (fun h198 => ?_) (fun h198 => by exfalso; omega)
              refine r_pc 235 rfl ?_
              refine r_lv [(0, .ref (sb κ)), (1, vr A2 4 0), (2, vr A2 5 0), (3, .int (iI sh)), (4, .int (iI t)), (6, .int (iI (SZS σ)))] rfl ?_
              exact J235 A2 σ2 L2 Sc2 (CX.mono hc2 (by omega)) hO2 hle2 hsd2 g hh
        · refine r_pc 140 rfl ?_
          refine r_aload_nO dL_law_140 rfl rfl ?_
          refine r_aload_nO dL_law_141 rfl rfl ?_
          refine r_iload dL_law_142 rfl ?_
          refine r_callS (z := ML_isRead) (kc' := (30*m+10)) (ks' := (300*m+100)) dL_law_144 ml_L_36 cz_L_isRead mk_L_isRead (s_isRead (x := x) hc hO (by omega) hh) (by rfl) (by rfl) (by simp [cat_rf, cat_i, cat_l, cat_r, cat_n]) (by decide) (by omega) (by omega) (fun w g hq => ?_)
          obtain ⟨A2, σ2, L2, Sc2, hh, rfl, hA2, hc2, hO2, hle2, hsd2, -⟩ := hq
          have e4 : vr A 4 0 = vr A2 4 0 := by unfold vr rf; rw [hA2.1]
          have e5 : vr A 5 0 = vr A2 5 0 := by unfold vr rf; rw [hA2.2]
          rw [e4, e5]
          refine r_pc 147 rfl ?_
          refine e_if_ne 235 dL_law_147 (by decide) ⟨by omega, by omega⟩ (fun h147 => ?_) (fun h147 => by exfalso; omega)
          refine r_pc 235 rfl ?_
          refine r_lv [(0, .ref (sb κ)), (1, vr A2 4 0), (2, vr A2 5 0), (3, .int (iI sh)), (4, .int (iI t)), (6, .int (iI (SZS σ)))] rfl ?_
          exact J235 A2 σ2 L2 Sc2 hc2 hO2 hle2 hsd2 g hh
      · refine r_pc 103 rfl ?_
        refine r_aload_nO dL_law_103 rfl rfl ?_
        refine r_aload_nO dL_law_104 rfl rfl ?_
        refine r_iload dL_law_105 rfl ?_
        refine e_iconst dL_law_107 ?_
        refine r_ishr dL_law_108 ?_
        refine r_aload_nO dL_law_109 rfl rfl ?_
        refine e_getIN (t := 5) (k := 4) 4 dL_law_110 cb5 (by decide) (List.mem_of_getElem? (i := 4) rfl) (by rfl) rfl (by assumption) (lv1 _ 5 (fun _ => rfl)) ?_
        refine e_iv h5 ?_
        refine e_iconst dL_law_113 ?_
        first | refine e_iadd dL_law_114 ?_ | refine r_iadd dL_law_114 ?_
        refine e_iv (show (N : Int) + 1 = ((N + 1 : Nat) : Int) by omega) ?_
        refine e_callSP (z := ML_below) dL_law_115 ml_L_21 cz_L_below mk_L_below (s_below (v := (x >>> (iI 4 &&& 31))) (n := (N + 1)) (by omega) (by omega)) rfl rfl (by simp [cat_rf, cat_i, cat_l, cat_r, cat_n]) (by decide) (by assumption) (fun g hh => ?_)
        refine r_pc 118 rfl ?_
        have hp := blw_r (x >>> (iI 4 &&& 31)) (n := (N + 1)) (by omega)
        generalize blw (x >>> (iI 4 &&& 31)) (N + 1) = p at *
        refine e_iconst dL_law_118 ?_
        first | refine e_isub dL_law_119 ?_ | refine r_isub dL_law_119 ?_
        refine e_callV (z := MX5_isMade) (kc' := (30*m+10)) (ks' := (300*m+100)) dL_law_120 ml_L_25 cz_X5_isMade mk_X5_isMade ms_X5_isMade cb5 (by decide) (by rfl) (by rfl) (by simp [cat_rf, cat_i, cat_l, cat_r, cat_n]) (by decide) (by assumption) (lv1 _ 5 (fun _ => rfl)) (s_isMade (q := p - 1) hc hO (by omega) hh) (by omega) (by omega) (fun w g hq => ?_)
        obtain ⟨A2, σ2, L2, Sc2, hh, rfl, hA2, hc2, hO2, hle2, hsd2, -, -⟩ := hq
        have e4 : vr A 4 0 = vr A2 4 0 := by unfold vr rf; rw [hA2.1]
        have e5 : vr A 5 0 = vr A2 5 0 := by unfold vr rf; rw [hA2.2]
        rw [e4, e5]
        refine r_pc 123 rfl ?_
        refine e_if_ne 235 dL_law_123 (by decide) ⟨by omega, by omega⟩ (fun h123 => ?_) (fun h123 => by exfalso; omega)
        refine r_pc 235 rfl ?_
        refine r_lv [(0, .ref (sb κ)), (1, vr A2 4 0), (2, vr A2 5 0), (3, .int (iI sh)), (4, .int (iI t)), (6, .int (iI (SZS σ)))] rfl ?_
        exact J235 A2 σ2 L2 Sc2 (CX.mono hc2 (by omega)) hO2 hle2 hsd2 g hh
  have four : ∀ (m : Nat) (k : Int) (A : Nat → Int → Nat) (σ : ST) (L Sc : Int → List Int), 0 ≤ k → k + (m : Int) = 4 → CO σ L Sc 0 → OWN σ σ → k ≤ σ 99 3 0 → ∀ g, HR κ A g σ → Wp κ ML_law 11 (1800 + 8 * m) (18000 + 90 * m) 18 [(0, .ref (sb κ)), (1, vr A 4 0), (2, vr A 5 0), (3, .int (iI k))] [] g (fun w _ => w = some (.int (iI 1))) := by
    intro m
    induction m with
    | zero =>
      intro k A σ L Sc hk0 hkm hc hO hN g hh
      have hs2 := hc.ws.2.1
      refine r_iload_n dL_law_18 rfl rfl ?_
      refine e_iconst dL_law_19 ?_
      refine e_ic_ge 52 dL_law_20 (by decide) ⟨by omega, by omega⟩ ⟨by omega, by omega⟩ (fun h20 => ?_) (fun h20 => by exfalso; omega)
      refine r_pc 52 rfl ?_
      refine e_iconst dL_law_52 ?_
      refine r_istore_n dL_law_53 rfl (by decide) ?_
      refine r_stw (by repeat' first | exact True.intro | refine And.intro (fun h => by first | rfl | exact cat_rf _ | exact absurd h (by decide)) ?_) ?_
      refine e_iconst dL_law_54 ?_
      refine r_istore dL_law_55 (by decide) ?_
      refine r_lv [(0, .ref (sb κ)), (1, vr A 4 0), (2, vr A 5 0), (3, .int (iI 0)), (4, .int (iI 0))] rfl ?_
      exact main 60 0 0 A σ L Sc (by omega) (by omega) hc hO (by omega) (by omega) (by omega) g hh
    | succ m ih =>
      intro k A σ L Sc hk0 hkm hc hO hN g hh
      have hN24 := hc.wt.2.1
      obtain ⟨kn, rfl⟩ := Int.eq_ofNat_of_zero_le hk0
      obtain ⟨cv, hcv⟩ := s_cell (κ := κ) (A := A) (σ := σ) (k := (kn : Int)) (by omega) hsl
      refine r_iload_n dL_law_18 rfl rfl ?_
      refine e_iconst dL_law_19 ?_
      refine e_ic_ge 52 dL_law_20 (by decide) ⟨by omega, by omega⟩ ⟨by omega, by omega⟩ (fun h20 => by exfalso; omega) (fun h20 => ?_)
      refine r_pc 23 rfl ?_
      refine r_aload_nO dL_law_23 rfl rfl ?_
      refine r_aload_nO dL_law_24 rfl rfl ?_
      refine r_aload_n dL_law_25 rfl rfl ?_
      refine r_iload_n dL_law_26 rfl rfl ?_
      refine e_callSP (z := ML_cell) dL_law_27 ml_L_15 cz_L_cell mk_L_cell hcv rfl rfl (by simp [cat_rf, cat_i, cat_l, cat_r, cat_n]) (by decide) (by assumption) (fun g hh => ?_)
      refine r_pc 30 rfl ?_
      refine r_iload_n dL_law_30 rfl rfl ?_
      refine e_iconst dL_law_31 ?_
      first | refine e_iadd dL_law_32 ?_ | refine r_iadd dL_law_32 ?_
      refine e_iv (show (kn : Int) + 1 = ((kn + 1 : Nat) : Int) by omega) ?_
      refine e_callSP (z := ML_below) dL_law_33 ml_L_21 cz_L_below mk_L_below (s_below (v := cv) (n := (kn + 1)) (by omega) (by omega)) rfl rfl (by simp [cat_rf, cat_i, cat_l, cat_r, cat_n]) (by decide) (by assumption) (fun g hh => ?_)
      refine r_pc 36 rfl ?_
      have hp := blw_r cv (n := (kn + 1)) (by omega)
      generalize blw cv (kn + 1) = p at *
      refine e_iconst dL_law_36 ?_
      first | refine e_isub dL_law_37 ?_ | refine r_isub dL_law_37 ?_
      refine e_callV (z := MX5_isMade) (kc' := (1800+8*m)) (ks' := (18000+90*m)) dL_law_38 ml_L_25 cz_X5_isMade mk_X5_isMade ms_X5_isMade cb5 (by decide) (by rfl) (by rfl) (by simp [cat_rf, cat_i, cat_l, cat_r, cat_n]) (by decide) (by assumption) (lv1 _ 5 (fun _ => rfl)) (s_isMade (q := p - 1) hc hO (by omega) hh) (by omega) (by omega) (fun w g hq => ?_)
      obtain ⟨A2, σ2, L2, Sc2, hh, rfl, hA2, hc2, hO2, hle2, hsd2, hN2, hN1⟩ := hq
      have e4 : vr A 4 0 = vr A2 4 0 := by unfold vr rf; rw [hA2.1]
      have e5 : vr A 5 0 = vr A2 5 0 := by unfold vr rf; rw [hA2.2]
      rw [e4, e5]
      refine r_pc 41 rfl ?_
      refine e_if_ne 46 dL_law_41 (by decide) ⟨by omega, by omega⟩ (fun h41 => ?_) (fun h41 => by exfalso; omega)
      refine r_pc 46 rfl ?_
      refine e_iinc dL_law_46 rfl (by decide) ?_
      refine r_stw (by repeat' first | exact True.intro | refine And.intro (fun h => by first | rfl | exact cat_rf _ | exact absurd h (by decide)) ?_) ?_
      refine r_goto 18 dL_law_49 (by decide) ?_
      refine r_lv [(0, .ref (sb κ)), (1, vr A2 4 0), (2, vr A2 5 0), (3, .int (iI ((kn : Int) + 1)))] rfl ?_
      exact ih ((kn : Int) + 1) A2 σ2 L2 Sc2 (by omega) (by omega) hc2 hO2 (by by_cases z : σ 99 3 0 < 24; have := hN1 z; omega; omega) g hh
  refine e_iconst dL_law_16 ?_
  refine r_istore_n dL_law_17 rfl (by decide) ?_
  refine r_stw (by repeat' first | exact True.intro | refine And.intro (fun h => by first | rfl | exact cat_rf _ | exact absurd h (by decide)) ?_) ?_
  refine r_lv [(0, .ref (sb κ)), (1, vr A 4 0), (2, vr A 5 0), (3, .int (iI 0))] rfl ?_
  exact four 4 0 A σ L Sc (by omega) (by omega) hc hO hN g hh
