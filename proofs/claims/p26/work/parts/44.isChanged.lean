theorem fx_b {x y : Int} (hx : x = 0 ∨ x = 1) (hy : y = 0 ∨ y = 1) : x = bI (isFx (1 + 4 * x + 8 * y)) ∧ ¬ isPr (1 + 4 * x + 8 * y) := by
  refine ⟨?_, by unfold isPr; omega⟩
  rcases hx with rfl | rfl
  · exact (bI_f (by unfold isFx; omega)).symm
  · exact (bI_t (by unfold isFx; omega)).symm
theorem pr_b {y : Int} (hy : y = 0 ∨ y = 1) : isPr (3 + 8 * y) := by unfold isPr; omega
theorem canD_ve {τ σ : ST} (h : VE τ σ) (k n : Int) : canD σ k n ↔ canD τ k n := by
  unfold canD
  rw [h.at15, h.2.1 k 3 (by decide) (by decide)]
theorem val_ve {τ σ : ST} (h : VE τ σ) {v : Int} (hv : VAL τ v) : VAL σ v := by
  unfold VAL at *
  rw [h.2.2]
  exact hv
theorem lv_ve {τ σ : ST} (h : VE τ σ) {k : Int} (hk : Lv τ 3 k) : Lv σ 3 k := ⟨hk.1, by have := hk.2; show k < σ 99 3 0; rw [h.2.2]; exact this⟩
theorem e_callSNG {κ : KK} {y : MY} {d kc ks pc : Nat} {lv : List (Nat × Value)} {st : List Value} {g : GG} {Q : Option Value → GG → Prop} {A : Nat → Int → Nat} {σ : ST} {z : MY} {host : String} {n idx d' : Nat} {As rest : List Value} {v : Value} (hd : decode y.2.1 pc = .ok (.invokestatic idx, 3)) (hl : (y.1.cls, idx, z.1, host) ∈ nlM) (hz : CZ z n) (hi : Cond.static z.1 ∈ AL)
    (hS : PG κ A z d' σ As v) (hn : As.length = n) (hst : st = As.reverse ++ rest) (hrs : (rest.map fun v => v.category).sum ≤ 8) (hdd : d' + 1 ≤ d) (hh : HR κ A g σ)
    (kk : Wp κ y d kc ks (pc + 3) lv (v :: rest) g Q) : Wp κ y d kc ks pc lv st g Q :=
  r_callSN hd hl hz hi (hS g hh) hn hst hrs hdd (Nat.le_of_eq (Nat.zero_add kc)) (Nat.le_of_eq (Nat.zero_add ks)) (fun w g' h => by obtain ⟨rfl, rfl⟩ := h; exact kk)
theorem szs_u33 {σ : ST} {k : Int} : SZS (up σ 3 k 3 1) = SZS σ := by
  unfold SZS
  exact sumI_congr _ fun j _ => up_ne (by omega)
theorem s_isChanged {κ : KK} {A : Nat → Int → Nat} {σ : ST} {g : GG} {L Sc : Int → List Int} {T : Int} {x : Int32} (hc : CO σ L Sc T) (hO : OWN σ σ) (hN1 : 1 ≤ σ 99 3 0) (hh : HR κ A g σ) : Spec κ MX5_isChanged 10 20 200 [vr A 5 0, vr A 4 0, .int x, .int (iI 16)] g (LQ κ A σ T) := by
  have hT := hc.wt
  have hL := hc.wl
  have hS := hc.ws
  have hP := hc.wp
  have hF' := hc.wf
  have hV := hc.wv
  obtain ⟨N, hNn⟩ : ∃ N : Nat, (N : Int) = σ 99 3 0 := ⟨(σ 99 3 0).toNat, by omega⟩
  have hNp : 0 < N := by omega
  have hN24 := hT.2.1
  have h5 : σ 5 0 4 = (N : Int) := hO.1.trans hNn.symm
  have P168 : ∀ k n v fx hd : Int, Lv σ 3 k → (0 ≤ n ∧ n < 12) → VAL σ v → (fx = 0 ∨ fx = 1) → (hd = 0 ∨ hd = 1) → ∀ g, HR κ A g σ → Wp κ MX5_isChanged 10 20 200 168 [(0, vr A 5 0), (1, vr A 4 0), (2, .int x), (3, .int (iI 16)), (4, .int (iI k)), (5, .int (iI n)), (6, .int (iI v)), (7, .int (iI fx)), (8, .int (iI hd))] [] g (LQ κ A σ T) := by
    intro k n v fx hd hk hn hv hfx hhd g hh
    have hkd := kd3 hk
    have hvr : -1000 ≤ v ∧ v ≤ 2000 := by unfold VAL at hv; omega
    refine r_aload_nO dX5_isChanged_168 rfl rfl ?_
    refine r_iload dX5_isChanged_169 rfl ?_
    refine r_iload dX5_isChanged_171 rfl ?_
    refine r_iload dX5_isChanged_173 rfl ?_
    refine e_callV (z := MX4_write) (kc' := 19) (ks' := 194) dX5_isChanged_175 ml_X5_72 cz_X4_write mk_X4_write ms_X4_write cb4 (by decide) (by rfl) (by rfl) (by simp [cat_rf, cat_i, cat_l, cat_r, cat_n]) (by decide) (by assumption) (lv1 _ 4 (fun _ => rfl)) (s_write hc hk hn hv hh) (by decide) (by decide) (fun w g hq => ?_)
    obtain ⟨A', σ', L', Sc', hh, rfl, hA, hco, hag, hle⟩ := hq
    have hO' : OWN σ σ' := hO.cf ((cf_wrM σ (lo L k) k 6 n v).tr hag.cf)
    have e5 : vr A 5 0 = vr A' 5 0 := vr_eq hA (by decide) 0
    rw [e5]
    refine r_pc 178 rfl ?_
    refine r_aload_nO dX5_isChanged_178 rfl rfl ?_
    refine r_iload dX5_isChanged_179 rfl ?_
    refine r_iload dX5_isChanged_181 rfl ?_
    refine r_iload dX5_isChanged_183 rfl ?_
    refine e_bipush dX5_isChanged_185 (by decide +kernel) ?_
    refine e_callV (z := MX5_writes) (kc' := 18) (ks' := 187) dX5_isChanged_187 ml_X5_55 cz_X5_writes mk_X5_writes ms_X5_writes cb5 (by decide) (by rfl) (by rfl) (by simp [cat_rf, cat_i, cat_l, cat_r, cat_n]) (by decide) (by assumption) (lv1 _ 5 (fun _ => rfl)) (s_writes (A := A') (σ := σ') hO' hT hL hF' hV hk 6 (by omega) n v hn hvr _ hh) (by decide) (by decide) (fun w g hq => ?_)
    obtain ⟨A2, σ2, hh, rfl, hA2, hO2, hof⟩ := hq
    refine r_pc 190 rfl ?_
    refine r_ic_ne 197 dX5_isChanged_190 (by decide) (fun h190 => by exact absurd rfl h190) (fun h190 => ?_)
    refine r_pc 193 rfl ?_
    refine e_iconst dX5_isChanged_193 ?_
    refine r_goto 198 dX5_isChanged_194 (by decide) ?_
    exact r_zret dX5_isChanged_198 rfl (narrow_01 (by omega)) (lq_end hh ⟨(hA2 4 (by decide)).trans (hA 4 (by decide)), (hA2 5 (by decide)).trans (hA 5 (by decide))⟩ (hco.of hof) hO2 (hag.ve.tr hof.ve) (by rw [hof.2.1]; exact hle) (sd_wrM σ (lo L k) k 6 n v))
  have P199 : ∀ k n v fx hd : Int, Lv σ 3 k → (0 ≤ n ∧ n < 12) → VAL σ v → (fx = 0 ∨ fx = 1) → (hd = 0 ∨ hd = 1) → ∀ g, HR κ A g σ → Wp κ MX5_isChanged 10 20 200 199 [(0, vr A 5 0), (1, vr A 4 0), (2, .int x), (3, .int (iI 16)), (4, .int (iI k)), (5, .int (iI n)), (6, .int (iI v)), (7, .int (iI fx)), (8, .int (iI hd))] [] g (LQ κ A σ T) := by
    intro k n v fx hd hk hn hv hfx hhd g hh
    have hkd := kd3 hk
    have hfb := fx_b hfx hhd
    refine r_aload_nO dX5_isChanged_199 rfl rfl ?_
    refine r_iload dX5_isChanged_200 rfl ?_
    refine r_iload dX5_isChanged_202 rfl ?_
    refine e_callVP (z := MX5_can) dX5_isChanged_204 ml_X5_76 cz_X5_can mk_X5_can ms_X5_can cb5 (by decide) (s_can hO hT hL hF' hV hk hn) rfl rfl (by simp [cat_rf, cat_i, cat_l, cat_r, cat_n]) (by decide) (by assumption) (lv1 _ 5 (fun _ => rfl)) (fun g hh => ?_)
    refine r_pc 207 rfl ?_
    refine r_istore dX5_isChanged_207 (by decide) ?_
    refine e_bipush dX5_isChanged_209 (by decide +kernel) ?_
    refine e_nb (rowF n 1 v fx hd (-1) 0) dX5_isChanged_211 (by assumption) (kc' := 19) (ks' := 193) (by decide) (by decide) (fun g b hN => ?_)
    refine r_dup dX5_isChanged_213 (by first | rfl | exact cat_rf _) ?_
    refine e_iconst dX5_isChanged_214 ?_
    refine r_iload dX5_isChanged_215 rfl ?_
    refine e_ist7 (m := 0) dX5_isChanged_217 hN rfl (by decide) rfl (fun g hN => ?_)
    refine r_dup dX5_isChanged_218 (by first | rfl | exact cat_rf _) ?_
    refine e_iconst dX5_isChanged_219 ?_
    refine e_iconst dX5_isChanged_220 ?_
    refine e_ist7 (m := 1) dX5_isChanged_221 hN rfl (by decide) rfl (fun g hN => ?_)
    refine r_dup dX5_isChanged_222 (by first | rfl | exact cat_rf _) ?_
    refine e_iconst dX5_isChanged_223 ?_
    refine r_iload dX5_isChanged_224 rfl ?_
    refine e_ist7 (m := 2) dX5_isChanged_226 hN rfl (by decide) rfl (fun g hN => ?_)
    refine r_dup dX5_isChanged_227 (by first | rfl | exact cat_rf _) ?_
    refine e_iconst dX5_isChanged_228 ?_
    refine r_iload dX5_isChanged_229 rfl ?_
    refine e_if_eq 238 dX5_isChanged_231 (by decide) ⟨by omega, by omega⟩ (fun h231 => ?_) (fun h231 => ?_)
    · refine r_pc 238 rfl ?_
      refine e_iconst dX5_isChanged_238 ?_
      refine e_iv (show (0 : Int) = fx by omega) ?_
      refine e_ist7 (m := 3) dX5_isChanged_239 hN rfl (by decide) rfl (fun g hN => ?_)
      refine r_dup dX5_isChanged_240 (by first | rfl | exact cat_rf _) ?_
      refine e_iconst dX5_isChanged_241 ?_
      refine r_iload dX5_isChanged_242 rfl ?_
      refine e_if_eq 251 dX5_isChanged_244 (by decide) ⟨by omega, by omega⟩ (fun h244 => ?_) (fun h244 => ?_)
      · refine r_pc 251 rfl ?_
        refine e_iconst dX5_isChanged_251 ?_
        refine e_iv (show (0 : Int) = hd by omega) ?_
        refine e_ist7 (m := 4) dX5_isChanged_252 hN rfl (by decide) rfl (fun g hN => ?_)
        refine r_dup dX5_isChanged_253 (by first | rfl | exact cat_rf _) ?_
        refine e_iconst dX5_isChanged_254 ?_
        refine e_iconst dX5_isChanged_255 ?_
        refine e_ist7 (m := 5) dX5_isChanged_256 hN rfl (by decide) rfl (fun g hN => ?_)
        refine r_dup dX5_isChanged_257 (by first | rfl | exact cat_rf _) ?_
        refine e_bipush dX5_isChanged_258 (by decide +kernel) ?_
        refine e_iconst dX5_isChanged_260 ?_
        refine e_ist7 (m := 6) dX5_isChanged_261 hN rfl (by decide) rfl (fun g hN => ?_)
        have hh := nb_end hN hO.2.2.2.2.2 (rowF_7 _ _ _ _ _ _ _)
        obtain ⟨A', hA'⟩ : ∃ A', A' = gA A 25 (σ 99 25 0) b := ⟨_, rfl⟩
        have er : Value.ref b = vr A' 25 (σ 99 25 0) := by rw [vr_some hO.2.2.2.2.2, hA', gA_at]
        have e5 : vr A 5 0 = vr A' 5 0 := by rw [hA']; rfl
        have e4 : vr A 4 0 = vr A' 4 0 := by rw [hA']; rfl
        replace hh : HR κ A' g (gS σ 25 (rowF n 1 v fx hd (-1) 0)) := by rw [hA']; exact hh
        have hAe : ∀ t, t ≠ 25 → A' t = A t := fun t ht => by rw [hA']; funext r; exact gA_ne (fun y => ht y.1)
        obtain ⟨hO1, hρ1, hfr1⟩ := own_grow (f := rowF n 1 v fx hd (-1) 0) hO
        rw [er, e5, e4]
        refine r_astoreO dX5_isChanged_262 (by decide) ?_
        refine r_iload dX5_isChanged_264 rfl ?_
        refine e_ifeq_b 277 dX5_isChanged_266 (by decide) (fun h266 => ?_) (fun h266 => ?_)
        · refine r_pc 277 rfl ?_
          have hcan := h266
          obtain ⟨σ2, hs2⟩ : ∃ σ2, σ2 = gS σ 25 (rowF n 1 v fx hd (-1) 0) := ⟨_, rfl⟩
          have hof : OF σ σ2 := by rw [hs2]; exact gS_of σ _
          have hO2 : OWN σ σ2 := by rw [hs2]; exact hO1
          have hAt := hAe
          rw [← hs2] at hh
          have hve := hof.ve
          have hc2 := hc.of hof
          refine r_aload_nO dX5_isChanged_277 rfl rfl ?_
          refine r_iload dX5_isChanged_278 rfl ?_
          refine r_iload dX5_isChanged_280 rfl ?_
          refine r_iload dX5_isChanged_282 rfl ?_
          refine r_iload dX5_isChanged_284 rfl ?_
          refine r_iload dX5_isChanged_286 rfl ?_
          refine e_callV (z := MX4_define) (kc' := 18) (ks' := 187) dX5_isChanged_288 ml_X5_79 cz_X4_define mk_X4_define ms_X4_define cb4 (by decide) (by rfl) (by rfl) (by simp [cat_rf, cat_i, cat_l, cat_r, cat_n]) (by decide) (by assumption) (lv1 _ 4 (fun _ => rfl)) (s_define (σ := σ2) (A := A') hc2 (lv_ve hve hk) hn (val_ve hve hv) hfx hhd hh) (by decide) (by decide) (fun w g hq => ?_)
          obtain ⟨A3, σ3, L3, Sc3, hh, rfl, hA3, hco, hag, hle⟩ := hq
          refine e_iv (bI_eq (canD_ve hve k n)) ?_
          refine r_pc 291 rfl ?_
          refine r_iload dX5_isChanged_291 rfl ?_
          refine r_ic_ne 300 dX5_isChanged_293 (by decide) (fun h293 => by exact absurd rfl h293) (fun h293 => ?_)
          refine r_pc 296 rfl ?_
          have hag2 : AgV (σ2) σ3 := by
            have := hag
            rw [cI_f] at this
            · exact this
            · rw [canD_ve hve]
              exact hcan
          refine e_iconst dX5_isChanged_296 ?_
          refine r_goto 301 dX5_isChanged_297 (by decide) ?_
          exact r_zret dX5_isChanged_301 rfl (narrow_01 (by omega)) (lq_end hh ⟨(hA3 4 (by decide)).trans (hAt 4 (by decide)), (hA3 5 (by decide)).trans (hAt 5 (by decide))⟩ hco (hO2.cf hag2.cf) (hve.tr hag2.ve) (by rw [← hof.2.1]; exact hle) (SD.rf' σ))
        · refine r_pc 269 rfl ?_
          have hcan := h266
          refine r_aload_nO dX5_isChanged_269 rfl rfl ?_
          refine r_iload dX5_isChanged_270 rfl ?_
          refine r_aloadO dX5_isChanged_272 rfl ?_
          refine e_callV (z := MX5_put) (kc' := 19) (ks' := 193) dX5_isChanged_274 ml_X5_59 cz_X5_put mk_X5_put ms_X5_put cb5 (by decide) (by rfl) (by rfl) (by simp [cat_rf, cat_i, cat_l, cat_r, cat_n]) (by decide) (by assumption) (lv1 _ 5 (fun _ => rfl)) (s_put (σ := gS σ 25 (rowF n 1 v fx hd (-1) 0)) (A := A') (t := 1 + 4 * fx + 8 * hd) (a := v) (b := -1) (c := -1) (d := 0) hO1 hT hL hF' hV hk hn hρ1 hfr1 (rw_pl hfb.1 hfb.2) hh) (by decide) (by decide) (fun w g hq => ?_)
          obtain ⟨A2, σ2, hh, rfl, hA2, hO2, hof2, -, -, -⟩ := hq
          have hof := (gS_of σ (rowF n 1 v fx hd (-1) 0)).tr hof2
          have hAt : ∀ t, t ≠ 25 → A2 t = A t := fun t ht => (hA2 t ht).trans (hAe t ht)
          have e42 : vr A' 4 0 = vr A2 4 0 := by unfold vr rf; rw [hA2 4 (by decide)]
          rw [e42]
          refine r_pc 277 rfl ?_
          have hve := hof.ve
          have hc2 := hc.of hof
          refine r_aload_nO dX5_isChanged_277 rfl rfl ?_
          refine r_iload dX5_isChanged_278 rfl ?_
          refine r_iload dX5_isChanged_280 rfl ?_
          refine r_iload dX5_isChanged_282 rfl ?_
          refine r_iload dX5_isChanged_284 rfl ?_
          refine r_iload dX5_isChanged_286 rfl ?_
          refine e_callV (z := MX4_define) (kc' := 18) (ks' := 187) dX5_isChanged_288 ml_X5_79 cz_X4_define mk_X4_define ms_X4_define cb4 (by decide) (by rfl) (by rfl) (by simp [cat_rf, cat_i, cat_l, cat_r, cat_n]) (by decide) (by assumption) (lv1 _ 4 (fun _ => rfl)) (s_define (σ := σ2) (A := A2) hc2 (lv_ve hve hk) hn (val_ve hve hv) hfx hhd hh) (by decide) (by decide) (fun w g hq => ?_)
          obtain ⟨A3, σ3, L3, Sc3, hh, rfl, hA3, hco, hag, hle⟩ := hq
          refine e_iv (bI_eq (canD_ve hve k n)) ?_
          refine r_pc 291 rfl ?_
          refine r_iload dX5_isChanged_291 rfl ?_
          refine r_ic_ne 300 dX5_isChanged_293 (by decide) (fun h293 => by exact absurd rfl h293) (fun h293 => ?_)
          refine r_pc 296 rfl ?_
          have hag2 : AgV (putM σ2 k n (1 + 4 * fx + 8 * hd) v (-1) (-1) 0) σ3 := by
            have := hag
            rw [cI_t] at this
            · exact this
            · rw [canD_ve hve]
              exact hcan
          refine e_iconst dX5_isChanged_296 ?_
          refine r_goto 301 dX5_isChanged_297 (by decide) ?_
          exact r_zret dX5_isChanged_301 rfl (narrow_01 (by omega)) (lq_end hh ⟨(hA3 4 (by decide)).trans (hAt 4 (by decide)), (hA3 5 (by decide)).trans (hAt 5 (by decide))⟩ hco (hO2.cf ((cf_putM σ2 _ _ _ _ _ _ _).tr hag2.cf)) ((hve.putM _ _ _ _ _ _ _).tr hag2.ve) (by rw [← hof.2.1]; exact hle) (sd_putM σ _ _ _ _ _ _ _))
      · refine r_pc 247 rfl ?_
        refine e_iconst dX5_isChanged_247 ?_
        refine r_goto 252 dX5_isChanged_248 (by decide) ?_
        refine e_iv (show (1 : Int) = hd by omega) ?_
        refine e_ist7 (m := 4) dX5_isChanged_252 hN rfl (by decide) rfl (fun g hN => ?_)
        refine r_dup dX5_isChanged_253 (by first | rfl | exact cat_rf _) ?_
        refine e_iconst dX5_isChanged_254 ?_
        refine e_iconst dX5_isChanged_255 ?_
        refine e_ist7 (m := 5) dX5_isChanged_256 hN rfl (by decide) rfl (fun g hN => ?_)
        refine r_dup dX5_isChanged_257 (by first | rfl | exact cat_rf _) ?_
        refine e_bipush dX5_isChanged_258 (by decide +kernel) ?_
        refine e_iconst dX5_isChanged_260 ?_
        refine e_ist7 (m := 6) dX5_isChanged_261 hN rfl (by decide) rfl (fun g hN => ?_)
        have hh := nb_end hN hO.2.2.2.2.2 (rowF_7 _ _ _ _ _ _ _)
        obtain ⟨A', hA'⟩ : ∃ A', A' = gA A 25 (σ 99 25 0) b := ⟨_, rfl⟩
        have er : Value.ref b = vr A' 25 (σ 99 25 0) := by rw [vr_some hO.2.2.2.2.2, hA', gA_at]
        have e5 : vr A 5 0 = vr A' 5 0 := by rw [hA']; rfl
        have e4 : vr A 4 0 = vr A' 4 0 := by rw [hA']; rfl
        replace hh : HR κ A' g (gS σ 25 (rowF n 1 v fx hd (-1) 0)) := by rw [hA']; exact hh
        have hAe : ∀ t, t ≠ 25 → A' t = A t := fun t ht => by rw [hA']; funext r; exact gA_ne (fun y => ht y.1)
        obtain ⟨hO1, hρ1, hfr1⟩ := own_grow (f := rowF n 1 v fx hd (-1) 0) hO
        rw [er, e5, e4]
        refine r_astoreO dX5_isChanged_262 (by decide) ?_
        refine r_iload dX5_isChanged_264 rfl ?_
        refine e_ifeq_b 277 dX5_isChanged_266 (by decide) (fun h266 => ?_) (fun h266 => ?_)
        · refine r_pc 277 rfl ?_
          have hcan := h266
          obtain ⟨σ2, hs2⟩ : ∃ σ2, σ2 = gS σ 25 (rowF n 1 v fx hd (-1) 0) := ⟨_, rfl⟩
          have hof : OF σ σ2 := by rw [hs2]; exact gS_of σ _
          have hO2 : OWN σ σ2 := by rw [hs2]; exact hO1
          have hAt := hAe
          rw [← hs2] at hh
          have hve := hof.ve
          have hc2 := hc.of hof
          refine r_aload_nO dX5_isChanged_277 rfl rfl ?_
          refine r_iload dX5_isChanged_278 rfl ?_
          refine r_iload dX5_isChanged_280 rfl ?_
          refine r_iload dX5_isChanged_282 rfl ?_
          refine r_iload dX5_isChanged_284 rfl ?_
          refine r_iload dX5_isChanged_286 rfl ?_
          refine e_callV (z := MX4_define) (kc' := 18) (ks' := 187) dX5_isChanged_288 ml_X5_79 cz_X4_define mk_X4_define ms_X4_define cb4 (by decide) (by rfl) (by rfl) (by simp [cat_rf, cat_i, cat_l, cat_r, cat_n]) (by decide) (by assumption) (lv1 _ 4 (fun _ => rfl)) (s_define (σ := σ2) (A := A') hc2 (lv_ve hve hk) hn (val_ve hve hv) hfx hhd hh) (by decide) (by decide) (fun w g hq => ?_)
          obtain ⟨A3, σ3, L3, Sc3, hh, rfl, hA3, hco, hag, hle⟩ := hq
          refine e_iv (bI_eq (canD_ve hve k n)) ?_
          refine r_pc 291 rfl ?_
          refine r_iload dX5_isChanged_291 rfl ?_
          refine r_ic_ne 300 dX5_isChanged_293 (by decide) (fun h293 => by exact absurd rfl h293) (fun h293 => ?_)
          refine r_pc 296 rfl ?_
          have hag2 : AgV (σ2) σ3 := by
            have := hag
            rw [cI_f] at this
            · exact this
            · rw [canD_ve hve]
              exact hcan
          refine e_iconst dX5_isChanged_296 ?_
          refine r_goto 301 dX5_isChanged_297 (by decide) ?_
          exact r_zret dX5_isChanged_301 rfl (narrow_01 (by omega)) (lq_end hh ⟨(hA3 4 (by decide)).trans (hAt 4 (by decide)), (hA3 5 (by decide)).trans (hAt 5 (by decide))⟩ hco (hO2.cf hag2.cf) (hve.tr hag2.ve) (by rw [← hof.2.1]; exact hle) (SD.rf' σ))
        · refine r_pc 269 rfl ?_
          have hcan := h266
          refine r_aload_nO dX5_isChanged_269 rfl rfl ?_
          refine r_iload dX5_isChanged_270 rfl ?_
          refine r_aloadO dX5_isChanged_272 rfl ?_
          refine e_callV (z := MX5_put) (kc' := 19) (ks' := 193) dX5_isChanged_274 ml_X5_59 cz_X5_put mk_X5_put ms_X5_put cb5 (by decide) (by rfl) (by rfl) (by simp [cat_rf, cat_i, cat_l, cat_r, cat_n]) (by decide) (by assumption) (lv1 _ 5 (fun _ => rfl)) (s_put (σ := gS σ 25 (rowF n 1 v fx hd (-1) 0)) (A := A') (t := 1 + 4 * fx + 8 * hd) (a := v) (b := -1) (c := -1) (d := 0) hO1 hT hL hF' hV hk hn hρ1 hfr1 (rw_pl hfb.1 hfb.2) hh) (by decide) (by decide) (fun w g hq => ?_)
          obtain ⟨A2, σ2, hh, rfl, hA2, hO2, hof2, -, -, -⟩ := hq
          have hof := (gS_of σ (rowF n 1 v fx hd (-1) 0)).tr hof2
          have hAt : ∀ t, t ≠ 25 → A2 t = A t := fun t ht => (hA2 t ht).trans (hAe t ht)
          have e42 : vr A' 4 0 = vr A2 4 0 := by unfold vr rf; rw [hA2 4 (by decide)]
          rw [e42]
          refine r_pc 277 rfl ?_
          have hve := hof.ve
          have hc2 := hc.of hof
          refine r_aload_nO dX5_isChanged_277 rfl rfl ?_
          refine r_iload dX5_isChanged_278 rfl ?_
          refine r_iload dX5_isChanged_280 rfl ?_
          refine r_iload dX5_isChanged_282 rfl ?_
          refine r_iload dX5_isChanged_284 rfl ?_
          refine r_iload dX5_isChanged_286 rfl ?_
          refine e_callV (z := MX4_define) (kc' := 18) (ks' := 187) dX5_isChanged_288 ml_X5_79 cz_X4_define mk_X4_define ms_X4_define cb4 (by decide) (by rfl) (by rfl) (by simp [cat_rf, cat_i, cat_l, cat_r, cat_n]) (by decide) (by assumption) (lv1 _ 4 (fun _ => rfl)) (s_define (σ := σ2) (A := A2) hc2 (lv_ve hve hk) hn (val_ve hve hv) hfx hhd hh) (by decide) (by decide) (fun w g hq => ?_)
          obtain ⟨A3, σ3, L3, Sc3, hh, rfl, hA3, hco, hag, hle⟩ := hq
          refine e_iv (bI_eq (canD_ve hve k n)) ?_
          refine r_pc 291 rfl ?_
          refine r_iload dX5_isChanged_291 rfl ?_
          refine r_ic_ne 300 dX5_isChanged_293 (by decide) (fun h293 => by exact absurd rfl h293) (fun h293 => ?_)
          refine r_pc 296 rfl ?_
          have hag2 : AgV (putM σ2 k n (1 + 4 * fx + 8 * hd) v (-1) (-1) 0) σ3 := by
            have := hag
            rw [cI_t] at this
            · exact this
            · rw [canD_ve hve]
              exact hcan
          refine e_iconst dX5_isChanged_296 ?_
          refine r_goto 301 dX5_isChanged_297 (by decide) ?_
          exact r_zret dX5_isChanged_301 rfl (narrow_01 (by omega)) (lq_end hh ⟨(hA3 4 (by decide)).trans (hAt 4 (by decide)), (hA3 5 (by decide)).trans (hAt 5 (by decide))⟩ hco (hO2.cf ((cf_putM σ2 _ _ _ _ _ _ _).tr hag2.cf)) ((hve.putM _ _ _ _ _ _ _).tr hag2.ve) (by rw [← hof.2.1]; exact hle) (sd_putM σ _ _ _ _ _ _ _))
    · refine r_pc 234 rfl ?_
      refine e_iconst dX5_isChanged_234 ?_
      refine r_goto 239 dX5_isChanged_235 (by decide) ?_
      refine e_iv (show (1 : Int) = fx by omega) ?_
      refine e_ist7 (m := 3) dX5_isChanged_239 hN rfl (by decide) rfl (fun g hN => ?_)
      refine r_dup dX5_isChanged_240 (by first | rfl | exact cat_rf _) ?_
      refine e_iconst dX5_isChanged_241 ?_
      refine r_iload dX5_isChanged_242 rfl ?_
      refine e_if_eq 251 dX5_isChanged_244 (by decide) ⟨by omega, by omega⟩ (fun h244 => ?_) (fun h244 => ?_)
      · refine r_pc 251 rfl ?_
        refine e_iconst dX5_isChanged_251 ?_
        refine e_iv (show (0 : Int) = hd by omega) ?_
        refine e_ist7 (m := 4) dX5_isChanged_252 hN rfl (by decide) rfl (fun g hN => ?_)
        refine r_dup dX5_isChanged_253 (by first | rfl | exact cat_rf _) ?_
        refine e_iconst dX5_isChanged_254 ?_
        refine e_iconst dX5_isChanged_255 ?_
        refine e_ist7 (m := 5) dX5_isChanged_256 hN rfl (by decide) rfl (fun g hN => ?_)
        refine r_dup dX5_isChanged_257 (by first | rfl | exact cat_rf _) ?_
        refine e_bipush dX5_isChanged_258 (by decide +kernel) ?_
        refine e_iconst dX5_isChanged_260 ?_
        refine e_ist7 (m := 6) dX5_isChanged_261 hN rfl (by decide) rfl (fun g hN => ?_)
        have hh := nb_end hN hO.2.2.2.2.2 (rowF_7 _ _ _ _ _ _ _)
        obtain ⟨A', hA'⟩ : ∃ A', A' = gA A 25 (σ 99 25 0) b := ⟨_, rfl⟩
        have er : Value.ref b = vr A' 25 (σ 99 25 0) := by rw [vr_some hO.2.2.2.2.2, hA', gA_at]
        have e5 : vr A 5 0 = vr A' 5 0 := by rw [hA']; rfl
        have e4 : vr A 4 0 = vr A' 4 0 := by rw [hA']; rfl
        replace hh : HR κ A' g (gS σ 25 (rowF n 1 v fx hd (-1) 0)) := by rw [hA']; exact hh
        have hAe : ∀ t, t ≠ 25 → A' t = A t := fun t ht => by rw [hA']; funext r; exact gA_ne (fun y => ht y.1)
        obtain ⟨hO1, hρ1, hfr1⟩ := own_grow (f := rowF n 1 v fx hd (-1) 0) hO
        rw [er, e5, e4]
        refine r_astoreO dX5_isChanged_262 (by decide) ?_
        refine r_iload dX5_isChanged_264 rfl ?_
        refine e_ifeq_b 277 dX5_isChanged_266 (by decide) (fun h266 => ?_) (fun h266 => ?_)
        · refine r_pc 277 rfl ?_
          have hcan := h266
          obtain ⟨σ2, hs2⟩ : ∃ σ2, σ2 = gS σ 25 (rowF n 1 v fx hd (-1) 0) := ⟨_, rfl⟩
          have hof : OF σ σ2 := by rw [hs2]; exact gS_of σ _
          have hO2 : OWN σ σ2 := by rw [hs2]; exact hO1
          have hAt := hAe
          rw [← hs2] at hh
          have hve := hof.ve
          have hc2 := hc.of hof
          refine r_aload_nO dX5_isChanged_277 rfl rfl ?_
          refine r_iload dX5_isChanged_278 rfl ?_
          refine r_iload dX5_isChanged_280 rfl ?_
          refine r_iload dX5_isChanged_282 rfl ?_
          refine r_iload dX5_isChanged_284 rfl ?_
          refine r_iload dX5_isChanged_286 rfl ?_
          refine e_callV (z := MX4_define) (kc' := 18) (ks' := 187) dX5_isChanged_288 ml_X5_79 cz_X4_define mk_X4_define ms_X4_define cb4 (by decide) (by rfl) (by rfl) (by simp [cat_rf, cat_i, cat_l, cat_r, cat_n]) (by decide) (by assumption) (lv1 _ 4 (fun _ => rfl)) (s_define (σ := σ2) (A := A') hc2 (lv_ve hve hk) hn (val_ve hve hv) hfx hhd hh) (by decide) (by decide) (fun w g hq => ?_)
          obtain ⟨A3, σ3, L3, Sc3, hh, rfl, hA3, hco, hag, hle⟩ := hq
          refine e_iv (bI_eq (canD_ve hve k n)) ?_
          refine r_pc 291 rfl ?_
          refine r_iload dX5_isChanged_291 rfl ?_
          refine r_ic_ne 300 dX5_isChanged_293 (by decide) (fun h293 => by exact absurd rfl h293) (fun h293 => ?_)
          refine r_pc 296 rfl ?_
          have hag2 : AgV (σ2) σ3 := by
            have := hag
            rw [cI_f] at this
            · exact this
            · rw [canD_ve hve]
              exact hcan
          refine e_iconst dX5_isChanged_296 ?_
          refine r_goto 301 dX5_isChanged_297 (by decide) ?_
          exact r_zret dX5_isChanged_301 rfl (narrow_01 (by omega)) (lq_end hh ⟨(hA3 4 (by decide)).trans (hAt 4 (by decide)), (hA3 5 (by decide)).trans (hAt 5 (by decide))⟩ hco (hO2.cf hag2.cf) (hve.tr hag2.ve) (by rw [← hof.2.1]; exact hle) (SD.rf' σ))
        · refine r_pc 269 rfl ?_
          have hcan := h266
          refine r_aload_nO dX5_isChanged_269 rfl rfl ?_
          refine r_iload dX5_isChanged_270 rfl ?_
          refine r_aloadO dX5_isChanged_272 rfl ?_
          refine e_callV (z := MX5_put) (kc' := 19) (ks' := 193) dX5_isChanged_274 ml_X5_59 cz_X5_put mk_X5_put ms_X5_put cb5 (by decide) (by rfl) (by rfl) (by simp [cat_rf, cat_i, cat_l, cat_r, cat_n]) (by decide) (by assumption) (lv1 _ 5 (fun _ => rfl)) (s_put (σ := gS σ 25 (rowF n 1 v fx hd (-1) 0)) (A := A') (t := 1 + 4 * fx + 8 * hd) (a := v) (b := -1) (c := -1) (d := 0) hO1 hT hL hF' hV hk hn hρ1 hfr1 (rw_pl hfb.1 hfb.2) hh) (by decide) (by decide) (fun w g hq => ?_)
          obtain ⟨A2, σ2, hh, rfl, hA2, hO2, hof2, -, -, -⟩ := hq
          have hof := (gS_of σ (rowF n 1 v fx hd (-1) 0)).tr hof2
          have hAt : ∀ t, t ≠ 25 → A2 t = A t := fun t ht => (hA2 t ht).trans (hAe t ht)
          have e42 : vr A' 4 0 = vr A2 4 0 := by unfold vr rf; rw [hA2 4 (by decide)]
          rw [e42]
          refine r_pc 277 rfl ?_
          have hve := hof.ve
          have hc2 := hc.of hof
          refine r_aload_nO dX5_isChanged_277 rfl rfl ?_
          refine r_iload dX5_isChanged_278 rfl ?_
          refine r_iload dX5_isChanged_280 rfl ?_
          refine r_iload dX5_isChanged_282 rfl ?_
          refine r_iload dX5_isChanged_284 rfl ?_
          refine r_iload dX5_isChanged_286 rfl ?_
          refine e_callV (z := MX4_define) (kc' := 18) (ks' := 187) dX5_isChanged_288 ml_X5_79 cz_X4_define mk_X4_define ms_X4_define cb4 (by decide) (by rfl) (by rfl) (by simp [cat_rf, cat_i, cat_l, cat_r, cat_n]) (by decide) (by assumption) (lv1 _ 4 (fun _ => rfl)) (s_define (σ := σ2) (A := A2) hc2 (lv_ve hve hk) hn (val_ve hve hv) hfx hhd hh) (by decide) (by decide) (fun w g hq => ?_)
          obtain ⟨A3, σ3, L3, Sc3, hh, rfl, hA3, hco, hag, hle⟩ := hq
          refine e_iv (bI_eq (canD_ve hve k n)) ?_
          refine r_pc 291 rfl ?_
          refine r_iload dX5_isChanged_291 rfl ?_
          refine r_ic_ne 300 dX5_isChanged_293 (by decide) (fun h293 => by exact absurd rfl h293) (fun h293 => ?_)
          refine r_pc 296 rfl ?_
          have hag2 : AgV (putM σ2 k n (1 + 4 * fx + 8 * hd) v (-1) (-1) 0) σ3 := by
            have := hag
            rw [cI_t] at this
            · exact this
            · rw [canD_ve hve]
              exact hcan
          refine e_iconst dX5_isChanged_296 ?_
          refine r_goto 301 dX5_isChanged_297 (by decide) ?_
          exact r_zret dX5_isChanged_301 rfl (narrow_01 (by omega)) (lq_end hh ⟨(hA3 4 (by decide)).trans (hAt 4 (by decide)), (hA3 5 (by decide)).trans (hAt 5 (by decide))⟩ hco (hO2.cf ((cf_putM σ2 _ _ _ _ _ _ _).tr hag2.cf)) ((hve.putM _ _ _ _ _ _ _).tr hag2.ve) (by rw [← hof.2.1]; exact hle) (sd_putM σ _ _ _ _ _ _ _))
      · refine r_pc 247 rfl ?_
        refine e_iconst dX5_isChanged_247 ?_
        refine r_goto 252 dX5_isChanged_248 (by decide) ?_
        refine e_iv (show (1 : Int) = hd by omega) ?_
        refine e_ist7 (m := 4) dX5_isChanged_252 hN rfl (by decide) rfl (fun g hN => ?_)
        refine r_dup dX5_isChanged_253 (by first | rfl | exact cat_rf _) ?_
        refine e_iconst dX5_isChanged_254 ?_
        refine e_iconst dX5_isChanged_255 ?_
        refine e_ist7 (m := 5) dX5_isChanged_256 hN rfl (by decide) rfl (fun g hN => ?_)
        refine r_dup dX5_isChanged_257 (by first | rfl | exact cat_rf _) ?_
        refine e_bipush dX5_isChanged_258 (by decide +kernel) ?_
        refine e_iconst dX5_isChanged_260 ?_
        refine e_ist7 (m := 6) dX5_isChanged_261 hN rfl (by decide) rfl (fun g hN => ?_)
        have hh := nb_end hN hO.2.2.2.2.2 (rowF_7 _ _ _ _ _ _ _)
        obtain ⟨A', hA'⟩ : ∃ A', A' = gA A 25 (σ 99 25 0) b := ⟨_, rfl⟩
        have er : Value.ref b = vr A' 25 (σ 99 25 0) := by rw [vr_some hO.2.2.2.2.2, hA', gA_at]
        have e5 : vr A 5 0 = vr A' 5 0 := by rw [hA']; rfl
        have e4 : vr A 4 0 = vr A' 4 0 := by rw [hA']; rfl
        replace hh : HR κ A' g (gS σ 25 (rowF n 1 v fx hd (-1) 0)) := by rw [hA']; exact hh
        have hAe : ∀ t, t ≠ 25 → A' t = A t := fun t ht => by rw [hA']; funext r; exact gA_ne (fun y => ht y.1)
        obtain ⟨hO1, hρ1, hfr1⟩ := own_grow (f := rowF n 1 v fx hd (-1) 0) hO
        rw [er, e5, e4]
        refine r_astoreO dX5_isChanged_262 (by decide) ?_
        refine r_iload dX5_isChanged_264 rfl ?_
        refine e_ifeq_b 277 dX5_isChanged_266 (by decide) (fun h266 => ?_) (fun h266 => ?_)
        · refine r_pc 277 rfl ?_
          have hcan := h266
          obtain ⟨σ2, hs2⟩ : ∃ σ2, σ2 = gS σ 25 (rowF n 1 v fx hd (-1) 0) := ⟨_, rfl⟩
          have hof : OF σ σ2 := by rw [hs2]; exact gS_of σ _
          have hO2 : OWN σ σ2 := by rw [hs2]; exact hO1
          have hAt := hAe
          rw [← hs2] at hh
          have hve := hof.ve
          have hc2 := hc.of hof
          refine r_aload_nO dX5_isChanged_277 rfl rfl ?_
          refine r_iload dX5_isChanged_278 rfl ?_
          refine r_iload dX5_isChanged_280 rfl ?_
          refine r_iload dX5_isChanged_282 rfl ?_
          refine r_iload dX5_isChanged_284 rfl ?_
          refine r_iload dX5_isChanged_286 rfl ?_
          refine e_callV (z := MX4_define) (kc' := 18) (ks' := 187) dX5_isChanged_288 ml_X5_79 cz_X4_define mk_X4_define ms_X4_define cb4 (by decide) (by rfl) (by rfl) (by simp [cat_rf, cat_i, cat_l, cat_r, cat_n]) (by decide) (by assumption) (lv1 _ 4 (fun _ => rfl)) (s_define (σ := σ2) (A := A') hc2 (lv_ve hve hk) hn (val_ve hve hv) hfx hhd hh) (by decide) (by decide) (fun w g hq => ?_)
          obtain ⟨A3, σ3, L3, Sc3, hh, rfl, hA3, hco, hag, hle⟩ := hq
          refine e_iv (bI_eq (canD_ve hve k n)) ?_
          refine r_pc 291 rfl ?_
          refine r_iload dX5_isChanged_291 rfl ?_
          refine r_ic_ne 300 dX5_isChanged_293 (by decide) (fun h293 => by exact absurd rfl h293) (fun h293 => ?_)
          refine r_pc 296 rfl ?_
          have hag2 : AgV (σ2) σ3 := by
            have := hag
            rw [cI_f] at this
            · exact this
            · rw [canD_ve hve]
              exact hcan
          refine e_iconst dX5_isChanged_296 ?_
          refine r_goto 301 dX5_isChanged_297 (by decide) ?_
          exact r_zret dX5_isChanged_301 rfl (narrow_01 (by omega)) (lq_end hh ⟨(hA3 4 (by decide)).trans (hAt 4 (by decide)), (hA3 5 (by decide)).trans (hAt 5 (by decide))⟩ hco (hO2.cf hag2.cf) (hve.tr hag2.ve) (by rw [← hof.2.1]; exact hle) (SD.rf' σ))
        · refine r_pc 269 rfl ?_
          have hcan := h266
          refine r_aload_nO dX5_isChanged_269 rfl rfl ?_
          refine r_iload dX5_isChanged_270 rfl ?_
          refine r_aloadO dX5_isChanged_272 rfl ?_
          refine e_callV (z := MX5_put) (kc' := 19) (ks' := 193) dX5_isChanged_274 ml_X5_59 cz_X5_put mk_X5_put ms_X5_put cb5 (by decide) (by rfl) (by rfl) (by simp [cat_rf, cat_i, cat_l, cat_r, cat_n]) (by decide) (by assumption) (lv1 _ 5 (fun _ => rfl)) (s_put (σ := gS σ 25 (rowF n 1 v fx hd (-1) 0)) (A := A') (t := 1 + 4 * fx + 8 * hd) (a := v) (b := -1) (c := -1) (d := 0) hO1 hT hL hF' hV hk hn hρ1 hfr1 (rw_pl hfb.1 hfb.2) hh) (by decide) (by decide) (fun w g hq => ?_)
          obtain ⟨A2, σ2, hh, rfl, hA2, hO2, hof2, -, -, -⟩ := hq
          have hof := (gS_of σ (rowF n 1 v fx hd (-1) 0)).tr hof2
          have hAt : ∀ t, t ≠ 25 → A2 t = A t := fun t ht => (hA2 t ht).trans (hAe t ht)
          have e42 : vr A' 4 0 = vr A2 4 0 := by unfold vr rf; rw [hA2 4 (by decide)]
          rw [e42]
          refine r_pc 277 rfl ?_
          have hve := hof.ve
          have hc2 := hc.of hof
          refine r_aload_nO dX5_isChanged_277 rfl rfl ?_
          refine r_iload dX5_isChanged_278 rfl ?_
          refine r_iload dX5_isChanged_280 rfl ?_
          refine r_iload dX5_isChanged_282 rfl ?_
          refine r_iload dX5_isChanged_284 rfl ?_
          refine r_iload dX5_isChanged_286 rfl ?_
          refine e_callV (z := MX4_define) (kc' := 18) (ks' := 187) dX5_isChanged_288 ml_X5_79 cz_X4_define mk_X4_define ms_X4_define cb4 (by decide) (by rfl) (by rfl) (by simp [cat_rf, cat_i, cat_l, cat_r, cat_n]) (by decide) (by assumption) (lv1 _ 4 (fun _ => rfl)) (s_define (σ := σ2) (A := A2) hc2 (lv_ve hve hk) hn (val_ve hve hv) hfx hhd hh) (by decide) (by decide) (fun w g hq => ?_)
          obtain ⟨A3, σ3, L3, Sc3, hh, rfl, hA3, hco, hag, hle⟩ := hq
          refine e_iv (bI_eq (canD_ve hve k n)) ?_
          refine r_pc 291 rfl ?_
          refine r_iload dX5_isChanged_291 rfl ?_
          refine r_ic_ne 300 dX5_isChanged_293 (by decide) (fun h293 => by exact absurd rfl h293) (fun h293 => ?_)
          refine r_pc 296 rfl ?_
          have hag2 : AgV (putM σ2 k n (1 + 4 * fx + 8 * hd) v (-1) (-1) 0) σ3 := by
            have := hag
            rw [cI_t] at this
            · exact this
            · rw [canD_ve hve]
              exact hcan
          refine e_iconst dX5_isChanged_296 ?_
          refine r_goto 301 dX5_isChanged_297 (by decide) ?_
          exact r_zret dX5_isChanged_301 rfl (narrow_01 (by omega)) (lq_end hh ⟨(hA3 4 (by decide)).trans (hAt 4 (by decide)), (hA3 5 (by decide)).trans (hAt 5 (by decide))⟩ hco (hO2.cf ((cf_putM σ2 _ _ _ _ _ _ _).tr hag2.cf)) ((hve.putM _ _ _ _ _ _ _).tr hag2.ve) (by rw [← hof.2.1]; exact hle) (sd_putM σ _ _ _ _ _ _ _))
  have P302 : ∀ k n v fx hd : Int, Lv σ 3 k → (0 ≤ n ∧ n < 12) → VAL σ v → (fx = 0 ∨ fx = 1) → (hd = 0 ∨ hd = 1) → ∀ g, HR κ A g σ → Wp κ MX5_isChanged 10 20 200 302 [(0, vr A 5 0), (1, vr A 4 0), (2, .int x), (3, .int (iI 16)), (4, .int (iI k)), (5, .int (iI n)), (6, .int (iI v)), (7, .int (iI fx)), (8, .int (iI hd))] [] g (LQ κ A σ T) := by
    intro k n v fx hd hk hn hv hfx hhd g hh
    have hkd := kd3 hk
    obtain ⟨q, hq12⟩ : ∃ q, ¬ σ 15 k n = 0 → (0 ≤ q ∧ q < σ 3 k 5) ∧ σ 14 k q = n := by
      by_cases z : σ 15 k n = 0
      · exact ⟨0, fun y => absurd z y⟩
      · obtain ⟨q, a, b⟩ := ((hF' k hk).2.1 n hn).2 z
        exact ⟨q, fun _ => ⟨a, b⟩⟩
    refine r_aload_nO dX5_isChanged_302 rfl rfl ?_
    refine r_iload dX5_isChanged_303 rfl ?_
    refine r_iload dX5_isChanged_305 rfl ?_
    refine e_callV (z := MX4_remove) (kc' := 20) (ks' := 200) dX5_isChanged_307 ml_X5_83 cz_X4_remove mk_X4_remove ms_X4_remove cb4 (by decide) (by rfl) (by rfl) (by simp [cat_rf, cat_i, cat_l, cat_r, cat_n]) (by decide) (by assumption) (lv1 _ 4 (fun _ => rfl)) (s_remove hc hk hn hq12 hh) (by decide) (by decide) (fun w g hq => ?_)
    obtain ⟨A', σ', L', Sc', hh, rfl, hA, hco, hag, hle⟩ := hq
    have hO' : OWN σ σ' := hO.cf ((cf_cI (cf_tkF σ k q n) (CF.rf' σ)).tr hag.cf)
    have e5 : vr A 5 0 = vr A' 5 0 := vr_eq hA (by decide) 0
    rw [e5]
    refine r_pc 310 rfl ?_
    refine r_aload_nO dX5_isChanged_310 rfl rfl ?_
    refine r_iload dX5_isChanged_311 rfl ?_
    refine r_iload dX5_isChanged_313 rfl ?_
    refine e_callV (z := MX5_removes) (kc' := 20) (ks' := 200) dX5_isChanged_315 ml_X5_86 cz_X5_removes mk_X5_removes ms_X5_removes cb5 (by decide) (by rfl) (by rfl) (by simp [cat_rf, cat_i, cat_l, cat_r, cat_n]) (by decide) (by assumption) (lv1 _ 5 (fun _ => rfl)) (s_removes (A := A') (σ := σ') hO' hT hL hF' hV hk hn hq12 hh) (by decide) (by decide) (fun w g hq => ?_)
    obtain ⟨A2, σ2, hh, rfl, hA2, hO2, hof⟩ := hq
    refine r_pc 318 rfl ?_
    refine r_ic_ne 325 dX5_isChanged_318 (by decide) (fun h318 => by exact absurd rfl h318) (fun h318 => ?_)
    refine r_pc 321 rfl ?_
    refine e_iconst dX5_isChanged_321 ?_
    refine r_goto 326 dX5_isChanged_322 (by decide) ?_
    exact r_zret dX5_isChanged_326 rfl (narrow_01 (by omega)) (lq_end hh ⟨(hA2 4 (by decide)).trans (hA 4 (by decide)), (hA2 5 (by decide)).trans (hA 5 (by decide))⟩ (hco.of hof) hO2 (hag.ve.tr hof.ve) (by rw [hof.2.1]; exact hle) (sd_cI (sd_tkF σ k q n) (SD.rf' σ)))
  have P327 : ∀ k n v fx hd : Int, Lv σ 3 k → (0 ≤ n ∧ n < 12) → VAL σ v → (fx = 0 ∨ fx = 1) → (hd = 0 ∨ hd = 1) → ∀ g, HR κ A g σ → Wp κ MX5_isChanged 10 20 200 327 [(0, vr A 5 0), (1, vr A 4 0), (2, .int x), (3, .int (iI 16)), (4, .int (iI k)), (5, .int (iI n)), (6, .int (iI v)), (7, .int (iI fx)), (8, .int (iI hd))] [] g (LQ κ A σ T) := by
    intro k n v fx hd hk hn hv hfx hhd g hh
    have hkd := kd3 hk
    refine r_iload_n dX5_isChanged_327 rfl rfl ?_
    refine e_bipush dX5_isChanged_328 (by decide +kernel) ?_
    refine r_ishr dX5_isChanged_330 ?_
    refine r_aload_nO dX5_isChanged_331 rfl rfl ?_
    refine e_getI (t := 5) (k := 4) 4 dX5_isChanged_332 cb5 (by decide) mf_X5_25 (by rfl) rfl (by assumption) (lv1 _ 5 (fun _ => rfl)) ?_
    refine e_iv h5 ?_
    refine e_iconst dX5_isChanged_335 ?_
    first | refine e_iadd dX5_isChanged_336 ?_ | refine r_iadd dX5_isChanged_336 ?_
    refine e_iv (show (N : Int) + 1 = ((N + 1 : Nat) : Int) by omega) ?_
    refine e_callSNP (z := ML_below) dX5_isChanged_337 (List.mem_of_getElem? (i := 3) rfl) cz_L_below mk_L_below (s_below (v := (x >>> (iI 10 &&& 31))) (n := (N + 1)) (by omega) (by omega)) rfl rfl (by simp [cat_rf, cat_i, cat_l, cat_r, cat_n]) (by decide) (by assumption) (fun g hh => ?_)
    refine r_pc 340 rfl ?_
    have hp := blw_r (x >>> (iI 10 &&& 31)) (n := (N + 1)) (by omega)
    generalize blw (x >>> (iI 10 &&& 31)) (N + 1) = p at *
    have hpd : -1 ≤ p - 1 ∧ p - 1 < σ 99 3 0 := by omega
    refine e_iconst dX5_isChanged_340 ?_
    first | refine e_isub dX5_isChanged_341 ?_ | refine r_isub dX5_isChanged_341 ?_
    refine r_istore dX5_isChanged_342 (by decide) ?_
    refine r_aload_nO dX5_isChanged_344 rfl rfl ?_
    refine r_iload dX5_isChanged_345 rfl ?_
    refine r_iload dX5_isChanged_347 rfl ?_
    refine e_callV (z := MX4_adopt) (kc' := 19) (ks' := 194) dX5_isChanged_349 ml_X5_89 cz_X4_adopt mk_X4_adopt ms_X4_adopt cb4 (by decide) (by rfl) (by rfl) (by simp [cat_rf, cat_i, cat_l, cat_r, cat_n]) (by decide) (by assumption) (lv1 _ 4 (fun _ => rfl)) (s_adopt (q := p - 1) hc hk hpd hh) (by decide) (by decide) (fun w g hq => ?_)
    obtain ⟨A', σ', L', Sc', hh, rfl, hA, hco, hag, hle⟩ := hq
    have hO' : OWN σ σ' := hO.cf ((cf_cI ((CF.rf' σ).u 3 k 1 (p - 1) rfl (by decide)) (CF.rf' σ)).tr hag.cf)
    have e5 : vr A 5 0 = vr A' 5 0 := vr_eq hA (by decide) 0
    rw [e5]
    refine r_pc 352 rfl ?_
    refine r_aload_nO dX5_isChanged_352 rfl rfl ?_
    refine r_iload dX5_isChanged_353 rfl ?_
    refine r_iload dX5_isChanged_355 rfl ?_
    refine e_callV (z := MX5_adopts) (kc' := 19) (ks' := 194) dX5_isChanged_357 ml_X5_92 cz_X5_adopts mk_X5_adopts ms_X5_adopts cb5 (by decide) (by rfl) (by rfl) (by simp [cat_rf, cat_i, cat_l, cat_r, cat_n]) (by decide) (by assumption) (lv1 _ 5 (fun _ => rfl)) (s_adopts (A := A') (σ := σ') hO' hT hL hF' hV hk hpd hh) (by decide) (by decide) (fun w g hq => ?_)
    obtain ⟨A2, σ2, hh, rfl, hA2, hO2, hof⟩ := hq
    refine r_pc 360 rfl ?_
    refine r_ic_ne 367 dX5_isChanged_360 (by decide) (fun h360 => by exact absurd rfl h360) (fun h360 => ?_)
    refine r_pc 363 rfl ?_
    refine e_iconst dX5_isChanged_363 ?_
    refine r_goto 368 dX5_isChanged_364 (by decide) ?_
    exact r_zret dX5_isChanged_368 rfl (narrow_01 (by omega)) (lq_end hh ⟨(hA2 4 (by decide)).trans (hA 4 (by decide)), (hA2 5 (by decide)).trans (hA 5 (by decide))⟩ (hco.of hof) hO2 (hag.ve.tr hof.ve) (by rw [hof.2.1]; exact hle) (sd_cI (sd_u3 σ k 1 _ (by decide)) (SD.rf' σ)))
  have P369 : ∀ k n v fx hd : Int, Lv σ 3 k → (0 ≤ n ∧ n < 12) → VAL σ v → (fx = 0 ∨ fx = 1) → (hd = 0 ∨ hd = 1) → ∀ g, HR κ A g σ → Wp κ MX5_isChanged 10 20 200 369 [(0, vr A 5 0), (1, vr A 4 0), (2, .int x), (3, .int (iI 16)), (4, .int (iI k)), (5, .int (iI n)), (6, .int (iI v)), (7, .int (iI fx)), (8, .int (iI hd))] [] g (LQ κ A σ T) := by
    intro k n v fx hd hk hn hv hfx hhd g hh
    have hkd := kd3 hk
    refine r_iload_n dX5_isChanged_369 rfl rfl ?_
    refine e_bipush dX5_isChanged_370 (by decide +kernel) ?_
    refine r_ishr dX5_isChanged_372 ?_
    refine e_iconst dX5_isChanged_373 ?_
    refine e_callSNP (z := ML_below) dX5_isChanged_374 (List.mem_of_getElem? (i := 3) rfl) cz_L_below mk_L_below (s_below (v := (x >>> (iI 10 &&& 31))) (n := 4) (by decide) (by decide)) rfl rfl (by simp [cat_rf, cat_i, cat_l, cat_r, cat_n]) (by decide) (by assumption) (fun g hh => ?_)
    refine r_pc 377 rfl ?_
    have hb1 := blw_r (x >>> (iI 10 &&& 31)) (n := 4) (by omega)
    generalize blw (x >>> (iI 10 &&& 31)) 4 = b1 at *
    refine e_if_gt 427 dX5_isChanged_377 (by decide) ⟨by omega, by omega⟩ (fun h377 => ?_) (fun h377 => ?_)
    · refine r_pc 427 rfl ?_
      refine e_iconst dX5_isChanged_427 ?_
      refine r_goto 432 dX5_isChanged_428 (by decide) ?_
      exact r_zret dX5_isChanged_432 rfl (narrow_01 (by omega)) (⟨A, σ, L, Sc, hh, rfl, ⟨rfl, rfl⟩, hc, hO, Int.le_refl _, SD.rf' σ, Int.le_refl _⟩)
    · refine r_pc 380 rfl ?_
      refine r_aload_nO dX5_isChanged_380 rfl rfl ?_
      refine r_iload dX5_isChanged_381 rfl ?_
      refine r_iload_n dX5_isChanged_383 rfl rfl ?_
      refine e_bipush dX5_isChanged_384 (by decide +kernel) ?_
      refine r_ishr dX5_isChanged_386 ?_
      refine e_iconst dX5_isChanged_387 ?_
      refine e_callSNP (z := ML_below) dX5_isChanged_388 (List.mem_of_getElem? (i := 3) rfl) cz_L_below mk_L_below (s_below (v := (x >>> (iI 12 &&& 31))) (n := 2) (by decide) (by decide)) rfl rfl (by simp [cat_rf, cat_i, cat_l, cat_r, cat_n]) (by decide) (by assumption) (fun g hh => ?_)
      refine r_pc 391 rfl ?_
      have hb2 := blw_r (x >>> (iI 12 &&& 31)) (n := 2) (by omega)
      obtain ⟨b2, eb2⟩ : ∃ b2, b2 = blw (x >>> (iI 12 &&& 31)) 2 := ⟨_, rfl⟩
      rw [← eb2] at hb2 ⊢
      refine e_if_ne 398 dX5_isChanged_391 (by decide) ⟨by omega, by omega⟩ (fun h391 => ?_) (fun h391 => ?_)
      · refine r_pc 398 rfl ?_
        refine e_iconst dX5_isChanged_398 ?_
        refine e_callV (z := MX4_shut) (kc' := 8) (ks' := 128) dX5_isChanged_399 ml_X5_95 cz_X4_shut mk_X4_shut ms_X4_shut cb4 (by decide) (by rfl) (by rfl) (by simp [cat_rf, cat_i, cat_l, cat_r, cat_n]) (by decide) (by assumption) (lv1 _ 4 (fun _ => rfl)) (s_shut (x := 0) hc hk (by omega) hh) (by decide) (by decide) (fun w g hq => ?_)
        obtain ⟨A', σ', L', Sc', hh, rfl, hA, hco, hag, hle⟩ := hq
        rw [if_pos rfl] at hag
        have hO' : OWN σ σ' := hO.cf (CF.tr ((CF.rf' σ).u 3 k 3 1 rfl (by decide)) hag.cf)
        have e5 : vr A 5 0 = vr A' 5 0 := vr_eq hA (by decide) 0
        rw [e5]
        refine r_pc 402 rfl ?_
        refine r_aload_nO dX5_isChanged_402 rfl rfl ?_
        refine r_iload dX5_isChanged_403 rfl ?_
        refine r_iload_n dX5_isChanged_405 rfl rfl ?_
        refine e_bipush dX5_isChanged_406 (by decide +kernel) ?_
        refine r_ishr dX5_isChanged_408 ?_
        refine e_iconst dX5_isChanged_409 ?_
        refine e_callSNP (z := ML_below) dX5_isChanged_410 (List.mem_of_getElem? (i := 3) rfl) cz_L_below mk_L_below (s_below (v := (x >>> (iI 12 &&& 31))) (n := 2) (by decide) (by decide)) rfl rfl (by simp [cat_rf, cat_i, cat_l, cat_r, cat_n]) (by decide) (by assumption) (fun g hh => ?_)
        refine r_pc 413 rfl ?_
        have hb2 := blw_r (x >>> (iI 12 &&& 31)) (n := 2) (by omega)
        rw [← eb2]
        refine e_if_ne 420 dX5_isChanged_413 (by decide) ⟨by omega, by omega⟩ (fun h413 => ?_) (fun h413 => by exfalso; omega)
        refine r_pc 420 rfl ?_
        refine e_iconst dX5_isChanged_420 ?_
        refine e_callV (z := MX5_shuts) (kc' := 8) (ks' := 128) dX5_isChanged_421 ml_X5_99 cz_X5_shuts mk_X5_shuts ms_X5_shuts cb5 (by decide) (by rfl) (by rfl) (by simp [cat_rf, cat_i, cat_l, cat_r, cat_n]) (by decide) (by assumption) (lv1 _ 5 (fun _ => rfl)) (s_shuts (A := A') (σ := σ') hO' hT hL hF' hV hk (x := 0) (by omega) hh) (by decide) (by decide) (fun w g hq => ?_)
        obtain ⟨A2, σ2, hh, rfl, hA2, hO2, hof⟩ := hq
        rw [if_pos rfl] at hO2
        refine r_pc 424 rfl ?_
        refine r_ic_ne 431 dX5_isChanged_424 (by decide) (fun h424 => by exact absurd rfl h424) (fun h424 => ?_)
        refine r_pc 427 rfl ?_
        refine e_iconst dX5_isChanged_427 ?_
        refine r_goto 432 dX5_isChanged_428 (by decide) ?_
        exact r_zret dX5_isChanged_432 rfl (narrow_01 (by omega)) (lq_end (τ := up σ 3 k 3 1) hh ⟨(hA2 4 (by decide)).trans (hA 4 (by decide)), (hA2 5 (by decide)).trans (hA 5 (by decide))⟩ (hco.of hof) hO2 (hag.ve.tr hof.ve) (by rw [hof.2.1]; exact hle) (sd_u3 σ k 3 1 (by decide)))
      · refine r_pc 394 rfl ?_
        refine e_iconst dX5_isChanged_394 ?_
        refine r_goto 399 dX5_isChanged_395 (by decide) ?_
        refine e_callV (z := MX4_shut) (kc' := 8) (ks' := 128) dX5_isChanged_399 ml_X5_95 cz_X4_shut mk_X4_shut ms_X4_shut cb4 (by decide) (by rfl) (by rfl) (by simp [cat_rf, cat_i, cat_l, cat_r, cat_n]) (by decide) (by assumption) (lv1 _ 4 (fun _ => rfl)) (s_shut (x := 1) hc hk (by omega) hh) (by decide) (by decide) (fun w g hq => ?_)
        obtain ⟨A', σ', L', Sc', hh, rfl, hA, hco, hag, hle⟩ := hq
        rw [if_neg (by decide)] at hag
        have hO' : OWN σ σ' := hO.cf (CF.tr (((CF.rf' σ).u 3 k 3 1 rfl (by decide)).tr (cf_frM _ k 12)) hag.cf)
        have e5 : vr A 5 0 = vr A' 5 0 := vr_eq hA (by decide) 0
        rw [e5]
        refine r_pc 402 rfl ?_
        refine r_aload_nO dX5_isChanged_402 rfl rfl ?_
        refine r_iload dX5_isChanged_403 rfl ?_
        refine r_iload_n dX5_isChanged_405 rfl rfl ?_
        refine e_bipush dX5_isChanged_406 (by decide +kernel) ?_
        refine r_ishr dX5_isChanged_408 ?_
        refine e_iconst dX5_isChanged_409 ?_
        refine e_callSNP (z := ML_below) dX5_isChanged_410 (List.mem_of_getElem? (i := 3) rfl) cz_L_below mk_L_below (s_below (v := (x >>> (iI 12 &&& 31))) (n := 2) (by decide) (by decide)) rfl rfl (by simp [cat_rf, cat_i, cat_l, cat_r, cat_n]) (by decide) (by assumption) (fun g hh => ?_)
        refine r_pc 413 rfl ?_
        have hb2 := blw_r (x >>> (iI 12 &&& 31)) (n := 2) (by omega)
        rw [← eb2]
        refine e_if_ne 420 dX5_isChanged_413 (by decide) ⟨by omega, by omega⟩ (fun h413 => by exfalso; omega) (fun h413 => ?_)
        refine r_pc 416 rfl ?_
        refine e_iconst dX5_isChanged_416 ?_
        refine r_goto 421 dX5_isChanged_417 (by decide) ?_
        refine e_callV (z := MX5_shuts) (kc' := 8) (ks' := 128) dX5_isChanged_421 ml_X5_99 cz_X5_shuts mk_X5_shuts ms_X5_shuts cb5 (by decide) (by rfl) (by rfl) (by simp [cat_rf, cat_i, cat_l, cat_r, cat_n]) (by decide) (by assumption) (lv1 _ 5 (fun _ => rfl)) (s_shuts (A := A') (σ := σ') hO' hT hL hF' hV hk (x := 1) (by omega) hh) (by decide) (by decide) (fun w g hq => ?_)
        obtain ⟨A2, σ2, hh, rfl, hA2, hO2, hof⟩ := hq
        rw [if_neg (by decide)] at hO2
        refine r_pc 424 rfl ?_
        refine r_ic_ne 431 dX5_isChanged_424 (by decide) (fun h424 => by exact absurd rfl h424) (fun h424 => ?_)
        refine r_pc 427 rfl ?_
        refine e_iconst dX5_isChanged_427 ?_
        refine r_goto 432 dX5_isChanged_428 (by decide) ?_
        exact r_zret dX5_isChanged_432 rfl (narrow_01 (by omega)) (lq_end (τ := frM (up σ 3 k 3 1) k 12) hh ⟨(hA2 4 (by decide)).trans (hA 4 (by decide)), (hA2 5 (by decide)).trans (hA 5 (by decide))⟩ (hco.of hof) hO2 (hag.ve.tr hof.ve) (by rw [hof.2.1]; exact hle) (SD.tr0 (sd_u3 σ k 3 1 (by decide)) (sd_frM _ k 12) szs_u33))
  have P486 : ∀ k n v fx hd gt st : Int, Lv σ 3 k → (0 ≤ n ∧ n < 12) → VAL σ v → (fx = 0 ∨ fx = 1) → (hd = 0 ∨ hd = 1) → (-1 ≤ gt - 1 ∧ gt - 1 < 12) → (-1 ≤ st ∧ st < 12) → ¬ (gt - 1 = -1 ∧ st = -1) → ∀ g, HR κ A g σ → Wp κ MX5_isChanged 10 20 200 486 [(0, vr A 5 0), (1, vr A 4 0), (2, .int x), (3, .int (iI 16)), (4, .int (iI k)), (5, .int (iI n)), (6, .int (iI v)), (7, .int (iI fx)), (8, .int (iI hd)), (9, .int (iI (bI (canD σ k n)))), (10, .int (iI (gt - 1))), (11, .int (iI st))] [] g (LQ κ A σ T) := by
    intro k n v fx hd gt st hk hn hv hfx hhd hgd hst hgs g hh
    have had := blw_r (x >>> (iI 5 &&& 31)) (n := 40) (by omega)
    obtain ⟨ad, ead⟩ : ∃ ad, ad = blw (x >>> (iI 5 &&& 31)) 40 := ⟨_, rfl⟩
    rw [← ead] at had
    refine e_bipush dX5_isChanged_486 (by decide +kernel) ?_
    refine e_nb (rowF n 2 (gt - 1) 0 hd st (ad - 20)) dX5_isChanged_488 (by assumption) (kc' := 19) (ks' := 193) (by decide) (by decide) (fun g b hN => ?_)
    refine r_dup dX5_isChanged_490 (by first | rfl | exact cat_rf _) ?_
    refine e_iconst dX5_isChanged_491 ?_
    refine r_iload dX5_isChanged_492 rfl ?_
    refine e_ist7 (m := 0) dX5_isChanged_494 hN rfl (by decide) rfl (fun g hN => ?_)
    refine r_dup dX5_isChanged_495 (by first | rfl | exact cat_rf _) ?_
    refine e_iconst dX5_isChanged_496 ?_
    refine e_iconst dX5_isChanged_497 ?_
    refine e_ist7 (m := 1) dX5_isChanged_498 hN rfl (by decide) rfl (fun g hN => ?_)
    refine r_dup dX5_isChanged_499 (by first | rfl | exact cat_rf _) ?_
    refine e_iconst dX5_isChanged_500 ?_
    refine r_iload dX5_isChanged_501 rfl ?_
    refine e_ist7 (m := 2) dX5_isChanged_503 hN rfl (by decide) rfl (fun g hN => ?_)
    refine r_dup dX5_isChanged_504 (by first | rfl | exact cat_rf _) ?_
    refine e_iconst dX5_isChanged_505 ?_
    refine e_iconst dX5_isChanged_506 ?_
    refine e_ist7 (m := 3) dX5_isChanged_507 hN rfl (by decide) rfl (fun g hN => ?_)
    refine r_dup dX5_isChanged_508 (by first | rfl | exact cat_rf _) ?_
    refine e_iconst dX5_isChanged_509 ?_
    refine r_iload dX5_isChanged_510 rfl ?_
    refine e_if_eq 519 dX5_isChanged_512 (by decide) ⟨by omega, by omega⟩ (fun h512 => ?_) (fun h512 => ?_)
    · refine r_pc 519 rfl ?_
      refine e_iconst dX5_isChanged_519 ?_
      refine e_iv (show (0 : Int) = hd by omega) ?_
      refine e_ist7 (m := 4) dX5_isChanged_520 hN rfl (by decide) rfl (fun g hN => ?_)
      refine r_dup dX5_isChanged_521 (by first | rfl | exact cat_rf _) ?_
      refine e_iconst dX5_isChanged_522 ?_
      refine r_iload dX5_isChanged_523 rfl ?_
      refine e_ist7 (m := 5) dX5_isChanged_525 hN rfl (by decide) rfl (fun g hN => ?_)
      refine r_dup dX5_isChanged_526 (by first | rfl | exact cat_rf _) ?_
      refine e_bipush dX5_isChanged_527 (by decide +kernel) ?_
      refine r_iload_n dX5_isChanged_529 rfl rfl ?_
      refine e_iconst dX5_isChanged_530 ?_
      refine r_ishr dX5_isChanged_531 ?_
      refine e_bipush dX5_isChanged_532 (by decide +kernel) ?_
      refine e_callSNG (z := ML_below) dX5_isChanged_534 (List.mem_of_getElem? (i := 3) rfl) cz_L_below mk_L_below (s_belowg (v := (x >>> (iI 5 &&& 31))) (n := 40) (by decide) (by decide)) rfl rfl (by simp [cat_rf, cat_i, cat_l, cat_r, cat_n]) (by decide) hN.1 ?_
      refine r_pc 537 rfl ?_
      rw [← ead]
      refine e_bipush dX5_isChanged_537 (by decide +kernel) ?_
      first | refine e_isub dX5_isChanged_539 ?_ | refine r_isub dX5_isChanged_539 ?_
      refine e_ist7 (m := 6) dX5_isChanged_540 hN rfl (by decide) rfl (fun g hN => ?_)
      have hh := nb_end hN hO.2.2.2.2.2 (rowF_7 _ _ _ _ _ _ _)
      obtain ⟨A', hA'⟩ : ∃ A', A' = gA A 25 (σ 99 25 0) b := ⟨_, rfl⟩
      have er : Value.ref b = vr A' 25 (σ 99 25 0) := by rw [vr_some hO.2.2.2.2.2, hA', gA_at]
      have e5 : vr A 5 0 = vr A' 5 0 := by rw [hA']; rfl
      have e4 : vr A 4 0 = vr A' 4 0 := by rw [hA']; rfl
      replace hh : HR κ A' g (gS σ 25 (rowF n 2 (gt - 1) 0 hd st (ad - 20))) := by rw [hA']; exact hh
      have hAe : ∀ t, t ≠ 25 → A' t = A t := fun t ht => by rw [hA']; funext r; exact gA_ne (fun y => ht y.1)
      obtain ⟨hO1, hρ1, hfr1⟩ := own_grow (f := rowF n 2 (gt - 1) 0 hd st (ad - 20)) hO
      rw [er, e5, e4]
      refine r_astoreO dX5_isChanged_541 (by decide) ?_
      refine r_iload dX5_isChanged_543 rfl ?_
      refine e_ifeq_b 556 dX5_isChanged_545 (by decide) (fun h545 => ?_) (fun h545 => ?_)
      · refine r_pc 556 rfl ?_
        have hcan := h545
        obtain ⟨σ2, hs2⟩ : ∃ σ2, σ2 = gS σ 25 (rowF n 2 (gt - 1) 0 hd st (ad - 20)) := ⟨_, rfl⟩
        have hof : OF σ σ2 := by rw [hs2]; exact gS_of σ _
        have hO2 : OWN σ σ2 := by rw [hs2]; exact hO1
        have hAt := hAe
        rw [← hs2] at hh
        have hr6 : σ2 25 (σ 99 25 0) 6 = ad - 20 := by rw [hs2]; exact gS_n σ _ 6
        have hρ2 : Lv σ2 25 (σ 99 25 0) := by rw [hs2]; exact hρ1
        have hve := hof.ve
        have hc2 := hc.of hof
        refine r_aload_nO dX5_isChanged_556 rfl rfl ?_
        refine r_iload dX5_isChanged_557 rfl ?_
        refine r_iload dX5_isChanged_559 rfl ?_
        refine r_iload dX5_isChanged_561 rfl ?_
        refine r_iload dX5_isChanged_563 rfl ?_
        refine r_aloadO dX5_isChanged_565 rfl ?_
        refine e_bipush dX5_isChanged_567 (by decide +kernel) ?_
        refine e_iald (t := 25) dX5_isChanged_569 (by decide) (by decide) (by rfl) (by intro _; rfl) (by assumption) (by assumption) (by have e : ln 25 = 7 := rfl; omega) ?_
        refine e_iv hr6 ?_
        refine r_iload dX5_isChanged_570 rfl ?_
        refine e_callV (z := MX4_pair) (kc' := 18) (ks' := 187) dX5_isChanged_572 ml_X5_102 cz_X4_pair mk_X4_pair ms_X4_pair cb4 (by decide) (by rfl) (by rfl) (by simp [cat_rf, cat_i, cat_l, cat_r, cat_n]) (by decide) (by assumption) (lv1 _ 4 (fun _ => rfl)) (s_pair (σ := σ2) (A := A') hc2 (lv_ve hve hk) hn hgd hst hgs (by omega) hhd hh) (by decide) (by decide) (fun w g hq => ?_)
        obtain ⟨A3, σ3, L3, Sc3, hh, rfl, hA3, hco, hag, hle⟩ := hq
        refine e_iv (bI_eq (canD_ve hve k n)) ?_
        refine r_pc 575 rfl ?_
        refine r_iload dX5_isChanged_575 rfl ?_
        refine r_ic_ne 584 dX5_isChanged_577 (by decide) (fun h577 => by exact absurd rfl h577) (fun h577 => ?_)
        refine r_pc 580 rfl ?_
        have hag2 : AgV (σ2) σ3 := by
          have := hag
          rw [cI_f] at this
          · exact this
          · rw [canD_ve hve]
            exact hcan
        refine e_iconst dX5_isChanged_580 ?_
        refine r_goto 585 dX5_isChanged_581 (by decide) ?_
        exact r_zret dX5_isChanged_585 rfl (narrow_01 (by omega)) (lq_end hh ⟨(hA3 4 (by decide)).trans (hAt 4 (by decide)), (hA3 5 (by decide)).trans (hAt 5 (by decide))⟩ hco (hO2.cf hag2.cf) (hve.tr hag2.ve) (by rw [← hof.2.1]; exact hle) (SD.rf' σ))
      · refine r_pc 548 rfl ?_
        have hcan := h545
        refine r_aload_nO dX5_isChanged_548 rfl rfl ?_
        refine r_iload dX5_isChanged_549 rfl ?_
        refine r_aloadO dX5_isChanged_551 rfl ?_
        refine e_callV (z := MX5_put) (kc' := 19) (ks' := 193) dX5_isChanged_553 ml_X5_59 cz_X5_put mk_X5_put ms_X5_put cb5 (by decide) (by rfl) (by rfl) (by simp [cat_rf, cat_i, cat_l, cat_r, cat_n]) (by decide) (by assumption) (lv1 _ 5 (fun _ => rfl)) (s_put (σ := gS σ 25 (rowF n 2 (gt - 1) 0 hd st (ad - 20))) (A := A') (t := 3 + 8 * hd) (a := -1000) (b := gt - 1) (c := st) (d := ad - 20) hO1 hT hL hF' hV hk hn hρ1 hfr1 (rw_pr (pr_b hhd)) hh) (by decide) (by decide) (fun w g hq => ?_)
        obtain ⟨A2, σ2, hh, rfl, hA2, hO2, hof2, hAA, h25, hc25⟩ := hq
        have hof := (gS_of σ (rowF n 2 (gt - 1) 0 hd st (ad - 20))).tr hof2
        have hAt : ∀ t, t ≠ 25 → A2 t = A t := fun t ht => (hA2 t ht).trans (hAe t ht)
        rw [← hAA]
        have hr6 : σ2 25 (σ 99 25 0) 6 = ad - 20 := (h25 _ _).trans (gS_n σ _ 6)
        have hρ2 : Lv σ2 25 (σ 99 25 0) := ⟨hρ1.1, by have := hρ1.2; show _ < σ2 99 25 0; rw [hc25]; exact this⟩
        refine r_pc 556 rfl ?_
        have hve := hof.ve
        have hc2 := hc.of hof
        refine r_aload_nO dX5_isChanged_556 rfl rfl ?_
        refine r_iload dX5_isChanged_557 rfl ?_
        refine r_iload dX5_isChanged_559 rfl ?_
        refine r_iload dX5_isChanged_561 rfl ?_
        refine r_iload dX5_isChanged_563 rfl ?_
        refine r_aloadO dX5_isChanged_565 rfl ?_
        refine e_bipush dX5_isChanged_567 (by decide +kernel) ?_
        refine e_iald (t := 25) dX5_isChanged_569 (by decide) (by decide) (by rfl) (by intro _; rfl) (by assumption) (by assumption) (by have e : ln 25 = 7 := rfl; omega) ?_
        refine e_iv hr6 ?_
        refine r_iload dX5_isChanged_570 rfl ?_
        refine e_callV (z := MX4_pair) (kc' := 18) (ks' := 187) dX5_isChanged_572 ml_X5_102 cz_X4_pair mk_X4_pair ms_X4_pair cb4 (by decide) (by rfl) (by rfl) (by simp [cat_rf, cat_i, cat_l, cat_r, cat_n]) (by decide) (by assumption) (lv1 _ 4 (fun _ => rfl)) (s_pair (σ := σ2) (A := A2) hc2 (lv_ve hve hk) hn hgd hst hgs (by omega) hhd hh) (by decide) (by decide) (fun w g hq => ?_)
        obtain ⟨A3, σ3, L3, Sc3, hh, rfl, hA3, hco, hag, hle⟩ := hq
        refine e_iv (bI_eq (canD_ve hve k n)) ?_
        refine r_pc 575 rfl ?_
        refine r_iload dX5_isChanged_575 rfl ?_
        refine r_ic_ne 584 dX5_isChanged_577 (by decide) (fun h577 => by exact absurd rfl h577) (fun h577 => ?_)
        refine r_pc 580 rfl ?_
        have hag2 : AgV (putM σ2 k n (3 + 8 * hd) (-1000) (gt - 1) st (ad - 20)) σ3 := by
          have := hag
          rw [cI_t] at this
          · exact this
          · rw [canD_ve hve]
            exact hcan
        refine e_iconst dX5_isChanged_580 ?_
        refine r_goto 585 dX5_isChanged_581 (by decide) ?_
        exact r_zret dX5_isChanged_585 rfl (narrow_01 (by omega)) (lq_end hh ⟨(hA3 4 (by decide)).trans (hAt 4 (by decide)), (hA3 5 (by decide)).trans (hAt 5 (by decide))⟩ hco (hO2.cf ((cf_putM σ2 _ _ _ _ _ _ _).tr hag2.cf)) ((hve.putM _ _ _ _ _ _ _).tr hag2.ve) (by rw [← hof.2.1]; exact hle) (sd_putM σ _ _ _ _ _ _ _))
    · refine r_pc 515 rfl ?_
      refine e_iconst dX5_isChanged_515 ?_
      refine r_goto 520 dX5_isChanged_516 (by decide) ?_
      refine e_iv (show (1 : Int) = hd by omega) ?_
      refine e_ist7 (m := 4) dX5_isChanged_520 hN rfl (by decide) rfl (fun g hN => ?_)
      refine r_dup dX5_isChanged_521 (by first | rfl | exact cat_rf _) ?_
      refine e_iconst dX5_isChanged_522 ?_
      refine r_iload dX5_isChanged_523 rfl ?_
      refine e_ist7 (m := 5) dX5_isChanged_525 hN rfl (by decide) rfl (fun g hN => ?_)
      refine r_dup dX5_isChanged_526 (by first | rfl | exact cat_rf _) ?_
      refine e_bipush dX5_isChanged_527 (by decide +kernel) ?_
      refine r_iload_n dX5_isChanged_529 rfl rfl ?_
      refine e_iconst dX5_isChanged_530 ?_
      refine r_ishr dX5_isChanged_531 ?_
      refine e_bipush dX5_isChanged_532 (by decide +kernel) ?_
      refine e_callSNG (z := ML_below) dX5_isChanged_534 (List.mem_of_getElem? (i := 3) rfl) cz_L_below mk_L_below (s_belowg (v := (x >>> (iI 5 &&& 31))) (n := 40) (by decide) (by decide)) rfl rfl (by simp [cat_rf, cat_i, cat_l, cat_r, cat_n]) (by decide) hN.1 ?_
      refine r_pc 537 rfl ?_
      rw [← ead]
      refine e_bipush dX5_isChanged_537 (by decide +kernel) ?_
      first | refine e_isub dX5_isChanged_539 ?_ | refine r_isub dX5_isChanged_539 ?_
      refine e_ist7 (m := 6) dX5_isChanged_540 hN rfl (by decide) rfl (fun g hN => ?_)
      have hh := nb_end hN hO.2.2.2.2.2 (rowF_7 _ _ _ _ _ _ _)
      obtain ⟨A', hA'⟩ : ∃ A', A' = gA A 25 (σ 99 25 0) b := ⟨_, rfl⟩
      have er : Value.ref b = vr A' 25 (σ 99 25 0) := by rw [vr_some hO.2.2.2.2.2, hA', gA_at]
      have e5 : vr A 5 0 = vr A' 5 0 := by rw [hA']; rfl
      have e4 : vr A 4 0 = vr A' 4 0 := by rw [hA']; rfl
      replace hh : HR κ A' g (gS σ 25 (rowF n 2 (gt - 1) 0 hd st (ad - 20))) := by rw [hA']; exact hh
      have hAe : ∀ t, t ≠ 25 → A' t = A t := fun t ht => by rw [hA']; funext r; exact gA_ne (fun y => ht y.1)
      obtain ⟨hO1, hρ1, hfr1⟩ := own_grow (f := rowF n 2 (gt - 1) 0 hd st (ad - 20)) hO
      rw [er, e5, e4]
      refine r_astoreO dX5_isChanged_541 (by decide) ?_
      refine r_iload dX5_isChanged_543 rfl ?_
      refine e_ifeq_b 556 dX5_isChanged_545 (by decide) (fun h545 => ?_) (fun h545 => ?_)
      · refine r_pc 556 rfl ?_
        have hcan := h545
        obtain ⟨σ2, hs2⟩ : ∃ σ2, σ2 = gS σ 25 (rowF n 2 (gt - 1) 0 hd st (ad - 20)) := ⟨_, rfl⟩
        have hof : OF σ σ2 := by rw [hs2]; exact gS_of σ _
        have hO2 : OWN σ σ2 := by rw [hs2]; exact hO1
        have hAt := hAe
        rw [← hs2] at hh
        have hr6 : σ2 25 (σ 99 25 0) 6 = ad - 20 := by rw [hs2]; exact gS_n σ _ 6
        have hρ2 : Lv σ2 25 (σ 99 25 0) := by rw [hs2]; exact hρ1
        have hve := hof.ve
        have hc2 := hc.of hof
        refine r_aload_nO dX5_isChanged_556 rfl rfl ?_
        refine r_iload dX5_isChanged_557 rfl ?_
        refine r_iload dX5_isChanged_559 rfl ?_
        refine r_iload dX5_isChanged_561 rfl ?_
        refine r_iload dX5_isChanged_563 rfl ?_
        refine r_aloadO dX5_isChanged_565 rfl ?_
        refine e_bipush dX5_isChanged_567 (by decide +kernel) ?_
        refine e_iald (t := 25) dX5_isChanged_569 (by decide) (by decide) (by rfl) (by intro _; rfl) (by assumption) (by assumption) (by have e : ln 25 = 7 := rfl; omega) ?_
        refine e_iv hr6 ?_
        refine r_iload dX5_isChanged_570 rfl ?_
        refine e_callV (z := MX4_pair) (kc' := 18) (ks' := 187) dX5_isChanged_572 ml_X5_102 cz_X4_pair mk_X4_pair ms_X4_pair cb4 (by decide) (by rfl) (by rfl) (by simp [cat_rf, cat_i, cat_l, cat_r, cat_n]) (by decide) (by assumption) (lv1 _ 4 (fun _ => rfl)) (s_pair (σ := σ2) (A := A') hc2 (lv_ve hve hk) hn hgd hst hgs (by omega) hhd hh) (by decide) (by decide) (fun w g hq => ?_)
        obtain ⟨A3, σ3, L3, Sc3, hh, rfl, hA3, hco, hag, hle⟩ := hq
        refine e_iv (bI_eq (canD_ve hve k n)) ?_
        refine r_pc 575 rfl ?_
        refine r_iload dX5_isChanged_575 rfl ?_
        refine r_ic_ne 584 dX5_isChanged_577 (by decide) (fun h577 => by exact absurd rfl h577) (fun h577 => ?_)
        refine r_pc 580 rfl ?_
        have hag2 : AgV (σ2) σ3 := by
          have := hag
          rw [cI_f] at this
          · exact this
          · rw [canD_ve hve]
            exact hcan
        refine e_iconst dX5_isChanged_580 ?_
        refine r_goto 585 dX5_isChanged_581 (by decide) ?_
        exact r_zret dX5_isChanged_585 rfl (narrow_01 (by omega)) (lq_end hh ⟨(hA3 4 (by decide)).trans (hAt 4 (by decide)), (hA3 5 (by decide)).trans (hAt 5 (by decide))⟩ hco (hO2.cf hag2.cf) (hve.tr hag2.ve) (by rw [← hof.2.1]; exact hle) (SD.rf' σ))
      · refine r_pc 548 rfl ?_
        have hcan := h545
        refine r_aload_nO dX5_isChanged_548 rfl rfl ?_
        refine r_iload dX5_isChanged_549 rfl ?_
        refine r_aloadO dX5_isChanged_551 rfl ?_
        refine e_callV (z := MX5_put) (kc' := 19) (ks' := 193) dX5_isChanged_553 ml_X5_59 cz_X5_put mk_X5_put ms_X5_put cb5 (by decide) (by rfl) (by rfl) (by simp [cat_rf, cat_i, cat_l, cat_r, cat_n]) (by decide) (by assumption) (lv1 _ 5 (fun _ => rfl)) (s_put (σ := gS σ 25 (rowF n 2 (gt - 1) 0 hd st (ad - 20))) (A := A') (t := 3 + 8 * hd) (a := -1000) (b := gt - 1) (c := st) (d := ad - 20) hO1 hT hL hF' hV hk hn hρ1 hfr1 (rw_pr (pr_b hhd)) hh) (by decide) (by decide) (fun w g hq => ?_)
        obtain ⟨A2, σ2, hh, rfl, hA2, hO2, hof2, hAA, h25, hc25⟩ := hq
        have hof := (gS_of σ (rowF n 2 (gt - 1) 0 hd st (ad - 20))).tr hof2
        have hAt : ∀ t, t ≠ 25 → A2 t = A t := fun t ht => (hA2 t ht).trans (hAe t ht)
        rw [← hAA]
        have hr6 : σ2 25 (σ 99 25 0) 6 = ad - 20 := (h25 _ _).trans (gS_n σ _ 6)
        have hρ2 : Lv σ2 25 (σ 99 25 0) := ⟨hρ1.1, by have := hρ1.2; show _ < σ2 99 25 0; rw [hc25]; exact this⟩
        refine r_pc 556 rfl ?_
        have hve := hof.ve
        have hc2 := hc.of hof
        refine r_aload_nO dX5_isChanged_556 rfl rfl ?_
        refine r_iload dX5_isChanged_557 rfl ?_
        refine r_iload dX5_isChanged_559 rfl ?_
        refine r_iload dX5_isChanged_561 rfl ?_
        refine r_iload dX5_isChanged_563 rfl ?_
        refine r_aloadO dX5_isChanged_565 rfl ?_
        refine e_bipush dX5_isChanged_567 (by decide +kernel) ?_
        refine e_iald (t := 25) dX5_isChanged_569 (by decide) (by decide) (by rfl) (by intro _; rfl) (by assumption) (by assumption) (by have e : ln 25 = 7 := rfl; omega) ?_
        refine e_iv hr6 ?_
        refine r_iload dX5_isChanged_570 rfl ?_
        refine e_callV (z := MX4_pair) (kc' := 18) (ks' := 187) dX5_isChanged_572 ml_X5_102 cz_X4_pair mk_X4_pair ms_X4_pair cb4 (by decide) (by rfl) (by rfl) (by simp [cat_rf, cat_i, cat_l, cat_r, cat_n]) (by decide) (by assumption) (lv1 _ 4 (fun _ => rfl)) (s_pair (σ := σ2) (A := A2) hc2 (lv_ve hve hk) hn hgd hst hgs (by omega) hhd hh) (by decide) (by decide) (fun w g hq => ?_)
        obtain ⟨A3, σ3, L3, Sc3, hh, rfl, hA3, hco, hag, hle⟩ := hq
        refine e_iv (bI_eq (canD_ve hve k n)) ?_
        refine r_pc 575 rfl ?_
        refine r_iload dX5_isChanged_575 rfl ?_
        refine r_ic_ne 584 dX5_isChanged_577 (by decide) (fun h577 => by exact absurd rfl h577) (fun h577 => ?_)
        refine r_pc 580 rfl ?_
        have hag2 : AgV (putM σ2 k n (3 + 8 * hd) (-1000) (gt - 1) st (ad - 20)) σ3 := by
          have := hag
          rw [cI_t] at this
          · exact this
          · rw [canD_ve hve]
            exact hcan
        refine e_iconst dX5_isChanged_580 ?_
        refine r_goto 585 dX5_isChanged_581 (by decide) ?_
        exact r_zret dX5_isChanged_585 rfl (narrow_01 (by omega)) (lq_end hh ⟨(hA3 4 (by decide)).trans (hAt 4 (by decide)), (hA3 5 (by decide)).trans (hAt 5 (by decide))⟩ hco (hO2.cf ((cf_putM σ2 _ _ _ _ _ _ _).tr hag2.cf)) ((hve.putM _ _ _ _ _ _ _).tr hag2.ve) (by rw [← hof.2.1]; exact hle) (sd_putM σ _ _ _ _ _ _ _))
  have P433 : ∀ k n v fx hd : Int, Lv σ 3 k → (0 ≤ n ∧ n < 12) → VAL σ v → (fx = 0 ∨ fx = 1) → (hd = 0 ∨ hd = 1) → ∀ g, HR κ A g σ → Wp κ MX5_isChanged 10 20 200 433 [(0, vr A 5 0), (1, vr A 4 0), (2, .int x), (3, .int (iI 16)), (4, .int (iI k)), (5, .int (iI n)), (6, .int (iI v)), (7, .int (iI fx)), (8, .int (iI hd))] [] g (LQ κ A σ T) := by
    intro k n v fx hd hk hn hv hfx hhd g hh
    have hkd := kd3 hk
    refine r_aload_nO dX5_isChanged_433 rfl rfl ?_
    refine r_iload dX5_isChanged_434 rfl ?_
    refine r_iload dX5_isChanged_436 rfl ?_
    refine e_callVP (z := MX5_can) dX5_isChanged_438 ml_X5_76 cz_X5_can mk_X5_can ms_X5_can cb5 (by decide) (s_can hO hT hL hF' hV hk hn) rfl rfl (by simp [cat_rf, cat_i, cat_l, cat_r, cat_n]) (by decide) (by assumption) (lv1 _ 5 (fun _ => rfl)) (fun g hh => ?_)
    refine r_pc 441 rfl ?_
    refine r_istore dX5_isChanged_441 (by decide) ?_
    refine r_iload_n dX5_isChanged_443 rfl rfl ?_
    refine e_bipush dX5_isChanged_444 (by decide +kernel) ?_
    refine r_ishr dX5_isChanged_446 ?_
    refine e_bipush dX5_isChanged_447 (by decide +kernel) ?_
    refine e_callSNP (z := ML_below) dX5_isChanged_449 (List.mem_of_getElem? (i := 3) rfl) cz_L_below mk_L_below (s_below (v := (x >>> (iI 10 &&& 31))) (n := 13) (by decide) (by decide)) rfl rfl (by simp [cat_rf, cat_i, cat_l, cat_r, cat_n]) (by decide) (by assumption) (fun g hh => ?_)
    refine r_pc 452 rfl ?_
    have hgt := blw_r (x >>> (iI 10 &&& 31)) (n := 13) (by omega)
    generalize blw (x >>> (iI 10 &&& 31)) 13 = gt at *
    refine e_iconst dX5_isChanged_452 ?_
    first | refine e_isub dX5_isChanged_453 ?_ | refine r_isub dX5_isChanged_453 ?_
    refine r_istore dX5_isChanged_454 (by decide) ?_
    refine r_iload dX5_isChanged_456 rfl ?_
    refine e_if_ge 473 dX5_isChanged_458 (by decide) ⟨by omega, by omega⟩ (fun h458 => ?_) (fun h458 => ?_)
    · refine r_pc 473 rfl ?_
      refine r_iload_n dX5_isChanged_473 rfl rfl ?_
      refine e_bipush dX5_isChanged_474 (by decide +kernel) ?_
      refine r_ishr dX5_isChanged_476 ?_
      refine e_bipush dX5_isChanged_477 (by decide +kernel) ?_
      refine e_callSNP (z := ML_below) dX5_isChanged_479 (List.mem_of_getElem? (i := 3) rfl) cz_L_below mk_L_below (s_below (v := (x >>> (iI 12 &&& 31))) (n := 13) (by decide) (by decide)) rfl rfl (by simp [cat_rf, cat_i, cat_l, cat_r, cat_n]) (by decide) (by assumption) (fun g hh => ?_)
      refine r_pc 482 rfl ?_
      have hst := blw_r (x >>> (iI 12 &&& 31)) (n := 13) (by omega)
      generalize blw (x >>> (iI 12 &&& 31)) 13 = st at *
      refine e_iconst dX5_isChanged_482 ?_
      first | refine e_isub dX5_isChanged_483 ?_ | refine r_isub dX5_isChanged_483 ?_
      refine r_istore dX5_isChanged_484 (by decide) ?_
      refine r_lv [(0, vr A 5 0), (1, vr A 4 0), (2, .int x), (3, .int (iI 16)), (4, .int (iI k)), (5, .int (iI n)), (6, .int (iI v)), (7, .int (iI fx)), (8, .int (iI hd)), (9, .int (iI (bI (canD σ k n)))), (10, .int (iI (gt - 1))), (11, .int (iI (st - 1)))] rfl ?_
      exact P486 k n v fx hd gt (st - 1) hk hn hv hfx hhd (by omega) (by omega) (by omega) g hh
    · refine r_pc 461 rfl ?_
      refine r_iload_n dX5_isChanged_461 rfl rfl ?_
      refine e_bipush dX5_isChanged_462 (by decide +kernel) ?_
      refine r_ishr dX5_isChanged_464 ?_
      refine e_bipush dX5_isChanged_465 (by decide +kernel) ?_
      refine e_callSNP (z := ML_below) dX5_isChanged_467 (List.mem_of_getElem? (i := 3) rfl) cz_L_below mk_L_below (s_below (v := (x >>> (iI 12 &&& 31))) (n := 12) (by decide) (by decide)) rfl rfl (by simp [cat_rf, cat_i, cat_l, cat_r, cat_n]) (by decide) (by assumption) (fun g hh => ?_)
      refine r_pc 470 rfl ?_
      have hst := blw_r (x >>> (iI 12 &&& 31)) (n := 12) (by omega)
      generalize blw (x >>> (iI 12 &&& 31)) 12 = st at *
      refine r_goto 484 dX5_isChanged_470 (by decide) ?_
      refine r_istore dX5_isChanged_484 (by decide) ?_
      refine r_lv [(0, vr A 5 0), (1, vr A 4 0), (2, .int x), (3, .int (iI 16)), (4, .int (iI k)), (5, .int (iI n)), (6, .int (iI v)), (7, .int (iI fx)), (8, .int (iI hd)), (9, .int (iI (bI (canD σ k n)))), (10, .int (iI (gt - 1))), (11, .int (iI st))] rfl ?_
      exact P486 k n v fx hd gt st hk hn hv hfx hhd (by omega) (by omega) (by omega) g hh
  have P121 : ∀ k n v fx hd : Int, Lv σ 3 k → (0 ≤ n ∧ n < 12) → VAL σ v → (fx = 0 ∨ fx = 1) → (hd = 0 ∨ hd = 1) → ∀ g, HR κ A g σ → Wp κ MX5_isChanged 10 20 200 121 [(0, vr A 5 0), (1, vr A 4 0), (2, .int x), (3, .int (iI 16)), (4, .int (iI k)), (5, .int (iI n)), (6, .int (iI v)), (7, .int (iI fx)), (8, .int (iI hd))] [] g (LQ κ A σ T) := by
    intro k n v fx hd hk hn hv hfx hhd g hh
    refine r_iload_n dX5_isChanged_121 rfl rfl ?_
    refine r_iload_n dX5_isChanged_122 rfl rfl ?_
    refine e_callSNP (z := ML_below) dX5_isChanged_123 (List.mem_of_getElem? (i := 3) rfl) cz_L_below mk_L_below (s_below (v := x) (n := 16) (by decide) (by decide)) rfl rfl (by simp [cat_rf, cat_i, cat_l, cat_r, cat_n]) (by decide) (by assumption) (fun g hh => ?_)
    refine r_pc 126 rfl ?_
    have hsw := blw_r x (n := 16) (by omega)
    generalize blw x 16 = sw at *
    have hs : sw = 0 ∨ sw = 1 ∨ sw = 2 ∨ sw = 3 ∨ sw = 4 ∨ sw = 5 ∨ sw = 6 ∨ sw = 7 ∨ sw = 8 ∨ sw = 9 ∨ sw = 10 ∨ sw = 11 ∨ sw = 12 ∨ sw = 13 ∨ sw = 14 ∨ sw = 15 := by omega
    rcases hs with rfl | rfl | rfl | rfl | rfl | rfl | rfl | rfl | rfl | rfl | rfl | rfl | rfl | rfl | rfl | rfl
    · refine r_tblIn (off := 42) 168 dX5_isChanged_126 (by decide +kernel) (by decide +kernel) (by decide +kernel) (by decide) ?_
      exact P168 k n v fx hd hk hn hv hfx hhd g hh
    · refine r_tblIn (off := 42) 168 dX5_isChanged_126 (by decide +kernel) (by decide +kernel) (by decide +kernel) (by decide) ?_
      exact P168 k n v fx hd hk hn hv hfx hhd g hh
    · refine r_tblIn (off := 42) 168 dX5_isChanged_126 (by decide +kernel) (by decide +kernel) (by decide +kernel) (by decide) ?_
      exact P168 k n v fx hd hk hn hv hfx hhd g hh
    · refine r_tblIn (off := 73) 199 dX5_isChanged_126 (by decide +kernel) (by decide +kernel) (by decide +kernel) (by decide) ?_
      exact P199 k n v fx hd hk hn hv hfx hhd g hh
    · refine r_tblIn (off := 176) 302 dX5_isChanged_126 (by decide +kernel) (by decide +kernel) (by decide +kernel) (by decide) ?_
      exact P302 k n v fx hd hk hn hv hfx hhd g hh
    · refine r_tblIn (off := 201) 327 dX5_isChanged_126 (by decide +kernel) (by decide +kernel) (by decide +kernel) (by decide) ?_
      exact P327 k n v fx hd hk hn hv hfx hhd g hh
    · refine r_tblIn (off := 243) 369 dX5_isChanged_126 (by decide +kernel) (by decide +kernel) (by decide +kernel) (by decide) ?_
      exact P369 k n v fx hd hk hn hv hfx hhd g hh
    · refine r_tblOut 433 dX5_isChanged_126 (by decide +kernel) (by decide) ?_
      exact P433 k n v fx hd hk hn hv hfx hhd g hh
    · refine r_tblOut 433 dX5_isChanged_126 (by decide +kernel) (by decide) ?_
      exact P433 k n v fx hd hk hn hv hfx hhd g hh
    · refine r_tblOut 433 dX5_isChanged_126 (by decide +kernel) (by decide) ?_
      exact P433 k n v fx hd hk hn hv hfx hhd g hh
    · refine r_tblOut 433 dX5_isChanged_126 (by decide +kernel) (by decide) ?_
      exact P433 k n v fx hd hk hn hv hfx hhd g hh
    · refine r_tblOut 433 dX5_isChanged_126 (by decide +kernel) (by decide) ?_
      exact P433 k n v fx hd hk hn hv hfx hhd g hh
    · refine r_tblOut 433 dX5_isChanged_126 (by decide +kernel) (by decide) ?_
      exact P433 k n v fx hd hk hn hv hfx hhd g hh
    · refine r_tblOut 433 dX5_isChanged_126 (by decide +kernel) (by decide) ?_
      exact P433 k n v fx hd hk hn hv hfx hhd g hh
    · refine r_tblOut 433 dX5_isChanged_126 (by decide +kernel) (by decide) ?_
      exact P433 k n v fx hd hk hn hv hfx hhd g hh
    · refine r_tblOut 433 dX5_isChanged_126 (by decide +kernel) (by decide) ?_
      exact P433 k n v fx hd hk hn hv hfx hhd g hh
  have P85 : ∀ k n v : Int, Lv σ 3 k → (0 ≤ n ∧ n < 12) → VAL σ v → ∀ g, HR κ A g σ → Wp κ MX5_isChanged 10 20 200 85 [(0, vr A 5 0), (1, vr A 4 0), (2, .int x), (3, .int (iI 16)), (4, .int (iI k)), (5, .int (iI n)), (6, .int (iI v))] [] g (LQ κ A σ T) := by
    intro k n v hk hn hv g hh
    have hkd := kd3 hk
    refine r_iload_n dX5_isChanged_85 rfl rfl ?_
    refine e_bipush dX5_isChanged_86 (by decide +kernel) ?_
    refine r_ishr dX5_isChanged_88 ?_
    refine e_iconst dX5_isChanged_89 ?_
    refine e_callSNP (z := ML_below) dX5_isChanged_90 (List.mem_of_getElem? (i := 3) rfl) cz_L_below mk_L_below (s_below (v := (x >>> (iI 11 &&& 31))) (n := 5) (by decide) (by decide)) rfl rfl (by simp [cat_rf, cat_i, cat_l, cat_r, cat_n]) (by decide) (by assumption) (fun g hh => ?_)
    refine r_pc 93 rfl ?_
    have hb3 := blw_r (x >>> (iI 11 &&& 31)) (n := 5) (by omega)
    generalize blw (x >>> (iI 11 &&& 31)) 5 = b3 at *
    refine e_if_ne 100 dX5_isChanged_93 (by decide) ⟨by omega, by omega⟩ (fun h93 => ?_) (fun h93 => ?_)
    · refine r_pc 100 rfl ?_
      refine e_iconst dX5_isChanged_100 ?_
      refine r_istore dX5_isChanged_101 (by decide) ?_
      refine r_iload_n dX5_isChanged_103 rfl rfl ?_
      refine e_bipush dX5_isChanged_104 (by decide +kernel) ?_
      refine r_ishr dX5_isChanged_106 ?_
      refine e_iconst dX5_isChanged_107 ?_
      refine e_callSNP (z := ML_below) dX5_isChanged_108 (List.mem_of_getElem? (i := 3) rfl) cz_L_below mk_L_below (s_below (v := (x >>> (iI 13 &&& 31))) (n := 4) (by decide) (by decide)) rfl rfl (by simp [cat_rf, cat_i, cat_l, cat_r, cat_n]) (by decide) (by assumption) (fun g hh => ?_)
      refine r_pc 111 rfl ?_
      have hb4 := blw_r (x >>> (iI 13 &&& 31)) (n := 4) (by omega)
      generalize blw (x >>> (iI 13 &&& 31)) 4 = b4 at *
      refine e_if_ne 118 dX5_isChanged_111 (by decide) ⟨by omega, by omega⟩ (fun h111 => ?_) (fun h111 => ?_)
      · refine r_pc 118 rfl ?_
        refine e_iconst dX5_isChanged_118 ?_
        refine r_istore dX5_isChanged_119 (by decide) ?_
        refine r_lv [(0, vr A 5 0), (1, vr A 4 0), (2, .int x), (3, .int (iI 16)), (4, .int (iI k)), (5, .int (iI n)), (6, .int (iI v)), (7, .int (iI 0)), (8, .int (iI 0))] rfl ?_
        exact P121 k n v 0 0 hk hn hv (by omega) (by omega) g hh
      · refine r_pc 114 rfl ?_
        refine e_iconst dX5_isChanged_114 ?_
        refine r_goto 119 dX5_isChanged_115 (by decide) ?_
        refine r_istore dX5_isChanged_119 (by decide) ?_
        refine r_lv [(0, vr A 5 0), (1, vr A 4 0), (2, .int x), (3, .int (iI 16)), (4, .int (iI k)), (5, .int (iI n)), (6, .int (iI v)), (7, .int (iI 0)), (8, .int (iI 1))] rfl ?_
        exact P121 k n v 0 1 hk hn hv (by omega) (by omega) g hh
    · refine r_pc 96 rfl ?_
      refine e_iconst dX5_isChanged_96 ?_
      refine r_goto 101 dX5_isChanged_97 (by decide) ?_
      refine r_istore dX5_isChanged_101 (by decide) ?_
      refine r_iload_n dX5_isChanged_103 rfl rfl ?_
      refine e_bipush dX5_isChanged_104 (by decide +kernel) ?_
      refine r_ishr dX5_isChanged_106 ?_
      refine e_iconst dX5_isChanged_107 ?_
      refine e_callSNP (z := ML_below) dX5_isChanged_108 (List.mem_of_getElem? (i := 3) rfl) cz_L_below mk_L_below (s_below (v := (x >>> (iI 13 &&& 31))) (n := 4) (by decide) (by decide)) rfl rfl (by simp [cat_rf, cat_i, cat_l, cat_r, cat_n]) (by decide) (by assumption) (fun g hh => ?_)
      refine r_pc 111 rfl ?_
      have hb4 := blw_r (x >>> (iI 13 &&& 31)) (n := 4) (by omega)
      generalize blw (x >>> (iI 13 &&& 31)) 4 = b4 at *
      refine e_if_ne 118 dX5_isChanged_111 (by decide) ⟨by omega, by omega⟩ (fun h111 => ?_) (fun h111 => ?_)
      · refine r_pc 118 rfl ?_
        refine e_iconst dX5_isChanged_118 ?_
        refine r_istore dX5_isChanged_119 (by decide) ?_
        refine r_lv [(0, vr A 5 0), (1, vr A 4 0), (2, .int x), (3, .int (iI 16)), (4, .int (iI k)), (5, .int (iI n)), (6, .int (iI v)), (7, .int (iI 1)), (8, .int (iI 0))] rfl ?_
        exact P121 k n v 1 0 hk hn hv (by omega) (by omega) g hh
      · refine r_pc 114 rfl ?_
        refine e_iconst dX5_isChanged_114 ?_
        refine r_goto 119 dX5_isChanged_115 (by decide) ?_
        refine r_istore dX5_isChanged_119 (by decide) ?_
        refine r_lv [(0, vr A 5 0), (1, vr A 4 0), (2, .int x), (3, .int (iI 16)), (4, .int (iI k)), (5, .int (iI n)), (6, .int (iI v)), (7, .int (iI 1)), (8, .int (iI 1))] rfl ?_
        exact P121 k n v 1 1 hk hn hv (by omega) (by omega) g hh
  refine e_start rfl (by show (lg_sl _).length ≤ 13; simp [lg_sl, cat_rf, cat_i, cat_l, cat_r, cat_n]) (lv := [(0, vr A 5 0), (1, vr A 4 0), (2, .int x), (3, .int (iI 16))]) (by simp [lv_args, cat_rf, cat_i, cat_l, cat_r, cat_n]) ?_
  refine r_iload_n dX5_isChanged_0 rfl rfl ?_
  refine e_iconst dX5_isChanged_1 ?_
  refine r_ishr dX5_isChanged_2 ?_
  refine r_aload_nO dX5_isChanged_3 rfl rfl ?_
  refine e_getI (t := 5) (k := 4) 4 dX5_isChanged_4 cb5 (by decide) mf_X5_25 (by rfl) rfl (by assumption) (lv1 _ 5 (fun _ => rfl)) ?_
  refine e_iv h5 ?_
  refine e_callSNP (z := ML_below) dX5_isChanged_7 (List.mem_of_getElem? (i := 3) rfl) cz_L_below mk_L_below (s_below (v := (x >>> (iI 4 &&& 31))) (n := N) hNp (by omega)) rfl rfl (by simp [cat_rf, cat_i, cat_l, cat_r, cat_n]) (by decide) (by assumption) (fun g hh => ?_)
  refine r_pc 10 rfl ?_
  have hk := blw_r (x >>> (iI 4 &&& 31)) (n := N) hNp
  generalize blw (x >>> (iI 4 &&& 31)) N = k at *
  have hk : Lv σ 3 k := ⟨hk.1, by show k < σ 99 3 0; omega⟩
  refine r_istore dX5_isChanged_10 (by decide) ?_
  refine r_iload_n dX5_isChanged_12 rfl rfl ?_
  refine e_bipush dX5_isChanged_13 (by decide +kernel) ?_
  refine r_ishr dX5_isChanged_15 ?_
  refine e_bipush dX5_isChanged_16 (by decide +kernel) ?_
  refine e_callSNP (z := ML_below) dX5_isChanged_18 (List.mem_of_getElem? (i := 3) rfl) cz_L_below mk_L_below (s_below (v := (x >>> (iI 8 &&& 31))) (n := 12) (by decide) (by decide)) rfl rfl (by simp [cat_rf, cat_i, cat_l, cat_r, cat_n]) (by decide) (by assumption) (fun g hh => ?_)
  refine r_pc 21 rfl ?_
  have hn := blw_r (x >>> (iI 8 &&& 31)) (n := 12) (by omega)
  generalize blw (x >>> (iI 8 &&& 31)) 12 = n at *
  refine r_istore dX5_isChanged_21 (by decide) ?_
  refine r_iload_n dX5_isChanged_23 rfl rfl ?_
  refine e_bipush dX5_isChanged_24 (by decide +kernel) ?_
  refine r_ishr dX5_isChanged_26 ?_
  refine e_bipush dX5_isChanged_27 (by decide +kernel) ?_
  refine e_callSNP (z := ML_below) dX5_isChanged_29 (List.mem_of_getElem? (i := 3) rfl) cz_L_below mk_L_below (s_below (v := (x >>> (iI 6 &&& 31))) (n := 9) (by decide) (by decide)) rfl rfl (by simp [cat_rf, cat_i, cat_l, cat_r, cat_n]) (by decide) (by assumption) (fun g hh => ?_)
  refine r_pc 32 rfl ?_
  have hc9 := blw_r (x >>> (iI 6 &&& 31)) (n := 9) (by omega)
  generalize blw (x >>> (iI 6 &&& 31)) 9 = c9 at *
  refine e_if_ne 41 dX5_isChanged_32 (by decide) ⟨by omega, by omega⟩ (fun h32 => ?_) (fun h32 => ?_)
  · refine r_pc 41 rfl ?_
    refine r_iload_n dX5_isChanged_41 rfl rfl ?_
    refine e_bipush dX5_isChanged_42 (by decide +kernel) ?_
    refine r_ishr dX5_isChanged_44 ?_
    refine e_bipush dX5_isChanged_45 (by decide +kernel) ?_
    refine e_callSNP (z := ML_below) dX5_isChanged_47 (List.mem_of_getElem? (i := 3) rfl) cz_L_below mk_L_below (s_below (v := (x >>> (iI 6 &&& 31))) (n := 9) (by decide) (by decide)) rfl rfl (by simp [cat_rf, cat_i, cat_l, cat_r, cat_n]) (by decide) (by assumption) (fun g hh => ?_)
    refine r_pc 50 rfl ?_
    have hc9b := blw_r (x >>> (iI 6 &&& 31)) (n := 9) (by omega)
    generalize blw (x >>> (iI 6 &&& 31)) 9 = c9b at *
    refine e_iconst dX5_isChanged_50 ?_
    refine e_ic_ne 71 dX5_isChanged_51 (by decide) ⟨by omega, by omega⟩ ⟨by omega, by omega⟩ (fun h51 => ?_) (fun h51 => ?_)
    · refine r_pc 71 rfl ?_
      refine r_iload_n dX5_isChanged_71 rfl rfl ?_
      refine e_iconst dX5_isChanged_72 ?_
      refine r_ishr dX5_isChanged_73 ?_
      refine e_sipush dX5_isChanged_74 (by decide +kernel) ?_
      refine e_callSNP (z := ML_below) dX5_isChanged_77 (List.mem_of_getElem? (i := 3) rfl) cz_L_below mk_L_below (s_below (v := (x >>> (iI 3 &&& 31))) (n := 300) (by decide) (by decide)) rfl rfl (by simp [cat_rf, cat_i, cat_l, cat_r, cat_n]) (by decide) (by assumption) (fun g hh => ?_)
      refine r_pc 80 rfl ?_
      have hv3 := blw_r (x >>> (iI 3 &&& 31)) (n := 300) (by omega)
      generalize blw (x >>> (iI 3 &&& 31)) 300 = v3 at *
      refine e_bipush dX5_isChanged_80 (by decide +kernel) ?_
      first | refine e_isub dX5_isChanged_82 ?_ | refine r_isub dX5_isChanged_82 ?_
      refine r_istore dX5_isChanged_83 (by decide) ?_
      refine r_lv [(0, vr A 5 0), (1, vr A 4 0), (2, .int x), (3, .int (iI 16)), (4, .int (iI k)), (5, .int (iI n)), (6, .int (iI (v3 - 100)))] rfl ?_
      exact P85 k n (v3 - 100) hk hn (by unfold VAL; omega) g hh
    · refine r_pc 54 rfl ?_
      refine e_sipush dX5_isChanged_54 (by decide +kernel) ?_
      refine r_iload_n dX5_isChanged_57 rfl rfl ?_
      refine e_iconst dX5_isChanged_58 ?_
      refine r_ishr dX5_isChanged_59 ?_
      refine r_aload_nO dX5_isChanged_60 rfl rfl ?_
      refine e_getI (t := 5) (k := 4) 4 dX5_isChanged_61 cb5 (by decide) mf_X5_25 (by rfl) rfl (by assumption) (lv1 _ 5 (fun _ => rfl)) ?_
      refine e_iv h5 ?_
      refine e_callSNP (z := ML_below) dX5_isChanged_64 (List.mem_of_getElem? (i := 3) rfl) cz_L_below mk_L_below (s_below (v := (x >>> (iI 3 &&& 31))) (n := N) hNp (by omega)) rfl rfl (by simp [cat_rf, cat_i, cat_l, cat_r, cat_n]) (by decide) (by assumption) (fun g hh => ?_)
      refine r_pc 67 rfl ?_
      have hv3 := blw_r (x >>> (iI 3 &&& 31)) (n := N) hNp
      generalize blw (x >>> (iI 3 &&& 31)) N = v3 at *
      first | refine e_iadd dX5_isChanged_67 ?_ | refine r_iadd dX5_isChanged_67 ?_
      refine r_goto 83 dX5_isChanged_68 (by decide) ?_
      refine r_istore dX5_isChanged_83 (by decide) ?_
      refine r_lv [(0, vr A 5 0), (1, vr A 4 0), (2, .int x), (3, .int (iI 16)), (4, .int (iI k)), (5, .int (iI n)), (6, .int (iI (1000 + v3)))] rfl ?_
      exact P85 k n (1000 + v3) hk hn (by unfold VAL; omega) g hh
  · refine r_pc 35 rfl ?_
    refine e_sipush dX5_isChanged_35 (by decide +kernel) ?_
    refine r_goto 83 dX5_isChanged_38 (by decide) ?_
    refine r_istore dX5_isChanged_83 (by decide) ?_
    refine r_lv [(0, vr A 5 0), (1, vr A 4 0), (2, .int x), (3, .int (iI 16)), (4, .int (iI k)), (5, .int (iI n)), (6, .int (iI (-1000)))] rfl ?_
    exact P85 k n (-1000) hk hn (by unfold VAL; omega) g hh
