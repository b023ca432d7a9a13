theorem up_cm (σ : ST) (k q : Int) : up (up σ 3 k 1 q) 3 q 4 1 = up (up σ 3 q 4 1) 3 k 1 q := by
  funext t r c
  unfold up
  by_cases h1 : t = 3 ∧ c = 4 ∧ r = q
  · rw [if_pos h1, if_neg (by omega), if_pos h1]
  · rw [if_neg h1]
    by_cases h2 : t = 3 ∧ c = 1 ∧ r = k
    · rw [if_pos h2, if_pos h2]
    · rw [if_neg h2, if_neg h2, if_neg h1]
theorem wek_nf {σ σ' : ST} {L Sc Sc' : Int → List Int} {X k : Int} {T : Int} (h : CX σ L Sc T X) (hN : NF σ Sc σ' Sc') (w : WEk σ L Sc k) : WEk σ' L Sc' k := by
  intro p e hp he hk
  have e0 : ∀ t r c, t ≠ 1 → t ≠ 2 → t ≠ 10 → t ≠ 99 → σ' t r c = σ t r c := hN.1
  have hp' : Lv σ 0 p := hp
  rw [e0 0 p 0 (by decide) (by decide) (by decide) (by decide)] at he
  have hs := ((h.wp p hp').2 e he).1
  have hs2 : σ 11 p e < σ 99 1 0 := hs.2
  rw [e0 11 p e (by decide) (by decide) (by decide) (by decide), hN.2.2.2.2.1 _ 2 hs2] at hk
  rw [e0 11 p e (by decide) (by decide) (by decide) (by decide), e0 12 p e (by decide) (by decide) (by decide) (by decide), e0 13 p e (by decide) (by decide) (by decide) (by decide), w p e hp' he hk]
  unfold eW
  rw [hN.2.2.2.2.2 _ hs2, hN.2.2.2.2.1 _ 2 hs2, wF_cg (σ := σ) (σ' := σ') _ (fun k _ => e0 15 k _ (by decide) (by decide) (by decide) (by decide))]
theorem ad_mid {σ σ1 σ2 : ST} {L Sc : Int → List Int} {T k q : Int} (h : CO σ L Sc T) (hk : Lv σ 3 k) (hD : DE σ L k σ1) (hq : -1 ≤ q ∧ q < σ 99 3 0) (hkl : k ∉ lo L q) (h2 : q < 0 ∧ σ2 = up σ1 3 k 1 q ∨ 0 ≤ q ∧ σ2 = up (up σ1 3 k 1 q) 3 q 4 1) :
    CX σ2 (adL L k q) Sc T k ∧ WEk σ2 (adL L k q) Sc k ∧ AgV (up σ 3 k 1 q) σ2 ∧ σ 99 1 0 ≤ σ2 99 1 0 ∧ (0 ≤ q → ¬ σ2 3 q 4 = 0) ∧ Lv σ2 3 k ∧ σ2 3 k 2 = σ 3 k 2 ∧ σ2 3 k 5 = σ 3 k 5 ∧ σ2 3 k 1 = q ∧ σ2 99 3 0 = σ 99 3 0 := by
  have hs := hD.1
  have hx := (h.cx k).same hs hD.2.1
  have hnk := (h.cx k).nk hk hD
  have e3 : ∀ r c, σ1 3 r c = σ 3 r c := fun r c => hs.1 3 r c (by decide) (by decide) (by decide) (by decide)
  have e99 : ∀ r c, σ1 99 r c = σ 99 r c := fun r c => hs.1 99 r c (by decide) (by decide) (by decide) (by decide)
  have hk1 : Lv σ1 3 k := hs.lv.mpr hk
  have hq1 : -1 ≤ q ∧ q < σ1 99 3 0 := by rw [e99]; exact hq
  have hle : σ 99 1 0 ≤ σ1 99 1 0 := by rw [e99]; exact Int.le_refl _
  rcases h2 with ⟨h0, rfl⟩ | ⟨h0, rfl⟩
  · obtain ⟨a, b⟩ := hx.par hk1 hnk hq1 hkl (fun z => by omega)
    refine ⟨a, fun p e x y _ => b p e x y, hs.ag.uu 3 k 1 q, hle, fun z => by omega, hk1, ?_, ?_, up_at _ _ _ _ _, e99 3 0⟩
    · rw [up_ne (by omega), e3]
    · rw [up_ne (by omega), e3]
  · have hw : ¬ up σ1 3 q 4 1 3 q 4 = 0 := by rw [up_at]; decide
    obtain ⟨a, b⟩ := (hx.u3 (x := q) (c := 4) (Or.inr rfl)).par hk1 hnk hq1 hkl (fun z => hw)
    rw [up_cm]
    refine ⟨a, fun p e x y _ => b p e x y, (hs.ag.u34 q 1).uu 3 k 1 q, hle, fun z => ?_, hk1, ?_, ?_, up_at _ _ _ _ _, e99 3 0⟩
    · rw [up_ne (by omega)]
      exact hw
    · rw [up_ne (by omega), up_ne (by omega), e3]
    · rw [up_ne (by omega), up_ne (by omega), e3]
theorem ad_end {σ σ3 : ST} {L L' Sc Sc' : Int → List Int} {T k q : Int} (h : CO σ L Sc T) (hk : Lv σ 3 k) (hx : CX σ3 L' Sc' T k) (hE : WEk σ3 L' Sc' k) (hag : AgV (up σ 3 k 1 q) σ3) (hK : WKk σ3 Sc' k) : CO σ3 L' Sc' T :=
  hx.co (wfk_ag hag (wfk_cg (σ := σ) (up_ne (by omega)) (fun _ => rfl) (fun _ => rfl) (h.wf k hk))) (wvk_ag hag (fun n hn => wvn_cg (σ := σ) rfl rfl rfl rfl rfl (CX.wvk h k hk (lv_m1 hk) n hn))) hK hE
theorem wek_u32 {σ : ST} {L Sc : Int → List Int} {k v : Int} (w : WEk σ L Sc k) : WEk (up σ 3 k 2 v) L Sc k := fun p e hp he hk => (w p e hp he hk).trans (eW_cg (σ := σ) (σ' := up σ 3 k 2 v) rfl fun _ _ => rfl).symm
theorem s_shut {κ : KK} {A : Nat → Int → Nat} {σ : ST} {g : GG} {L Sc : Int → List Int} {T : Int} {k x : Int} (hc : CO σ L Sc T) (hk : Lv σ 3 k) (hx : x = 0 ∨ x = 1) (hh : HR κ A g σ) : Spec κ MX4_shut 6 12 72 [vr A 4 0, .int (iI k), .int (iI x)] g (SQ κ A σ T (if x = 0 then up σ 3 k 3 1 else frM (up σ 3 k 3 1) k 12) (some (.int (iI (if x = 0 then 0 else sumI (frF σ k) 12))))) := by
  have hT := hc.wt
  have hL := hc.wl
  have hS := hc.ws
  have hP := hc.wp
  have hF' := hc.wf
  have hV := hc.wv
  have hkd := kd3 hk
  have hz := wt_sz hT hk
  have hs2 := hS.2.1
  have hc1 : CO (up σ 3 k 3 1) L Sc T := CX.u3 hc (Or.inl rfl)
  refine e_start rfl (by show (lg_sl _).length ≤ 4; simp [lg_sl, cat_rf, cat_i, cat_l, cat_r, cat_n]) (lv := [(0, vr A 4 0), (1, .int (iI k)), (2, .int (iI x))]) (by simp [lv_args, cat_rf, cat_i, cat_l, cat_r, cat_n]) ?_
  refine r_aload_nO dX4_shut_0 rfl rfl ?_
  refine r_iload_n dX4_shut_1 rfl rfl ?_
  refine e_callVP (z := MX4_thingAt) dX4_shut_2 ml_X4_69 cz_X4_thingAt mk_X4_thingAt ms_X4_thingAt cb4 (by decide) (s_thingAt hk hT) rfl rfl (by simp [cat_rf, cat_i, cat_l, cat_r, cat_n]) (by decide) (by assumption) (lv1 _ 4 (fun _ => rfl)) (fun g hh => ?_)
  refine r_pc 5 rfl ?_
  refine r_astore_nO dX4_shut_5 rfl (by decide) ?_
  refine r_aload_nO dX4_shut_6 rfl rfl ?_
  refine e_iconst dX4_shut_7 ?_
  refine e_putI (t := 3) (k := 3) 3 dX4_shut_8 cb3 (by decide) mf_X4_133 (by rfl) (by rfl) (narrow_01 (by omega)) (by rfl) (by rfl) rfl (by assumption) (by assumption) (fun g hh => ?_)
  refine r_iload_n dX4_shut_11 rfl rfl ?_
  refine e_if_eq 23 dX4_shut_12 (by decide) ⟨by omega, by omega⟩ (fun h12 => ?_) (fun h12 => ?_)
  · refine r_pc 23 rfl ?_
    refine e_iconst dX4_shut_23 ?_
    exact r_iret dX4_shut_24 rfl ⟨A, _, L, Sc, hh, by rw [if_pos h12], fun _ _ => rfl, hc1, by rw [if_pos h12]; exact AgV.rf' _, Int.le_refl _⟩
  · refine r_pc 15 rfl ?_
    refine r_aload_nO dX4_shut_15 rfl rfl ?_
    refine r_aload_nO dX4_shut_16 rfl rfl ?_
    refine e_callV (z := MX4_freeze) (kc' := 0) (ks' := 0) dX4_shut_17 ml_X4_144 cz_X4_freeze mk_X4_freeze ms_X4_freeze cb4 (by decide) (by rfl) (by rfl) (by simp [cat_rf, cat_i, cat_l, cat_r, cat_n]) (by decide) (by assumption) (lv1 _ 4 (fun _ => rfl)) (s_freeze (σ := up σ 3 k 3 1) hc1 hk hh) (by decide) (by decide) (fun w g hq => ?_)
    obtain ⟨A', σ', L', Sc', hh, rfl, hA, hco, hag, hle⟩ := hq
    refine r_pc 20 rfl ?_
    refine r_goto 24 dX4_shut_20 (by decide) ?_
    exact r_iret dX4_shut_24 rfl ⟨A', σ', L', Sc', hh, by rw [if_neg h12]; rfl, hA, hco, by rw [if_neg h12]; exact hag, hle⟩
theorem s_remove {κ : KK} {A : Nat → Int → Nat} {σ : ST} {g : GG} {L Sc : Int → List Int} {T : Int} {k n q : Int} (hc : CO σ L Sc T) (hk : Lv σ 3 k) (hn : 0 ≤ n ∧ n < 12) (hqn : ¬ σ 15 k n = 0 → (0 ≤ q ∧ q < σ 3 k 5) ∧ σ 14 k q = n) (hh : HR κ A g σ) : Spec κ MX4_remove 3 0 0 [vr A 4 0, .int (iI k), .int (iI n)] g (SQ κ A σ T (cI (canR σ k n) (tkF σ k q n) σ) (some (.int (iI (bI (canR σ k n)))))) := by
  have hT := hc.wt
  have hL := hc.wl
  have hS := hc.ws
  have hP := hc.wp
  have hF' := hc.wf
  have hV := hc.wv
  have hkd := kd3 hk
  have hz := wt_sz hT hk
  have hs2 := hS.2.1
  have h32 := ((hF' k hk).2.1 n hn).1
  have hm1 : -1 ≤ (-1 : Int) ∧ (-1 : Int) < cnt σ 1 := ⟨by omega, by show (-1 : Int) < σ 99 1 0; omega⟩
  refine e_start rfl (by show (lg_sl _).length ≤ 4; simp [lg_sl, cat_rf, cat_i, cat_l, cat_r, cat_n]) (lv := [(0, vr A 4 0), (1, .int (iI k)), (2, .int (iI n))]) (by simp [lv_args, cat_rf, cat_i, cat_l, cat_r, cat_n]) ?_
  refine r_aload_nO dX4_remove_0 rfl rfl ?_
  refine r_iload_n dX4_remove_1 rfl rfl ?_
  refine e_callVP (z := MX4_thingAt) dX4_remove_2 ml_X4_69 cz_X4_thingAt mk_X4_thingAt ms_X4_thingAt cb4 (by decide) (s_thingAt hk hT) rfl rfl (by simp [cat_rf, cat_i, cat_l, cat_r, cat_n]) (by decide) (by assumption) (lv1 _ 4 (fun _ => rfl)) (fun g hh => ?_)
  refine r_pc 5 rfl ?_
  refine r_astore_nO dX4_remove_5 rfl (by decide) ?_
  refine r_iload_n dX4_remove_6 rfl rfl ?_
  refine e_callSV (z := MX4_needName) dX4_remove_7 ml_X4_72 cz_X4_needName mk_X4_needName (s_needName hn) rfl rfl (by simp [cat_rf, cat_i, cat_l, cat_r, cat_n]) (by decide) (by assumption) (fun g hh => ?_)
  refine r_pc 10 rfl ?_
  refine r_aload_nO dX4_remove_10 rfl rfl ?_
  refine r_iload_n dX4_remove_11 rfl rfl ?_
  refine e_callVP (z := MX3_has) dX4_remove_12 ml_X4_118 cz_X3_has mk_X3_has ms_X3_has cb3 (by decide) (s_has hk hn h32) rfl rfl (by simp [cat_rf, cat_i, cat_l, cat_r, cat_n]) (by decide) (by assumption) (by assumption) (fun g hh => ?_)
  refine r_pc 15 rfl ?_
  refine e_ifeq_b 27 dX4_remove_15 (by decide) (fun h15 => ?_) (fun h15 => ?_)
  · refine r_pc 27 rfl ?_
    refine e_iconst dX4_remove_27 ?_
    have hcan : ¬ canR σ k n := fun z => z.1 (by omega)
    exact r_zret dX4_remove_28 rfl (narrow_01 (by omega)) (by rw [bI_f hcan]; exact sq_id hc hh (cI_f hcan))
  · refine r_pc 18 rfl ?_
    refine r_aload_nO dX4_remove_18 rfl rfl ?_
    refine r_iload_n dX4_remove_19 rfl rfl ?_
    refine e_iconst dX4_remove_20 ?_
    refine e_callVP (z := MX3_is) dX4_remove_21 ml_X4_86 cz_X3_is mk_X3_is ms_X3_is cb3 (by decide) (s_is4 hk hn h32) rfl rfl (by simp [cat_rf, cat_i, cat_l, cat_r, cat_n]) (by decide) (by assumption) (by assumption) (fun g hh => ?_)
    refine r_pc 24 rfl ?_
    refine e_ifeq_b 29 dX4_remove_24 (by decide) (fun h24 => ?_) (fun h24 => ?_)
    · refine r_pc 29 rfl ?_
      obtain ⟨hq1, hq2⟩ := hqn h15
      have hcan : canR σ k n := ⟨h15, h24⟩
      have hx1 := (tk_co (σ' := σ) hc hk hn hq1 hq2).1
      refine r_aload_nO dX4_remove_29 rfl rfl ?_
      refine r_iload_n dX4_remove_30 rfl rfl ?_
      refine e_callVV (z := MX3_takeAway) dX4_remove_31 ml_X4_122 cz_X3_takeAway mk_X3_takeAway ms_X3_takeAway cb3 (by decide) (s_takeF hk hn hT hF' hq1 hq2) rfl rfl (by simp [cat_rf, cat_i, cat_l, cat_r, cat_n]) (by decide) (by assumption) (by assumption) (fun g hh => ?_)
      refine r_pc 34 rfl ?_
      refine r_aload_nO dX4_remove_34 rfl rfl ?_
      refine e_null A 1 dX4_remove_35 ?_
      refine e_putR (t := 3) (k := 2) (t1 := 1) 2 dX4_remove_36 cb3 (by decide) mf_X4_62 (by rfl) (by rfl) (by intro z; cases z <;> rfl) (by intro z; cases z <;> rfl) (by rfl) (by rfl) (by decide) (by rfl) rfl (by assumption) (by assumption) (by assumption) (fun g hh => ?_)
      refine r_aload_nO dX4_remove_39 rfl rfl ?_
      refine r_aload_nO dX4_remove_40 rfl rfl ?_
      refine e_callV (z := MX4_dropEntries) (kc' := 0) (ks' := 0) dX4_remove_41 ml_X4_125 cz_X4_dropEntries mk_X4_dropEntries ms_X4_dropEntries cb4 (by decide) (by rfl) (by rfl) (by simp [cat_rf, cat_i, cat_l, cat_r, cat_n]) (by decide) (by assumption) (lv1 _ 4 (fun _ => rfl)) (s_drop (σ := up (tkF σ k q n) 3 k 2 (-1)) hk hx1.wt hx1.wl hx1.ws hx1.wp hh) (by decide) (by decide) (fun w g hq => ?_)
      obtain ⟨σ', hh, rfl, hD⟩ := hq
      obtain ⟨hco, hag, hle⟩ := (tk_co hc hk hn hq1 hq2).2 hD
      refine r_pc 44 rfl ?_
      refine e_iconst dX4_remove_44 ?_
      exact r_zret dX4_remove_45 rfl (narrow_01 (by omega)) ⟨A, σ', L, Sc, hh, by rw [bI_t hcan], fun _ _ => rfl, hco, by rw [cI_t hcan]; exact hag, hle⟩
    · refine r_pc 27 rfl ?_
      refine e_iconst dX4_remove_27 ?_
      have hcan : ¬ canR σ k n := fun z => z.2 h24
      exact r_zret dX4_remove_28 rfl (narrow_01 (by omega)) (by rw [bI_f hcan]; exact sq_id hc hh (cI_f hcan))
theorem s_adopt {κ : KK} {A : Nat → Int → Nat} {σ : ST} {g : GG} {L Sc : Int → List Int} {T : Int} {k q : Int} (hc : CO σ L Sc T) (hk : Lv σ 3 k) (hq : -1 ≤ q ∧ q < σ 99 3 0) (hh : HR κ A g σ) : Spec κ MX4_adopt 4 1 6 [vr A 4 0, .int (iI k), .int (iI q)] g (SQ κ A σ T (cI (σ 3 k 1 = q ∨ (σ 3 k 3 = 0 ∧ k ∉ lo L q)) (up σ 3 k 1 q) σ) (some (.int (iI (bI (σ 3 k 1 = q ∨ (σ 3 k 3 = 0 ∧ k ∉ lo L q))))))) := by
  have hT := hc.wt
  have hL := hc.wl
  have hS := hc.ws
  have hP := hc.wp
  have hF' := hc.wf
  have hV := hc.wv
  have hkd := kd3 hk
  have hz := wt_sz hT hk
  have hs2 := hS.2.1
  have hsh := (hT.2.2 k hk).2.2.2.2.1
  have hpd := (hT.2.2 k hk).2.2.1
  have hq0 := hq
  refine e_start rfl (by show (lg_sl _).length ≤ 5; simp [lg_sl, cat_rf, cat_i, cat_l, cat_r, cat_n]) (lv := [(0, vr A 4 0), (1, .int (iI k)), (2, .int (iI q))]) (by simp [lv_args, cat_rf, cat_i, cat_l, cat_r, cat_n]) ?_
  refine r_aload_nO dX4_adopt_0 rfl rfl ?_
  refine r_iload_n dX4_adopt_1 rfl rfl ?_
  refine e_callVP (z := MX4_thingAt) dX4_adopt_2 ml_X4_69 cz_X4_thingAt mk_X4_thingAt ms_X4_thingAt cb4 (by decide) (s_thingAt hk hT) rfl rfl (by simp [cat_rf, cat_i, cat_l, cat_r, cat_n]) (by decide) (by assumption) (lv1 _ 4 (fun _ => rfl)) (fun g hh => ?_)
  refine r_pc 5 rfl ?_
  refine r_astore_nO dX4_adopt_5 rfl (by decide) ?_
  refine r_aload_nO dX4_adopt_6 rfl rfl ?_
  refine r_iload_n dX4_adopt_7 rfl rfl ?_
  refine e_callVP (z := MX4_parentAt) dX4_adopt_8 ml_X4_36 cz_X4_parentAt mk_X4_parentAt ms_X4_parentAt cb4 (by decide) (s_parentAt hq hT) rfl rfl (by simp [cat_rf, cat_i, cat_l, cat_r, cat_n]) (by decide) (by assumption) (lv1 _ 4 (fun _ => rfl)) (fun g hh => ?_)
  refine r_pc 11 rfl ?_
  refine r_astoreO dX4_adopt_11 (by decide) ?_
  refine r_stw (by repeat' first | exact True.intro | refine And.intro (fun h => by first | rfl | exact cat_rf _ | exact absurd h (by decide)) ?_) ?_
  refine r_aload_nO dX4_adopt_13 rfl rfl ?_
  refine e_getR (t := 3) (k := 1) (t1 := 3) 1 dX4_adopt_14 cb3 (by decide) mf_X4_129 (by rfl) (by rfl) (by decide) rfl (by assumption) (by assumption) ?_
  refine r_aloadO dX4_adopt_17 rfl ?_
  refine e_ac_ne (t := 3) 24 dX4_adopt_19 (by decide) (by assumption) (by decide) hpd hq (fun h19 => ?_) (fun h19 => ?_)
  · refine r_pc 24 rfl ?_
    refine r_aload_nO dX4_adopt_24 rfl rfl ?_
    refine e_getI (t := 3) (k := 3) 3 dX4_adopt_25 cb3 (by decide) mf_X4_133 (by rfl) rfl (by assumption) (by assumption) ?_
    refine e_if_ne 40 dX4_adopt_28 (by decide) ⟨by omega, by omega⟩ (fun h28 => ?_) (fun h28 => ?_)
    · refine r_pc 40 rfl ?_
      refine e_iconst dX4_adopt_40 ?_
      have hok : ¬ (σ 3 k 1 = q ∨ (σ 3 k 3 = 0 ∧ k ∉ lo L q)) := fun z => z.elim h19 (fun y => h28 y.1)
      exact r_zret dX4_adopt_41 rfl (narrow_01 (by omega)) (by rw [bI_f hok]; exact sq_id hc hh (cI_f hok))
    · refine r_pc 31 rfl ?_
      refine r_aloadO dX4_adopt_31 rfl ?_
      refine r_aload_nO dX4_adopt_33 rfl rfl ?_
      refine e_callSP (z := MX4_isInLine) dX4_adopt_34 ml_X4_137 cz_X4_isInLine mk_X4_isInLine (s_isInLine hq hk hT hL) rfl rfl (by simp [cat_rf, cat_i, cat_l, cat_r, cat_n]) (by decide) (by assumption) (fun g hh => ?_)
      refine r_pc 37 rfl ?_
      refine e_ifeq_b 42 dX4_adopt_37 (by decide) (fun h37 => ?_) (fun h37 => ?_)
      · refine r_pc 42 rfl ?_
        have hok : σ 3 k 1 = q ∨ (σ 3 k 3 = 0 ∧ k ∉ lo L q) := Or.inr ⟨h28, h37⟩
        refine r_aload_nO dX4_adopt_42 rfl rfl ?_
        refine r_aload_nO dX4_adopt_43 rfl rfl ?_
        refine e_callV (z := MX4_dropEntries) (kc' := 1) (ks' := 6) dX4_adopt_44 ml_X4_125 cz_X4_dropEntries mk_X4_dropEntries ms_X4_dropEntries cb4 (by decide) (by rfl) (by rfl) (by simp [cat_rf, cat_i, cat_l, cat_r, cat_n]) (by decide) (by assumption) (lv1 _ 4 (fun _ => rfl)) (s_drop hk hT hL hS hP hh) (by decide) (by decide) (fun w g hq => ?_)
        obtain ⟨σ1, hh, rfl, hD⟩ := hq
        have hs1 := hD.1
        have hk1 : Lv σ1 3 k := hs1.lv.mpr hk
        have hq1 : -1 ≤ q ∧ q < σ1 99 3 0 := by rw [hs1.1 99 3 0 (by decide) (by decide) (by decide) (by decide)]; exact hq0
        refine r_pc 47 rfl ?_
        by_cases hqn : q < 0
        · refine r_aload_nO dX4_adopt_47 rfl rfl ?_
          refine r_aloadO dX4_adopt_48 rfl ?_
          refine e_callSV (z := MX4_hangBeneath) dX4_adopt_50 ml_X4_54 cz_X4_hangBeneath mk_X4_hangBeneath (s_hang0 (σ := σ1) hk1 hq1 hqn) rfl rfl (by simp [cat_rf, cat_i, cat_l, cat_r, cat_n]) (by decide) (by assumption) (fun g hh => ?_)
          refine r_pc 53 rfl ?_
          have hmid := ad_mid hc hk hD hq0 h37 (Or.inl ⟨hqn, rfl⟩)
          generalize hs2e : up σ1 3 k 1 q = σ2 at *
          obtain ⟨hx2, hE2, hag2, hle2, hw2, hk2, e22, e25, e21, e23⟩ := hmid
          have hT2 := hx2.wt
          have hz2 := wt_sz hT2 hk2
          have hkd2 := (hT2.2.2 k hk2).2.2.2.1
          have hq2 : -1 ≤ q ∧ q < σ2 99 3 0 := by rw [e23]; exact hq
          have hm1 : -1 ≤ (-1 : Int) ∧ (-1 : Int) < cnt σ2 1 := ⟨by omega, by show (-1 : Int) < σ2 99 1 0; have := hx2.ws.2.1; omega⟩
          refine r_aload_nO dX4_adopt_53 rfl rfl ?_
          refine e_getR (t := 3) (k := 2) (t1 := 1) 2 dX4_adopt_54 cb3 (by decide) mf_X4_62 (by rfl) (by rfl) (by decide) rfl (by assumption) (by assumption) ?_
          refine e_ifnull 84 dX4_adopt_57 (by decide) (fun h57 => ?_) (fun h57 => ?_)
          · refine r_pc 84 rfl ?_
            refine e_iconst dX4_adopt_84 ?_
            have hag3 := hag2
            exact r_zret dX4_adopt_85 rfl (narrow_01 (by omega)) ⟨A, σ2, adL L k q, Sc, hh, by rw [bI_t hok], fun _ _ => rfl, (ad_end hc hk hx2 hE2 hag2 (fun z => by omega)), by rw [cI_t hok]; exact hag3, hle2⟩
          · refine r_pc 60 rfl ?_
            refine r_aload_nO dX4_adopt_60 rfl rfl ?_
            refine r_aload_nO dX4_adopt_61 rfl rfl ?_
            refine e_getI (t := 3) (k := 5) 5 dX4_adopt_62 cb3 (by decide) mf_X4_141 (by rfl) rfl (by assumption) (by assumption) ?_
            refine e_if_ne 80 dX4_adopt_65 (by decide) ⟨by omega, by omega⟩ (fun h65 => ?_) (fun h65 => ?_)
            · refine r_pc 80 rfl ?_
              refine e_null A 1 dX4_adopt_80 ?_
              refine e_putR (t := 3) (k := 2) (t1 := 1) 2 dX4_adopt_81 cb3 (by decide) mf_X4_62 (by rfl) (by rfl) (by intro z; cases z <;> rfl) (by intro z; cases z <;> rfl) (by rfl) (by rfl) (by decide) (by rfl) rfl (by assumption) (by assumption) (by assumption) (fun g hh => ?_)
              refine e_iconst dX4_adopt_84 ?_
              have hx3 : CX (up σ2 3 k 2 (-1)) (adL L k q) Sc T k := hx2.row ((RX.rf' σ2 k).u 3 2 (-1) (by omega)) (by rw [up_at]; have := hx2.ws.2.1; omega) hz2
              have hag3 : AgV (up σ 3 k 1 q) (up σ2 3 k 2 (-1)) := hag2.u32 k (-1)
              exact r_zret dX4_adopt_85 rfl (narrow_01 (by omega)) ⟨A, _, adL L k q, Sc, hh, by rw [bI_t hok], fun _ _ => rfl, (ad_end hc hk hx3 (wek_u32 hE2) hag3 (fun z => by rw [up_at] at z; omega)), by rw [cI_t hok]; exact hag3, hle2⟩
            · refine r_pc 68 rfl ?_
              refine r_aload_nO dX4_adopt_68 rfl rfl ?_
              refine e_getF (t := 4) (k := 2) (t1 := 2) dX4_adopt_69 cb4 (by decide) mf_X4_18 (by rfl) (by rfl) (by decide) (by assumption) (lv1 _ 4 (fun _ => rfl)) ?_
              refine r_aloadO dX4_adopt_72 rfl ?_
              refine e_callV (z := MX2_rootOf) (kc' := 0) (ks' := 0) dX4_adopt_74 ml_X4_58 cz_X2_rootOf mk_X2_rootOf ms_X2_rootOf cb2 (by decide) (by rfl) (by rfl) (by simp [cat_rf, cat_i, cat_l, cat_r, cat_n]) (by decide) (by assumption) (lv1 _ 2 (fun _ => rfl)) (s_rootOf (σ := σ2) hq2 hx2.ws hh) (by decide) (by decide) (fun w g hq => ?_)
              obtain ⟨A', σ3, v, hh, rfl, hAL⟩ := hq
              obtain ⟨Sc', hx3, hN, hvd, hvs, hA⟩ := hx2.root hq2 hw2 hAL
              have e3 : vr A 3 k = vr A' 3 k := by unfold vr rf; rw [hA 3 (by decide)]
              have hk3 : Lv σ3 3 k := ⟨hk2.1, by have := hk2.2; show k < σ3 99 3 0; rw [hN.2.1]; exact this⟩
              have e3c : ∀ c, σ3 3 k c = σ2 3 k c := fun c => hN.1 3 k c (by decide) (by decide) (by decide) (by decide)
              refine r_st (show [vr A' 1 v, vr A 3 k] = [vr A' 1 v, vr A' 3 k] by rw [e3]) ?_
              refine r_pc 77 rfl ?_
              refine r_goto 81 dX4_adopt_77 (by decide) ?_
              refine e_putR (t := 3) (k := 2) (t1 := 1) 2 dX4_adopt_81 cb3 (by decide) mf_X4_62 (by rfl) (by rfl) (by intro z; cases z <;> rfl) (by intro z; cases z <;> rfl) (by rfl) (by rfl) (by decide) (by rfl) rfl (by assumption) (by assumption) (by assumption) (fun g hh => ?_)
              refine e_iconst dX4_adopt_84 ?_
              have hx4 : CX (up σ3 3 k 2 v) (adL L k q) Sc' T k := hx3.row ((RX.rf' σ3 k).u 3 2 v (by omega)) (by rw [up_at]; exact hvd) (by show 0 ≤ σ3 3 k 5 ∧ σ3 3 k 5 ≤ 12; rw [e3c]; exact hz2)
              have hag3 : AgV (up σ 3 k 1 q) (up σ3 3 k 2 v) := (hag2.tr hN.ag).u32 k v
              have hK : WKk (up σ3 3 k 2 v) Sc' k := fun z => by
                have e2 : up σ3 3 k 2 v 3 k 2 = v := up_at _ _ _ _ _
                rw [e2] at z ⊢
                obtain ⟨v1, v2, v3⟩ := hvs z
                show σ3 1 v 2 = σ3 3 k 1 ∧ σ3 1 v 5 = σ3 3 k 5 ∧ Sc' v = od _ k (σ3 3 k 5).toNat
                rw [e3c, e3c, v1, v2, v3, e21, h65]
                exact ⟨rfl, rfl, rfl⟩
              exact r_zret dX4_adopt_85 rfl (narrow_01 (by omega)) ⟨A', _, adL L k q, Sc', hh, by rw [bI_t hok], hA, (ad_end hc hk hx4 (wek_u32 (wek_nf hx2 hN hE2)) hag3 hK), by rw [cI_t hok]; exact hag3, (Int.le_trans hle2 hN.2.2.2.1)⟩
        · refine r_aload_nO dX4_adopt_47 rfl rfl ?_
          refine r_aloadO dX4_adopt_48 rfl ?_
          refine e_callSV (z := MX4_hangBeneath) dX4_adopt_50 ml_X4_54 cz_X4_hangBeneath mk_X4_hangBeneath (s_hang1 (σ := σ1) hk1 hq1 ⟨by omega, hq1.2⟩) rfl rfl (by simp [cat_rf, cat_i, cat_l, cat_r, cat_n]) (by decide) (by assumption) (fun g hh => ?_)
          refine r_pc 53 rfl ?_
          have hmid := ad_mid hc hk hD hq0 h37 (Or.inr ⟨by omega, rfl⟩)
          generalize hs2e : up (up σ1 3 k 1 q) 3 q 4 1 = σ2 at *
          obtain ⟨hx2, hE2, hag2, hle2, hw2, hk2, e22, e25, e21, e23⟩ := hmid
          have hT2 := hx2.wt
          have hz2 := wt_sz hT2 hk2
          have hkd2 := (hT2.2.2 k hk2).2.2.2.1
          have hq2 : -1 ≤ q ∧ q < σ2 99 3 0 := by rw [e23]; exact hq
          have hm1 : -1 ≤ (-1 : Int) ∧ (-1 : Int) < cnt σ2 1 := ⟨by omega, by show (-1 : Int) < σ2 99 1 0; have := hx2.ws.2.1; omega⟩
          refine r_aload_nO dX4_adopt_53 rfl rfl ?_
          refine e_getR (t := 3) (k := 2) (t1 := 1) 2 dX4_adopt_54 cb3 (by decide) mf_X4_62 (by rfl) (by rfl) (by decide) rfl (by assumption) (by assumption) ?_
          refine e_ifnull 84 dX4_adopt_57 (by decide) (fun h57 => ?_) (fun h57 => ?_)
          · refine r_pc 84 rfl ?_
            refine e_iconst dX4_adopt_84 ?_
            have hag3 := hag2
            exact r_zret dX4_adopt_85 rfl (narrow_01 (by omega)) ⟨A, σ2, adL L k q, Sc, hh, by rw [bI_t hok], fun _ _ => rfl, (ad_end hc hk hx2 hE2 hag2 (fun z => by omega)), by rw [cI_t hok]; exact hag3, hle2⟩
          · refine r_pc 60 rfl ?_
            refine r_aload_nO dX4_adopt_60 rfl rfl ?_
            refine r_aload_nO dX4_adopt_61 rfl rfl ?_
            refine e_getI (t := 3) (k := 5) 5 dX4_adopt_62 cb3 (by decide) mf_X4_141 (by rfl) rfl (by assumption) (by assumption) ?_
            refine e_if_ne 80 dX4_adopt_65 (by decide) ⟨by omega, by omega⟩ (fun h65 => ?_) (fun h65 => ?_)
            · refine r_pc 80 rfl ?_
              refine e_null A 1 dX4_adopt_80 ?_
              refine e_putR (t := 3) (k := 2) (t1 := 1) 2 dX4_adopt_81 cb3 (by decide) mf_X4_62 (by rfl) (by rfl) (by intro z; cases z <;> rfl) (by intro z; cases z <;> rfl) (by rfl) (by rfl) (by decide) (by rfl) rfl (by assumption) (by assumption) (by assumption) (fun g hh => ?_)
              refine e_iconst dX4_adopt_84 ?_
              have hx3 : CX (up σ2 3 k 2 (-1)) (adL L k q) Sc T k := hx2.row ((RX.rf' σ2 k).u 3 2 (-1) (by omega)) (by rw [up_at]; have := hx2.ws.2.1; omega) hz2
              have hag3 : AgV (up σ 3 k 1 q) (up σ2 3 k 2 (-1)) := hag2.u32 k (-1)
              exact r_zret dX4_adopt_85 rfl (narrow_01 (by omega)) ⟨A, _, adL L k q, Sc, hh, by rw [bI_t hok], fun _ _ => rfl, (ad_end hc hk hx3 (wek_u32 hE2) hag3 (fun z => by rw [up_at] at z; omega)), by rw [cI_t hok]; exact hag3, hle2⟩
            · refine r_pc 68 rfl ?_
              refine r_aload_nO dX4_adopt_68 rfl rfl ?_
              refine e_getF (t := 4) (k := 2) (t1 := 2) dX4_adopt_69 cb4 (by decide) mf_X4_18 (by rfl) (by rfl) (by decide) (by assumption) (lv1 _ 4 (fun _ => rfl)) ?_
              refine r_aloadO dX4_adopt_72 rfl ?_
              refine e_callV (z := MX2_rootOf) (kc' := 0) (ks' := 0) dX4_adopt_74 ml_X4_58 cz_X2_rootOf mk_X2_rootOf ms_X2_rootOf cb2 (by decide) (by rfl) (by rfl) (by simp [cat_rf, cat_i, cat_l, cat_r, cat_n]) (by decide) (by assumption) (lv1 _ 2 (fun _ => rfl)) (s_rootOf (σ := σ2) hq2 hx2.ws hh) (by decide) (by decide) (fun w g hq => ?_)
              obtain ⟨A', σ3, v, hh, rfl, hAL⟩ := hq
              obtain ⟨Sc', hx3, hN, hvd, hvs, hA⟩ := hx2.root hq2 hw2 hAL
              have e3 : vr A 3 k = vr A' 3 k := by unfold vr rf; rw [hA 3 (by decide)]
              have hk3 : Lv σ3 3 k := ⟨hk2.1, by have := hk2.2; show k < σ3 99 3 0; rw [hN.2.1]; exact this⟩
              have e3c : ∀ c, σ3 3 k c = σ2 3 k c := fun c => hN.1 3 k c (by decide) (by decide) (by decide) (by decide)
              refine r_st (show [vr A' 1 v, vr A 3 k] = [vr A' 1 v, vr A' 3 k] by rw [e3]) ?_
              refine r_pc 77 rfl ?_
              refine r_goto 81 dX4_adopt_77 (by decide) ?_
              refine e_putR (t := 3) (k := 2) (t1 := 1) 2 dX4_adopt_81 cb3 (by decide) mf_X4_62 (by rfl) (by rfl) (by intro z; cases z <;> rfl) (by intro z; cases z <;> rfl) (by rfl) (by rfl) (by decide) (by rfl) rfl (by assumption) (by assumption) (by assumption) (fun g hh => ?_)
              refine e_iconst dX4_adopt_84 ?_
              have hx4 : CX (up σ3 3 k 2 v) (adL L k q) Sc' T k := hx3.row ((RX.rf' σ3 k).u 3 2 v (by omega)) (by rw [up_at]; exact hvd) (by show 0 ≤ σ3 3 k 5 ∧ σ3 3 k 5 ≤ 12; rw [e3c]; exact hz2)
              have hag3 : AgV (up σ 3 k 1 q) (up σ3 3 k 2 v) := (hag2.tr hN.ag).u32 k v
              have hK : WKk (up σ3 3 k 2 v) Sc' k := fun z => by
                have e2 : up σ3 3 k 2 v 3 k 2 = v := up_at _ _ _ _ _
                rw [e2] at z ⊢
                obtain ⟨v1, v2, v3⟩ := hvs z
                show σ3 1 v 2 = σ3 3 k 1 ∧ σ3 1 v 5 = σ3 3 k 5 ∧ Sc' v = od _ k (σ3 3 k 5).toNat
                rw [e3c, e3c, v1, v2, v3, e21, h65]
                exact ⟨rfl, rfl, rfl⟩
              exact r_zret dX4_adopt_85 rfl (narrow_01 (by omega)) ⟨A', _, adL L k q, Sc', hh, by rw [bI_t hok], hA, (ad_end hc hk hx4 (wek_u32 (wek_nf hx2 hN hE2)) hag3 hK), by rw [cI_t hok]; exact hag3, (Int.le_trans hle2 hN.2.2.2.1)⟩
      · refine r_pc 40 rfl ?_
        refine e_iconst dX4_adopt_40 ?_
        have hok : ¬ (σ 3 k 1 = q ∨ (σ 3 k 3 = 0 ∧ k ∉ lo L q)) := fun z => z.elim h19 (fun y => y.2 h37)
        exact r_zret dX4_adopt_41 rfl (narrow_01 (by omega)) (by rw [bI_f hok]; exact sq_id hc hh (cI_f hok))
  · refine r_pc 22 rfl ?_
    refine e_iconst dX4_adopt_22 ?_
    have hok : σ 3 k 1 = q ∨ (σ 3 k 3 = 0 ∧ k ∉ lo L q) := Or.inl h19
    exact r_zret dX4_adopt_23 rfl (narrow_01 (by omega)) (by rw [bI_t hok]; exact sq_id hc hh (by rw [cI_t hok, ← h19, up_sm]))
