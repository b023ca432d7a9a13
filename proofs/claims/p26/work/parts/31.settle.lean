/-- the answer tells of the state then -/
def SZ (κ : KK) (A : Nat → Int → Nat) (σ : ST) (T : Int) (τ : ST) (r : ST → Option Value) : Option Value → GG → Prop := fun w h => ∃ (A' : Nat → Int → Nat) (σ' : ST) (L' Sc' : Int → List Int), HR κ A' h σ' ∧ w = r σ' ∧ (∀ t, t ≠ 1 → A' t = A t) ∧ CO σ' L' Sc' T ∧ AgV τ σ' ∧ σ 99 1 0 ≤ σ' 99 1 0
/-- a Shape for a Thing, so many fields on -/
def STL (A : Nat → Int → Nat) (σ : ST) (L Sc : Int → List Int) (T k m : Int) : (Nat → Int → Nat) → ST → Int → Prop := fun A' σ' v => (∀ t, t ≠ 1 → A' t = A t) ∧ (-1 ≤ v ∧ v < σ' 99 1 0) ∧ ∃ Sc', CO σ' L Sc' T ∧ NF σ Sc σ' Sc' ∧ (0 ≤ v → Sc' v = od σ k m.toNat ∧ σ' 1 v 2 = σ 3 k 1 ∧ σ' 1 v 5 = m)
theorem vr_eq {A A' : Nat → Int → Nat} (h : ∀ t, t ≠ 1 → A' t = A t) {t : Nat} (ht : t ≠ 1) (v : Int) : vr A t v = vr A' t v := by unfold vr rf; rw [h t ht]
theorem st_co {A A' : Nat → Int → Nat} {σ σ' : ST} {L Sc : Int → List Int} {T k v : Int} (h : CO σ L Sc T) (hk : Lv σ 3 k) (hS : STL A σ L Sc T k (σ 3 k 5) A' σ' v) : ∃ Sc', CO (up σ' 3 k 2 v) L Sc' T ∧ AgV σ (up σ' 3 k 2 v) ∧ σ 99 1 0 ≤ up σ' 3 k 2 v 99 1 0 := by
  obtain ⟨hA, hvd, Sc', hco, hN, hv⟩ := hS
  have e3 : ∀ c, σ' 3 k c = σ 3 k c := fun c => hN.1 3 k c (by decide) (by decide) (by decide) (by decide)
  have hk' : Lv σ' 3 k := ⟨hk.1, by have := hk.2; show k < σ' 99 3 0; rw [hN.2.1]; exact this⟩
  have hz := wt_sz hco.wt hk'
  have hag : AgV σ (up σ' 3 k 2 v) := hN.ag.u32 k v
  have hx := (hco.cx k).row (σ' := up σ' 3 k 2 v) ((RX.rf' σ' k).u 3 2 v (by omega)) (by rw [up_at]; exact hvd) hz
  refine ⟨Sc', hx.co (wfk_ag hag (h.wf k hk)) (wvk_ag hag (CX.wvk h k hk (lv_m1 hk))) (fun z => ?_) (wek_u32 (fun p e a b _ => hco.we p e a b)), hag, hN.2.2.2.1⟩
  have e2 : up σ' 3 k 2 v 3 k 2 = v := up_at _ _ _ _ _
  rw [e2] at z ⊢
  obtain ⟨v1, v2, v3⟩ := hv z
  show σ' 1 v 2 = σ' 3 k 1 ∧ σ' 1 v 5 = σ' 3 k 5 ∧ Sc' v = od _ k (σ' 3 k 5).toNat
  rw [e3, e3, v1, v2, v3]
  exact ⟨rfl, rfl, (od_cg (σ := σ) (σ' := up σ' 3 k 2 v) (fun j => hN.1 14 k j (by decide) (by decide) (by decide) (by decide)) _).symm⟩
theorem s_settledShape {κ : KK} {A : Nat → Int → Nat} {σ : ST} {g : GG} {L Sc : Int → List Int} {T : Int} {k : Int} (hc : CO σ L Sc T) (hk : Lv σ 3 k) (h8 : σ 3 k 5 ≤ 8) (hh : HR κ A g σ) : Spec κ MX4_settledShape 5 9 54 [vr A 4 0, vr A 3 k] g (BQ κ (STL A σ L Sc T k (σ 3 k 5))) := by
  have hT := hc.wt
  have hL := hc.wl
  have hS := hc.ws
  have hP := hc.wp
  have hF' := hc.wf
  have hV := hc.wv
  have hkd := kd3 hk
  have hz := wt_sz hT hk
  have hs2 := hS.2.1
  have hpd := (hT.2.2 k hk).2.2.1
  have loop : ∀ (m : Nat) (j v : Int) (A' : Nat → Int → Nat) (σ' : ST), 0 ≤ j → j + (m : Int) = σ 3 k 5 → STL A σ L Sc T k j A' σ' v → ∀ g, HR κ A' g σ' → Wp κ MX4_settledShape 5 m (6 * m) 14 [(0, vr A' 4 0), (1, vr A' 3 k), (2, vr A' 1 v), (3, .int (iI j))] [] g (BQ κ (STL A σ L Sc T k (σ 3 k 5))) := by
    intro m
    induction m with
    | zero =>
      intro j v A' σ' hj0 hjm hst g hh
      have hst0 := hst
      obtain ⟨hA, hvd, Sc', hco, hN, hv⟩ := hst
      have e3 : ∀ c, σ' 3 k c = σ 3 k c := fun c => hN.1 3 k c (by decide) (by decide) (by decide) (by decide)
      have e14 : ∀ c, σ' 14 k c = σ 14 k c := fun c => hN.1 14 k c (by decide) (by decide) (by decide) (by decide)
      have e15 : ∀ c, σ' 15 k c = σ 15 k c := fun c => hN.1 15 k c (by decide) (by decide) (by decide) (by decide)
      have hk' : Lv σ' 3 k := ⟨hk.1, by have := hk.2; show k < σ' 99 3 0; rw [hN.2.1]; exact this⟩
      obtain rfl : j = σ 3 k 5 := by omega
      refine r_iload_n dX4_settledShape_14 rfl rfl ?_
      refine r_aload_nO dX4_settledShape_15 rfl rfl ?_
      refine e_getI (t := 3) (k := 5) 5 dX4_settledShape_16 cb3 (by decide) mf_X4_141 (by rfl) rfl (by assumption) (by assumption) ?_
      refine e_iv (e3 5) ?_
      refine e_ic_ge 54 dX4_settledShape_19 (by decide) ⟨by omega, by omega⟩ ⟨by omega, by omega⟩ (fun h19 => ?_) (fun h19 => by exfalso; omega)
      refine r_pc 54 rfl ?_
      refine r_aload_nO dX4_settledShape_54 rfl rfl ?_
      exact r_aret dX4_settledShape_55 rfl (Or.inl ⟨_, rfl⟩) ⟨A', σ', v, hh, rfl, hst0⟩
    | succ m ih =>
      intro j v A' σ' hj0 hjm hst g hh
      have hst0 := hst
      obtain ⟨hA, hvd, Sc', hco, hN, hv⟩ := hst
      have e3 : ∀ c, σ' 3 k c = σ 3 k c := fun c => hN.1 3 k c (by decide) (by decide) (by decide) (by decide)
      have e14 : ∀ c, σ' 14 k c = σ 14 k c := fun c => hN.1 14 k c (by decide) (by decide) (by decide) (by decide)
      have e15 : ∀ c, σ' 15 k c = σ 15 k c := fun c => hN.1 15 k c (by decide) (by decide) (by decide) (by decide)
      have hk' : Lv σ' 3 k := ⟨hk.1, by have := hk.2; show k < σ' 99 3 0; rw [hN.2.1]; exact this⟩
      have ho := ((hF' k hk).1 j (by omega)).1
      have h32 := ((hF' k hk).2.1 (σ 14 k j) ho).1
      have h15 : 0 ≤ σ 15 k (σ 14 k j) ∧ σ 15 k (σ 14 k j) ≤ 15 := by unfold TrOk at h32; omega
      refine r_iload_n dX4_settledShape_14 rfl rfl ?_
      refine r_aload_nO dX4_settledShape_15 rfl rfl ?_
      refine e_getI (t := 3) (k := 5) 5 dX4_settledShape_16 cb3 (by decide) mf_X4_141 (by rfl) rfl (by assumption) (by assumption) ?_
      refine e_iv (e3 5) ?_
      refine e_ic_ge 54 dX4_settledShape_19 (by decide) ⟨by omega, by omega⟩ ⟨by omega, by omega⟩ (fun h19 => by exfalso; omega) (fun h19 => ?_)
      refine r_pc 22 rfl ?_
      refine r_aload_nO dX4_settledShape_22 rfl rfl ?_
      refine e_getF (t := 3) (k := 6) (t1 := 14) dX4_settledShape_23 cb3 (by decide) mf_X4_300 (by rfl) (by rfl) (by decide) (by assumption) (by assumption) ?_
      refine r_iload_n dX4_settledShape_26 rfl rfl ?_
      refine e_iald (t := 14) dX4_settledShape_27 (by decide) (by decide) (by rfl) (by intro _; rfl) (by assumption) (by first | assumption | exact lv_as 3 (by assumption) (by rfl)) (by have e : ln 14 = 12 := rfl; omega) ?_
      refine e_iv (e14 j) ?_
      refine r_istore dX4_settledShape_28 (by decide) ?_
      refine r_aload_nO dX4_settledShape_30 rfl rfl ?_
      refine e_getF (t := 4) (k := 2) (t1 := 2) dX4_settledShape_31 cb4 (by decide) mf_X4_18 (by rfl) (by rfl) (by decide) (by assumption) (lv1 _ 4 (fun _ => rfl)) ?_
      refine r_aload_nO dX4_settledShape_34 rfl rfl ?_
      refine r_iload dX4_settledShape_35 rfl ?_
      refine r_aload_nO dX4_settledShape_37 rfl rfl ?_
      refine e_getF (t := 3) (k := 7) (t1 := 15) dX4_settledShape_38 cb3 (by decide) mf_X4_290 (by rfl) (by rfl) (by decide) (by assumption) (by assumption) ?_
      refine r_iload dX4_settledShape_41 rfl ?_
      refine e_iald (t := 15) dX4_settledShape_43 (by decide) (by decide) (by rfl) (by intro _; rfl) (by assumption) (by first | assumption | exact lv_as 3 (by assumption) (by rfl)) (by have e : ln 15 = 12 := rfl; omega) ?_
      refine e_iv (e15 _) ?_
      refine e_callV (z := MX2_beneath) (kc' := m) (ks' := (6*m)) dX4_settledShape_44 ml_X4_296 cz_X2_beneath mk_X2_beneath ms_X2_beneath cb2 (by decide) (by rfl) (by rfl) (by simp [cat_rf, cat_i, cat_l, cat_r, cat_n]) (by decide) (by assumption) (lv1 _ 2 (fun _ => rfl)) (s_beneath (σ := σ') hvd ho h15 hco.ws hh) (by omega) (by omega) (fun w g hq => ?_)
      obtain ⟨A2, σ2, u, hh, rfl, hAL, hu5⟩ := hq
      obtain ⟨Sc2, hc2, hN2, hud, hus, hA2⟩ := CX.ben hco hvd ho h15 hAL hu5
      have f3 : vr A' 3 k = vr A2 3 k := vr_eq hA2 (by decide) k
      have f4 : vr A' 4 0 = vr A2 4 0 := vr_eq hA2 (by decide) 0
      rw [f3, f4]
      refine r_pc 47 rfl ?_
      refine r_astore_nO dX4_settledShape_47 rfl (by decide) ?_
      refine r_stw (by repeat' first | exact True.intro | refine And.intro (fun h => by first | rfl | exact cat_rf _ | exact absurd h (by decide)) ?_) ?_
      refine e_iinc dX4_settledShape_48 rfl (by decide) ?_
      refine r_stw (by repeat' first | exact True.intro | refine And.intro (fun h => by first | rfl | exact cat_rf _ | exact absurd h (by decide)) ?_) ?_
      refine r_goto 14 dX4_settledShape_51 (by decide) ?_
      refine r_lv [(0, vr A2 4 0), (1, vr A2 3 k), (2, vr A2 1 u), (3, .int (iI (j + 1)))] rfl ?_
      refine ih (j + 1) u A2 σ2 (by omega) (by omega) ⟨fun t a => (hA2 t a).trans (hA t a), hud, Sc2, hc2, hN.tr hN2, fun z => ?_⟩ g hh
      obtain ⟨z0, z1, z2, z3⟩ := hus z
      obtain ⟨y1, y2, y3⟩ := hv z0
      rw [z1, z2, z3, y1, y2, y3, show (j + 1).toNat = j.toNat + 1 by omega, od, Int.toNat_of_nonneg hj0]
      exact ⟨rfl, rfl, rfl⟩
  refine e_start rfl (by show (lg_sl _).length ≤ 5; simp [lg_sl, cat_rf, cat_i, cat_l, cat_r, cat_n]) (lv := [(0, vr A 4 0), (1, vr A 3 k)]) (by simp [lv_args, cat_rf, cat_i, cat_l, cat_r, cat_n]) ?_
  refine r_aload_nO dX4_settledShape_0 rfl rfl ?_
  refine e_getF (t := 4) (k := 2) (t1 := 2) dX4_settledShape_1 cb4 (by decide) mf_X4_18 (by rfl) (by rfl) (by decide) (by assumption) (lv1 _ 4 (fun _ => rfl)) ?_
  refine r_aload_nO dX4_settledShape_4 rfl rfl ?_
  refine e_getR (t := 3) (k := 1) (t1 := 3) 1 dX4_settledShape_5 cb3 (by decide) mf_X4_129 (by rfl) (by rfl) (by decide) rfl (by assumption) (by assumption) ?_
  refine e_callV (z := MX2_rootOf) (kc' := (σ 3 k 5).toNat) (ks' := (6*(σ 3 k 5).toNat)) dX4_settledShape_8 ml_X4_58 cz_X2_rootOf mk_X2_rootOf ms_X2_rootOf cb2 (by decide) (by rfl) (by rfl) (by simp [cat_rf, cat_i, cat_l, cat_r, cat_n]) (by decide) (by assumption) (lv1 _ 2 (fun _ => rfl)) (s_rootOf hpd hS hh) (by omega) (by omega) (fun w g hq => ?_)
  obtain ⟨A', σ', u, hh, rfl, hAL⟩ := hq
  obtain ⟨Sc', hc2, hN, hud, hus, hA⟩ := CX.root hc hpd (CX.ww hc |>.1 k hk) hAL
  have f3 : vr A 3 k = vr A' 3 k := vr_eq hA (by decide) k
  have f4 : vr A 4 0 = vr A' 4 0 := vr_eq hA (by decide) 0
  rw [f3, f4]
  refine r_pc 11 rfl ?_
  refine r_astore_nO dX4_settledShape_11 rfl (by decide) ?_
  refine r_stw (by repeat' first | exact True.intro | refine And.intro (fun h => by first | rfl | exact cat_rf _ | exact absurd h (by decide)) ?_) ?_
  refine e_iconst dX4_settledShape_12 ?_
  refine r_istore_n dX4_settledShape_13 rfl (by decide) ?_
  refine r_stw (by repeat' first | exact True.intro | refine And.intro (fun h => by first | rfl | exact cat_rf _ | exact absurd h (by decide)) ?_) ?_
  refine r_lv [(0, vr A' 4 0), (1, vr A' 3 k), (2, vr A' 1 u), (3, .int (iI 0))] rfl ?_
  refine loop (σ 3 k 5).toNat 0 u A' σ' (by omega) (by omega) ⟨hA, hud, Sc', hc2, hN, fun z => ?_⟩ g hh
  obtain ⟨z1, z2, z3⟩ := hus z
  exact ⟨z1, z2, z3⟩
theorem s_settle {κ : KK} {A : Nat → Int → Nat} {σ : ST} {g : GG} {L Sc : Int → List Int} {T : Int} {k : Int} (hc : CO σ L Sc T) (hk : Lv σ 3 k) (hh : HR κ A g σ) : Spec κ MX4_settle 6 9 54 [vr A 4 0, .int (iI k)] g (SZ κ A σ T σ (fun σ' => some (.int (iI (bI (0 ≤ σ' 3 k 2)))))) := by
  have hT := hc.wt
  have hL := hc.wl
  have hS := hc.ws
  have hP := hc.wp
  have hF' := hc.wf
  have hV := hc.wv
  have hkd := kd3 hk
  have hz := wt_sz hT hk
  have hs2 := hS.2.1
  refine e_start rfl (by show (lg_sl _).length ≤ 3; simp [lg_sl, cat_rf, cat_i, cat_l, cat_r, cat_n]) (lv := [(0, vr A 4 0), (1, .int (iI k))]) (by simp [lv_args, cat_rf, cat_i, cat_l, cat_r, cat_n]) ?_
  refine r_aload_nO dX4_settle_0 rfl rfl ?_
  refine r_iload_n dX4_settle_1 rfl rfl ?_
  refine e_callVP (z := MX4_thingAt) dX4_settle_2 ml_X4_69 cz_X4_thingAt mk_X4_thingAt ms_X4_thingAt cb4 (by decide) (s_thingAt hk hT) rfl rfl (by simp [cat_rf, cat_i, cat_l, cat_r, cat_n]) (by decide) (by assumption) (lv1 _ 4 (fun _ => rfl)) (fun g hh => ?_)
  refine r_pc 5 rfl ?_
  refine r_astore_nO dX4_settle_5 rfl (by decide) ?_
  refine r_aload_nO dX4_settle_6 rfl rfl ?_
  refine e_callSP (z := MX4_canSettle) dX4_settle_7 ml_X4_148 cz_X4_canSettle mk_X4_canSettle (s_canSettle hk hz) rfl rfl (by simp [cat_rf, cat_i, cat_l, cat_r, cat_n]) (by decide) (by assumption) (fun g hh => ?_)
  refine r_pc 10 rfl ?_
  refine e_ifeq_b 22 dX4_settle_10 (by decide) (fun h10 => ?_) (fun h10 => ?_)
  · refine r_pc 22 rfl ?_
    refine r_aload_nO dX4_settle_22 rfl rfl ?_
    refine e_getR (t := 3) (k := 2) (t1 := 1) 2 dX4_settle_23 cb3 (by decide) mf_X4_62 (by rfl) (by rfl) (by decide) rfl (by assumption) (by assumption) ?_
    refine e_ifnull 33 dX4_settle_26 (by decide) (fun h26 => ?_) (fun h26 => ?_)
    · refine r_pc 33 rfl ?_
      refine e_iconst dX4_settle_33 ?_
      exact r_zret dX4_settle_34 rfl (narrow_01 (by omega)) ⟨A, σ, L, Sc, hh, by show some _ = some (Value.int (iI (bI _))); rw [bI_f (by omega)], fun _ _ => rfl, hc, AgV.rf' σ, Int.le_refl _⟩
    · refine r_pc 29 rfl ?_
      refine e_iconst dX4_settle_29 ?_
      refine r_goto 34 dX4_settle_30 (by decide) ?_
      exact r_zret dX4_settle_34 rfl (narrow_01 (by omega)) ⟨A, σ, L, Sc, hh, by show some _ = some (Value.int (iI (bI _))); rw [bI_t (by omega)], fun _ _ => rfl, hc, AgV.rf' σ, Int.le_refl _⟩
  · refine r_pc 13 rfl ?_
    refine r_aload_nO dX4_settle_13 rfl rfl ?_
    refine r_aload_nO dX4_settle_14 rfl rfl ?_
    refine r_aload_nO dX4_settle_15 rfl rfl ?_
    refine e_callV (z := MX4_settledShape) (kc' := 0) (ks' := 0) dX4_settle_16 ml_X4_152 cz_X4_settledShape mk_X4_settledShape ms_X4_settledShape cb4 (by decide) (by rfl) (by rfl) (by simp [cat_rf, cat_i, cat_l, cat_r, cat_n]) (by decide) (by assumption) (lv1 _ 4 (fun _ => rfl)) (s_settledShape hc hk h10.2 hh) (by decide) (by decide) (fun w g hq => ?_)
    obtain ⟨A', σ', v, hh, rfl, hst⟩ := hq
    obtain ⟨Sc', hco, hag, hle⟩ := st_co hc hk hst
    obtain ⟨hA, hvd, Sc2, hc2, hN, hv⟩ := hst
    have f3 : vr A 3 k = vr A' 3 k := vr_eq hA (by decide) k
    have hk' : Lv σ' 3 k := ⟨hk.1, by have := hk.2; show k < σ' 99 3 0; rw [hN.2.1]; exact this⟩
    refine r_st (show [vr A' 1 v, vr A 3 k] = [vr A' 1 v, vr A' 3 k] by rw [f3]) ?_
    first | rw [f3] | rw [show va_rf (rf A 3 k) = vr A' 3 k from f3]
    have ev : up σ' 3 k 2 v 3 k 2 = v := up_at _ _ _ _ _
    refine r_pc 19 rfl ?_
    refine e_putR (t := 3) (k := 2) (t1 := 1) 2 dX4_settle_19 cb3 (by decide) mf_X4_62 (by rfl) (by rfl) (by intro z; cases z <;> rfl) (by intro z; cases z <;> rfl) (by rfl) (by rfl) (by decide) (by rfl) rfl (by assumption) (by assumption) (by assumption) (fun g hh => ?_)
    refine r_aload_nO dX4_settle_22 rfl rfl ?_
    refine e_getR (t := 3) (k := 2) (t1 := 1) 2 dX4_settle_23 cb3 (by decide) mf_X4_62 (by rfl) (by rfl) (by decide) rfl (by assumption) (by assumption) ?_
    refine e_ifnull 33 dX4_settle_26 (by decide) (fun h26 => ?_) (fun h26 => ?_)
    · refine r_pc 33 rfl ?_
      refine e_iconst dX4_settle_33 ?_
      exact r_zret dX4_settle_34 rfl (narrow_01 (by omega)) ⟨A', _, L, Sc', hh, by show some _ = some (Value.int (iI (bI _))); rw [bI_f (by omega)], hA, hco, hag, hle⟩
    · refine r_pc 29 rfl ?_
      refine e_iconst dX4_settle_29 ?_
      refine r_goto 34 dX4_settle_30 (by decide) ?_
      exact r_zret dX4_settle_34 rfl (narrow_01 (by omega)) ⟨A', _, L, Sc', hh, by show some _ = some (Value.int (iI (bI _))); rw [bI_t (by omega)], hA, hco, hag, hle⟩
