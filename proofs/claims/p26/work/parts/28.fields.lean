theorem Wp.widen {κ : KK} {y : MY} {d kc ks kc' ks' pc : Nat} {lv : List (Nat × Value)} {st : List Value} {g : GG} {Q : Option Value → GG → Prop} (h1 : kc ≤ kc') (h2 : ks ≤ ks') (k : Wp κ y d kc ks pc lv st g Q) : Wp κ y d kc' ks' pc lv st g Q := fun p l e R s m args below meth c H locs cells slots mc ms ls M hR a b => k p l e R s m args below meth c H locs cells slots mc ms ls M hR (by omega) (by omega)
theorem fr_co {A A' : Nat → Int → Nat} {σ σ' : ST} {L Sc : Int → List Int} {T k n t : Int} {r : Option Value} (h : CO σ L Sc T) (hk : Lv σ 3 k) (hn : 0 ≤ n ∧ n < 12) (h19 : σ 15 k n = 1 ∨ σ 15 k n = 9) (et : t = σ 15 k n + 4) (hp : PTs A σ L k n t r A' σ') :
    ∃ Sc', CO σ' L Sc' T ∧ AgV (up σ 15 k n t) σ' ∧ σ 99 1 0 ≤ σ' 99 1 0 ∧ (∀ t', t' ≠ 1 → A' t' = A t') ∧ Lv σ' 3 k := by
  have htt : t = 5 ∨ t = 13 := by omega
  obtain ⟨Sc', hx, hF, hK, hE, hag, hle, hA⟩ := pt_base h hk hn (by unfold TrOk; omega) (by omega) hp
  have hag2 : AgV (up σ 15 k n t) σ' := by
    rw [putT_h (by omega)] at hag
    exact hag
  refine ⟨Sc', hx.co hF (fun m hm => ?_) hK hE, hag2, hle, hA, ⟨hk.1, by rw [show cnt σ' 3 = σ' 99 3 0 from rfl, hag2.2.2.1]; exact hk.2⟩⟩
  have w := CX.wvk h k hk (lv_m1 hk) m hm
  have e : ∀ t', vt t' = true → t' ≠ 15 → σ' t' k m = σ t' k m := fun t' a a2 => by
    rw [hag2.1 t' k m a, up_ne (fun q => a2 q.1)]
  have e15 : σ' 15 k m = if m = n then t else σ 15 k m := by
    rw [hag2.1 15 k m rfl, up_15]
    by_cases z : m = n
    · rw [if_pos ⟨z, rfl⟩, if_pos z]
    · rw [if_neg (fun y => z y.1), if_neg z]
  obtain ⟨w1, w2, w3, w4, w5, w6⟩ := w
  unfold WVn
  rw [e 16 rfl (by decide), e 17 rfl (by decide), e 18 rfl (by decide), e 19 rfl (by decide), e15]
  refine ⟨w1, w2, w3, w4, fun q => ?_, fun q q2 => ?_⟩
  · by_cases z : m = n
    · rw [if_pos z] at q
      unfold isPr at q
      omega
    · rw [if_neg z] at q
      exact w5 q
  · by_cases z : m = n
    · rw [z] at w6 ⊢
      exact w6 (by omega) (by unfold isPr; omega)
    · rw [if_neg z] at q q2
      exact w6 q q2
def frT (t : Int) : Int := if t = 1 then 5 else if t = 9 then 13 else t
def frM (σ : ST) (k m : Int) : ST := fun t r c => if t = 15 ∧ r = k ∧ 0 ≤ c ∧ c < m then frT (σ 15 k c) else σ t r c
def frF (σ : ST) (k : Int) : Int → Int := fun j => if σ 15 k j = 1 ∨ σ 15 k j = 9 then 1 else 0
theorem frM_0 (σ : ST) (k : Int) : frM σ k 0 = σ := by
  funext t r c
  exact if_neg (by omega)
theorem frM_at (σ : ST) (k j : Int) : frM σ k j 15 k j = σ 15 k j := if_neg (by omega)
theorem frM_s {σ : ST} {k j : Int} (h : 0 ≤ j) : up (frM σ k j) 15 k j (frT (σ 15 k j)) = frM σ k (j + 1) := by
  funext t r c
  unfold up frM
  by_cases h1 : t = 15 ∧ r = k
  · obtain ⟨rfl, rfl⟩ := h1
    by_cases h2 : c = j
    · subst h2
      rw [if_pos ⟨rfl, rfl, rfl⟩, if_pos ⟨rfl, rfl, h, by omega⟩]
    · rw [if_neg (fun q => h2 q.2.1)]
      by_cases h3 : 0 ≤ c ∧ c < j
      · rw [if_pos ⟨rfl, rfl, h3⟩, if_pos ⟨rfl, rfl, by omega, by omega⟩]
      · rw [if_neg (fun q => h3 q.2.2), if_neg (by omega)]
  · rw [if_neg (fun q => h1 ⟨q.1, q.2.2⟩), if_neg (fun q => h1 ⟨q.1, q.2.1⟩), if_neg (fun q => h1 ⟨q.1, q.2.1⟩)]
theorem frT_id {t : Int} (h : ¬ (t = 1 ∨ t = 9)) : frT t = t := by unfold frT; rw [if_neg (by omega), if_neg (by omega)]
theorem frT_4 {t : Int} (h : t = 1 ∨ t = 9) : frT t = t + 4 := by
  unfold frT
  rcases h with rfl | rfl <;> rfl
theorem frM_n {σ : ST} {k j : Int} (h : 0 ≤ j) (h2 : ¬ (σ 15 k j = 1 ∨ σ 15 k j = 9)) : frM σ k j = frM σ k (j + 1) := by
  rw [← frM_s h, frT_id h2, ← frM_at σ k j, up_sm]
theorem frM_3 (σ : ST) (k m : Int) : frM σ k m 99 3 0 = σ 99 3 0 := rfl
theorem or_4 {t : Int} (h : t = 1 ∨ t = 9) : iI t ||| iI 4 = iI (t + 4) := by rcases h with rfl | rfl <;> decide +kernel
/-- a plain one that is not fixed -/
theorem tr_19 {t : Int} (h : TrOk t) : (t = 1 ∨ t = 9) ↔ (¬ t = 0 ∧ ¬ isPr t ∧ ¬ isFx t) := by
  unfold TrOk at h
  unfold isPr isFx
  omega
theorem fr_ag {σ σ1 σ2 : ST} {k j : Int} (h : AgV (frM σ k j) σ1) (hj : 0 ≤ j) (h2 : σ 15 k j = 1 ∨ σ 15 k j = 9) {t : Int} (et : t = σ1 15 k j + 4) (h3 : AgV (up σ1 15 k j t) σ2) : AgV (frM σ k (j + 1)) σ2 := by
  have e : t = frT (σ 15 k j) := by rw [et, h.1 15 k j rfl, frM_at, frT_4 h2]
  rw [← frM_s hj, ← e]
  exact (h.uu 15 k j t).tr h3
theorem s_define {κ : KK} {A : Nat → Int → Nat} {σ : ST} {g : GG} {L Sc : Int → List Int} {T : Int} {k n v x y : Int} (hc : CO σ L Sc T) (hk : Lv σ 3 k) (hn : 0 ≤ n ∧ n < 12) (hv : VAL σ v) (hx : x = 0 ∨ x = 1) (hy : y = 0 ∨ y = 1) (hh : HR κ A g σ) : Spec κ MX4_define 5 1 6 [vr A 4 0, .int (iI k), .int (iI n), .int (iI v), .int (iI x), .int (iI y)] g (SQ κ A σ T (cI (canD σ k n) (putM σ k n (1 + 4 * x + 8 * y) v (-1) (-1) 0) σ) (some (.int (iI (bI (canD σ k n)))))) := by
  have hT := hc.wt
  have hL := hc.wl
  have hS := hc.ws
  have hP := hc.wp
  have hF' := hc.wf
  have hV := hc.wv
  have hkd := kd3 hk
  have hz := wt_sz hT hk
  have h32 := ((hF' k hk).2.1 n hn).1
  have hsh := (hT.2.2 k hk).2.2.2.2.1
  have hvr : -1000 ≤ v ∧ v ≤ 2000 := by have := hT.2.1; unfold VAL at hv; omega
  refine e_start rfl (by show (lg_sl _).length ≤ 7; simp [lg_sl, cat_rf, cat_i, cat_l, cat_r, cat_n]) (lv := [(0, vr A 4 0), (1, .int (iI k)), (2, .int (iI n)), (3, .int (iI v)), (4, .int (iI x)), (5, .int (iI y))]) (by simp [lv_args, cat_rf, cat_i, cat_l, cat_r, cat_n]) ?_
  refine r_aload_nO dX4_define_0 rfl rfl ?_
  refine r_iload_n dX4_define_1 rfl rfl ?_
  refine e_callVP (z := MX4_thingAt) dX4_define_2 ml_X4_69 cz_X4_thingAt mk_X4_thingAt ms_X4_thingAt cb4 (by decide) (s_thingAt hk hT) rfl rfl (by simp [cat_rf, cat_i, cat_l, cat_r, cat_n]) (by decide) (by assumption) (lv1 _ 4 (fun _ => rfl)) (fun g hh => ?_)
  refine r_pc 5 rfl ?_
  refine r_astoreO dX4_define_5 (by decide) ?_
  refine r_iload_n dX4_define_7 rfl rfl ?_
  refine e_callSV (z := MX4_needName) dX4_define_8 ml_X4_72 cz_X4_needName mk_X4_needName (s_needName hn) rfl rfl (by simp [cat_rf, cat_i, cat_l, cat_r, cat_n]) (by decide) (by assumption) (fun g hh => ?_)
  refine r_pc 11 rfl ?_
  refine r_aload_nO dX4_define_11 rfl rfl ?_
  refine r_iload_n dX4_define_12 rfl rfl ?_
  refine e_callVV (z := MX4_needValue) dX4_define_13 ml_X4_79 cz_X4_needValue mk_X4_needValue ms_X4_needValue cb4 (by decide) (s_needValue hv hT) rfl rfl (by simp [cat_rf, cat_i, cat_l, cat_r, cat_n]) (by decide) (by assumption) (lv1 _ 4 (fun _ => rfl)) (fun g hh => ?_)
  refine r_pc 16 rfl ?_
  refine r_aloadO dX4_define_16 rfl ?_
  refine r_iload_n dX4_define_18 rfl rfl ?_
  refine e_callSP (z := MX4_mayDefine) dX4_define_19 ml_X4_102 cz_X4_mayDefine mk_X4_mayDefine (s_mayDef hk hn h32 hsh) rfl rfl (by simp [cat_rf, cat_i, cat_l, cat_r, cat_n]) (by decide) (by assumption) (fun g hh => ?_)
  refine r_pc 22 rfl ?_
  refine e_iv (md_can hsh) ?_
  refine e_ifne_b 27 dX4_define_22 (by decide) (fun h22 => ?_) (fun h22 => ?_)
  · refine r_pc 27 rfl ?_
    have hcan := h22
    refine r_aload_nO dX4_define_27 rfl rfl ?_
    refine r_aloadO dX4_define_28 rfl ?_
    refine r_iload_n dX4_define_30 rfl rfl ?_
    refine e_iconst dX4_define_31 ?_
    refine r_iload dX4_define_32 rfl ?_
    refine e_if_eq 41 dX4_define_34 (by decide) ⟨by omega, by omega⟩ (fun h34 => ?_) (fun h34 => ?_)
    · refine r_pc 41 rfl ?_
      obtain rfl : x = 0 := by omega
      refine e_iconst dX4_define_41 ?_
      refine r_ior dX4_define_42 ?_
      refine r_iv (show iI 1 ||| iI 0 = iI 1 by decide +kernel) ?_
      refine r_iload dX4_define_43 rfl ?_
      refine e_if_eq 53 dX4_define_45 (by decide) ⟨by omega, by omega⟩ (fun h45 => ?_) (fun h45 => ?_)
      · refine r_pc 53 rfl ?_
        obtain rfl : y = 0 := by omega
        refine e_iconst dX4_define_53 ?_
        refine r_ior dX4_define_54 ?_
        refine r_iv (show iI 1 ||| iI 0 = iI (1 + 4 * 0 + 8 * 0) by decide +kernel) ?_
        refine e_callV (z := MX4_putTraits) (kc' := 0) (ks' := 0) dX4_define_55 ml_X4_106 cz_X4_putTraits mk_X4_putTraits ms_X4_putTraits cb4 (by decide) (by rfl) (by rfl) (by simp [cat_rf, cat_i, cat_l, cat_r, cat_n]) (by decide) (by assumption) (lv1 _ 4 (fun _ => rfl)) (s_putTraits (t := 1 + 4 * 0 + 8 * 0) hk hn (by unfold TrOk; omega) h32 (fun q => wf_room (hF' k hk) hz hn q) hT hL hS hP hh) (by decide) (by decide) (fun w g hq => ?_)
        obtain ⟨A', σ', hh, rfl, hPT⟩ := hq
        obtain ⟨Sc', hco, hag, hle, hA, hk'⟩ := pt_co (t := 1 + 4 * 0 + 8 * 0) hc hk hn (by unfold TrOk; omega) (by omega) ⟨rfl, hPT⟩ (show PV5 (1 + 4 * 0 + 8 * 0) v (-1) (-1) 0 from ⟨by omega, by omega, hvr, by omega, fun q => absurd q (by unfold isPr; omega), fun _ => rfl⟩)
        have e3 : vr A 3 k = vr A' 3 k := by unfold vr rf; rw [hA 3 (by decide)]
        first | rw [e3] | rw [show va_rf (rf A 3 k) = vr A' 3 k from e3]
        refine r_pc 58 rfl ?_
        refine r_aloadO dX4_define_58 rfl ?_
        refine r_iload_n dX4_define_60 rfl rfl ?_
        refine r_iload_n dX4_define_61 rfl rfl ?_
        refine e_iconst dX4_define_62 ?_
        refine e_iconst dX4_define_63 ?_
        refine e_iconst dX4_define_64 ?_
        refine e_callVV (z := MX3_fill) dX4_define_65 ml_X4_110 cz_X3_fill mk_X3_fill ms_X3_fill cb3 (by decide) (s_fill (σ := σ') hk' hn) rfl rfl (by simp [cat_rf, cat_i, cat_l, cat_r, cat_n]) (by decide) (by assumption) (by assumption) (fun g hh => ?_)
        refine r_pc 68 rfl ?_
        refine e_iconst dX4_define_68 ?_
        exact r_zret dX4_define_69 rfl (narrow_01 (by omega)) ⟨A', _, L, Sc', hh, by rw [bI_t hcan], hA, hco, by rw [cI_t hcan]; exact hag, hle⟩
      · refine r_pc 48 rfl ?_
        obtain rfl : y = 1 := by omega
        refine e_bipush dX4_define_48 (by decide +kernel) ?_
        refine r_goto 54 dX4_define_50 (by decide) ?_
        refine r_ior dX4_define_54 ?_
        refine r_iv (show iI 1 ||| iI 8 = iI (1 + 4 * 0 + 8 * 1) by decide +kernel) ?_
        refine e_callV (z := MX4_putTraits) (kc' := 0) (ks' := 0) dX4_define_55 ml_X4_106 cz_X4_putTraits mk_X4_putTraits ms_X4_putTraits cb4 (by decide) (by rfl) (by rfl) (by simp [cat_rf, cat_i, cat_l, cat_r, cat_n]) (by decide) (by assumption) (lv1 _ 4 (fun _ => rfl)) (s_putTraits (t := 1 + 4 * 0 + 8 * 1) hk hn (by unfold TrOk; omega) h32 (fun q => wf_room (hF' k hk) hz hn q) hT hL hS hP hh) (by decide) (by decide) (fun w g hq => ?_)
        obtain ⟨A', σ', hh, rfl, hPT⟩ := hq
        obtain ⟨Sc', hco, hag, hle, hA, hk'⟩ := pt_co (t := 1 + 4 * 0 + 8 * 1) hc hk hn (by unfold TrOk; omega) (by omega) ⟨rfl, hPT⟩ (show PV5 (1 + 4 * 0 + 8 * 1) v (-1) (-1) 0 from ⟨by omega, by omega, hvr, by omega, fun q => absurd q (by unfold isPr; omega), fun _ => rfl⟩)
        have e3 : vr A 3 k = vr A' 3 k := by unfold vr rf; rw [hA 3 (by decide)]
        first | rw [e3] | rw [show va_rf (rf A 3 k) = vr A' 3 k from e3]
        refine r_pc 58 rfl ?_
        refine r_aloadO dX4_define_58 rfl ?_
        refine r_iload_n dX4_define_60 rfl rfl ?_
        refine r_iload_n dX4_define_61 rfl rfl ?_
        refine e_iconst dX4_define_62 ?_
        refine e_iconst dX4_define_63 ?_
        refine e_iconst dX4_define_64 ?_
        refine e_callVV (z := MX3_fill) dX4_define_65 ml_X4_110 cz_X3_fill mk_X3_fill ms_X3_fill cb3 (by decide) (s_fill (σ := σ') hk' hn) rfl rfl (by simp [cat_rf, cat_i, cat_l, cat_r, cat_n]) (by decide) (by assumption) (by assumption) (fun g hh => ?_)
        refine r_pc 68 rfl ?_
        refine e_iconst dX4_define_68 ?_
        exact r_zret dX4_define_69 rfl (narrow_01 (by omega)) ⟨A', _, L, Sc', hh, by rw [bI_t hcan], hA, hco, by rw [cI_t hcan]; exact hag, hle⟩
    · refine r_pc 37 rfl ?_
      obtain rfl : x = 1 := by omega
      refine e_iconst dX4_define_37 ?_
      refine r_goto 42 dX4_define_38 (by decide) ?_
      refine r_ior dX4_define_42 ?_
      refine r_iv (show iI 1 ||| iI 4 = iI 5 by decide +kernel) ?_
      refine r_iload dX4_define_43 rfl ?_
      refine e_if_eq 53 dX4_define_45 (by decide) ⟨by omega, by omega⟩ (fun h45 => ?_) (fun h45 => ?_)
      · refine r_pc 53 rfl ?_
        obtain rfl : y = 0 := by omega
        refine e_iconst dX4_define_53 ?_
        refine r_ior dX4_define_54 ?_
        refine r_iv (show iI 5 ||| iI 0 = iI (1 + 4 * 1 + 8 * 0) by decide +kernel) ?_
        refine e_callV (z := MX4_putTraits) (kc' := 0) (ks' := 0) dX4_define_55 ml_X4_106 cz_X4_putTraits mk_X4_putTraits ms_X4_putTraits cb4 (by decide) (by rfl) (by rfl) (by simp [cat_rf, cat_i, cat_l, cat_r, cat_n]) (by decide) (by assumption) (lv1 _ 4 (fun _ => rfl)) (s_putTraits (t := 1 + 4 * 1 + 8 * 0) hk hn (by unfold TrOk; omega) h32 (fun q => wf_room (hF' k hk) hz hn q) hT hL hS hP hh) (by decide) (by decide) (fun w g hq => ?_)
        obtain ⟨A', σ', hh, rfl, hPT⟩ := hq
        obtain ⟨Sc', hco, hag, hle, hA, hk'⟩ := pt_co (t := 1 + 4 * 1 + 8 * 0) hc hk hn (by unfold TrOk; omega) (by omega) ⟨rfl, hPT⟩ (show PV5 (1 + 4 * 1 + 8 * 0) v (-1) (-1) 0 from ⟨by omega, by omega, hvr, by omega, fun q => absurd q (by unfold isPr; omega), fun _ => rfl⟩)
        have e3 : vr A 3 k = vr A' 3 k := by unfold vr rf; rw [hA 3 (by decide)]
        first | rw [e3] | rw [show va_rf (rf A 3 k) = vr A' 3 k from e3]
        refine r_pc 58 rfl ?_
        refine r_aloadO dX4_define_58 rfl ?_
        refine r_iload_n dX4_define_60 rfl rfl ?_
        refine r_iload_n dX4_define_61 rfl rfl ?_
        refine e_iconst dX4_define_62 ?_
        refine e_iconst dX4_define_63 ?_
        refine e_iconst dX4_define_64 ?_
        refine e_callVV (z := MX3_fill) dX4_define_65 ml_X4_110 cz_X3_fill mk_X3_fill ms_X3_fill cb3 (by decide) (s_fill (σ := σ') hk' hn) rfl rfl (by simp [cat_rf, cat_i, cat_l, cat_r, cat_n]) (by decide) (by assumption) (by assumption) (fun g hh => ?_)
        refine r_pc 68 rfl ?_
        refine e_iconst dX4_define_68 ?_
        exact r_zret dX4_define_69 rfl (narrow_01 (by omega)) ⟨A', _, L, Sc', hh, by rw [bI_t hcan], hA, hco, by rw [cI_t hcan]; exact hag, hle⟩
      · refine r_pc 48 rfl ?_
        obtain rfl : y = 1 := by omega
        refine e_bipush dX4_define_48 (by decide +kernel) ?_
        refine r_goto 54 dX4_define_50 (by decide) ?_
        refine r_ior dX4_define_54 ?_
        refine r_iv (show iI 5 ||| iI 8 = iI (1 + 4 * 1 + 8 * 1) by decide +kernel) ?_
        refine e_callV (z := MX4_putTraits) (kc' := 0) (ks' := 0) dX4_define_55 ml_X4_106 cz_X4_putTraits mk_X4_putTraits ms_X4_putTraits cb4 (by decide) (by rfl) (by rfl) (by simp [cat_rf, cat_i, cat_l, cat_r, cat_n]) (by decide) (by assumption) (lv1 _ 4 (fun _ => rfl)) (s_putTraits (t := 1 + 4 * 1 + 8 * 1) hk hn (by unfold TrOk; omega) h32 (fun q => wf_room (hF' k hk) hz hn q) hT hL hS hP hh) (by decide) (by decide) (fun w g hq => ?_)
        obtain ⟨A', σ', hh, rfl, hPT⟩ := hq
        obtain ⟨Sc', hco, hag, hle, hA, hk'⟩ := pt_co (t := 1 + 4 * 1 + 8 * 1) hc hk hn (by unfold TrOk; omega) (by omega) ⟨rfl, hPT⟩ (show PV5 (1 + 4 * 1 + 8 * 1) v (-1) (-1) 0 from ⟨by omega, by omega, hvr, by omega, fun q => absurd q (by unfold isPr; omega), fun _ => rfl⟩)
        have e3 : vr A 3 k = vr A' 3 k := by unfold vr rf; rw [hA 3 (by decide)]
        first | rw [e3] | rw [show va_rf (rf A 3 k) = vr A' 3 k from e3]
        refine r_pc 58 rfl ?_
        refine r_aloadO dX4_define_58 rfl ?_
        refine r_iload_n dX4_define_60 rfl rfl ?_
        refine r_iload_n dX4_define_61 rfl rfl ?_
        refine e_iconst dX4_define_62 ?_
        refine e_iconst dX4_define_63 ?_
        refine e_iconst dX4_define_64 ?_
        refine e_callVV (z := MX3_fill) dX4_define_65 ml_X4_110 cz_X3_fill mk_X3_fill ms_X3_fill cb3 (by decide) (s_fill (σ := σ') hk' hn) rfl rfl (by simp [cat_rf, cat_i, cat_l, cat_r, cat_n]) (by decide) (by assumption) (by assumption) (fun g hh => ?_)
        refine r_pc 68 rfl ?_
        refine e_iconst dX4_define_68 ?_
        exact r_zret dX4_define_69 rfl (narrow_01 (by omega)) ⟨A', _, L, Sc', hh, by rw [bI_t hcan], hA, hco, by rw [cI_t hcan]; exact hag, hle⟩
  · refine r_pc 25 rfl ?_
    have hcan := h22
    refine e_iconst dX4_define_25 ?_
    exact r_zret dX4_define_26 rfl (narrow_01 (by omega)) (by rw [bI_f hcan]; exact sq_id hc hh (cI_f hcan))
theorem s_pair {κ : KK} {A : Nat → Int → Nat} {σ : ST} {g : GG} {L Sc : Int → List Int} {T : Int} {k n a b e y : Int} (hc : CO σ L Sc T) (hk : Lv σ 3 k) (hn : 0 ≤ n ∧ n < 12) (ha : -1 ≤ a ∧ a < 12) (hb : -1 ≤ b ∧ b < 12) (hab : ¬ (a = -1 ∧ b = -1)) (he : -99 ≤ e ∧ e ≤ 99) (hy : y = 0 ∨ y = 1) (hh : HR κ A g σ) : Spec κ MX4_pair 5 1 6 [vr A 4 0, .int (iI k), .int (iI n), .int (iI a), .int (iI b), .int (iI e), .int (iI y)] g (SQ κ A σ T (cI (canD σ k n) (putM σ k n (3 + 8 * y) (-1000) a b e) σ) (some (.int (iI (bI (canD σ k n)))))) := by
  have hT := hc.wt
  have hL := hc.wl
  have hS := hc.ws
  have hP := hc.wp
  have hF' := hc.wf
  have hV := hc.wv
  have hkd := kd3 hk
  have hz := wt_sz hT hk
  have h32 := ((hF' k hk).2.1 n hn).1
  have hsh := (hT.2.2 k hk).2.2.2.2.1
  refine e_start rfl (by show (lg_sl _).length ≤ 8; simp [lg_sl, cat_rf, cat_i, cat_l, cat_r, cat_n]) (lv := [(0, vr A 4 0), (1, .int (iI k)), (2, .int (iI n)), (3, .int (iI a)), (4, .int (iI b)), (5, .int (iI e)), (6, .int (iI y))]) (by simp [lv_args, cat_rf, cat_i, cat_l, cat_r, cat_n]) ?_
  refine r_aload_nO dX4_pair_0 rfl rfl ?_
  refine r_iload_n dX4_pair_1 rfl rfl ?_
  refine e_callVP (z := MX4_thingAt) dX4_pair_2 ml_X4_69 cz_X4_thingAt mk_X4_thingAt ms_X4_thingAt cb4 (by decide) (s_thingAt hk hT) rfl rfl (by simp [cat_rf, cat_i, cat_l, cat_r, cat_n]) (by decide) (by assumption) (lv1 _ 4 (fun _ => rfl)) (fun g hh => ?_)
  refine r_pc 5 rfl ?_
  refine r_astoreO dX4_pair_5 (by decide) ?_
  refine r_iload_n dX4_pair_7 rfl rfl ?_
  refine e_callSV (z := MX4_needName) dX4_pair_8 ml_X4_72 cz_X4_needName mk_X4_needName (s_needName hn) rfl rfl (by simp [cat_rf, cat_i, cat_l, cat_r, cat_n]) (by decide) (by assumption) (fun g hh => ?_)
  refine r_pc 11 rfl ?_
  refine r_iload_n dX4_pair_11 rfl rfl ?_
  refine r_iload dX4_pair_12 rfl ?_
  refine r_iload dX4_pair_14 rfl ?_
  refine e_callSV (z := MX4_needPair) dX4_pair_16 ml_X4_114 cz_X4_needPair mk_X4_needPair (s_needPair ha hb hab he) rfl rfl (by simp [cat_rf, cat_i, cat_l, cat_r, cat_n]) (by decide) (by assumption) (fun g hh => ?_)
  refine r_pc 19 rfl ?_
  refine r_aloadO dX4_pair_19 rfl ?_
  refine r_iload_n dX4_pair_21 rfl rfl ?_
  refine e_callSP (z := MX4_mayDefine) dX4_pair_22 ml_X4_102 cz_X4_mayDefine mk_X4_mayDefine (s_mayDef hk hn h32 hsh) rfl rfl (by simp [cat_rf, cat_i, cat_l, cat_r, cat_n]) (by decide) (by assumption) (fun g hh => ?_)
  refine r_pc 25 rfl ?_
  refine e_iv (md_can hsh) ?_
  refine e_ifne_b 30 dX4_pair_25 (by decide) (fun h25 => ?_) (fun h25 => ?_)
  · refine r_pc 30 rfl ?_
    have hcan := h25
    refine r_aload_nO dX4_pair_30 rfl rfl ?_
    refine r_aloadO dX4_pair_31 rfl ?_
    refine r_iload_n dX4_pair_33 rfl rfl ?_
    refine e_iconst dX4_pair_34 ?_
    refine r_iload dX4_pair_35 rfl ?_
    refine e_if_eq 45 dX4_pair_37 (by decide) ⟨by omega, by omega⟩ (fun h37 => ?_) (fun h37 => ?_)
    · refine r_pc 45 rfl ?_
      obtain rfl : y = 0 := by omega
      refine e_iconst dX4_pair_45 ?_
      refine r_ior dX4_pair_46 ?_
      refine r_iv (show iI 3 ||| iI 0 = iI (3 + 8 * 0) by decide +kernel) ?_
      refine e_callV (z := MX4_putTraits) (kc' := 0) (ks' := 0) dX4_pair_47 ml_X4_106 cz_X4_putTraits mk_X4_putTraits ms_X4_putTraits cb4 (by decide) (by rfl) (by rfl) (by simp [cat_rf, cat_i, cat_l, cat_r, cat_n]) (by decide) (by assumption) (lv1 _ 4 (fun _ => rfl)) (s_putTraits (t := 3 + 8 * 0) hk hn (by unfold TrOk; omega) h32 (fun q => wf_room (hF' k hk) hz hn q) hT hL hS hP hh) (by decide) (by decide) (fun w g hq => ?_)
      obtain ⟨A', σ', hh, rfl, hPT⟩ := hq
      obtain ⟨Sc', hco, hag, hle, hA, hk'⟩ := pt_co (t := 3 + 8 * 0) hc hk hn (by unfold TrOk; omega) (by omega) ⟨rfl, hPT⟩ (show PV5 (3 + 8 * 0) (-1000) a b e from ⟨ha, hb, by omega, he, fun _ => rfl, fun q => absurd (show isPr (3 + 8 * 0) by unfold isPr; omega) q⟩)
      have e3 : vr A 3 k = vr A' 3 k := by unfold vr rf; rw [hA 3 (by decide)]
      first | rw [e3] | rw [show va_rf (rf A 3 k) = vr A' 3 k from e3]
      refine r_pc 50 rfl ?_
      refine r_aloadO dX4_pair_50 rfl ?_
      refine r_iload_n dX4_pair_52 rfl rfl ?_
      refine e_sipush dX4_pair_53 (by decide +kernel) ?_
      refine r_iload_n dX4_pair_56 rfl rfl ?_
      refine r_iload dX4_pair_57 rfl ?_
      refine r_iload dX4_pair_59 rfl ?_
      refine e_callVV (z := MX3_fill) dX4_pair_61 ml_X4_110 cz_X3_fill mk_X3_fill ms_X3_fill cb3 (by decide) (s_fill (σ := σ') hk' hn) rfl rfl (by simp [cat_rf, cat_i, cat_l, cat_r, cat_n]) (by decide) (by assumption) (by assumption) (fun g hh => ?_)
      refine r_pc 64 rfl ?_
      refine e_iconst dX4_pair_64 ?_
      exact r_zret dX4_pair_65 rfl (narrow_01 (by omega)) ⟨A', _, L, Sc', hh, by rw [bI_t hcan], hA, hco, by rw [cI_t hcan]; exact hag, hle⟩
    · refine r_pc 40 rfl ?_
      obtain rfl : y = 1 := by omega
      refine e_bipush dX4_pair_40 (by decide +kernel) ?_
      refine r_goto 46 dX4_pair_42 (by decide) ?_
      refine r_ior dX4_pair_46 ?_
      refine r_iv (show iI 3 ||| iI 8 = iI (3 + 8 * 1) by decide +kernel) ?_
      refine e_callV (z := MX4_putTraits) (kc' := 0) (ks' := 0) dX4_pair_47 ml_X4_106 cz_X4_putTraits mk_X4_putTraits ms_X4_putTraits cb4 (by decide) (by rfl) (by rfl) (by simp [cat_rf, cat_i, cat_l, cat_r, cat_n]) (by decide) (by assumption) (lv1 _ 4 (fun _ => rfl)) (s_putTraits (t := 3 + 8 * 1) hk hn (by unfold TrOk; omega) h32 (fun q => wf_room (hF' k hk) hz hn q) hT hL hS hP hh) (by decide) (by decide) (fun w g hq => ?_)
      obtain ⟨A', σ', hh, rfl, hPT⟩ := hq
      obtain ⟨Sc', hco, hag, hle, hA, hk'⟩ := pt_co (t := 3 + 8 * 1) hc hk hn (by unfold TrOk; omega) (by omega) ⟨rfl, hPT⟩ (show PV5 (3 + 8 * 1) (-1000) a b e from ⟨ha, hb, by omega, he, fun _ => rfl, fun q => absurd (show isPr (3 + 8 * 1) by unfold isPr; omega) q⟩)
      have e3 : vr A 3 k = vr A' 3 k := by unfold vr rf; rw [hA 3 (by decide)]
      first | rw [e3] | rw [show va_rf (rf A 3 k) = vr A' 3 k from e3]
      refine r_pc 50 rfl ?_
      refine r_aloadO dX4_pair_50 rfl ?_
      refine r_iload_n dX4_pair_52 rfl rfl ?_
      refine e_sipush dX4_pair_53 (by decide +kernel) ?_
      refine r_iload_n dX4_pair_56 rfl rfl ?_
      refine r_iload dX4_pair_57 rfl ?_
      refine r_iload dX4_pair_59 rfl ?_
      refine e_callVV (z := MX3_fill) dX4_pair_61 ml_X4_110 cz_X3_fill mk_X3_fill ms_X3_fill cb3 (by decide) (s_fill (σ := σ') hk' hn) rfl rfl (by simp [cat_rf, cat_i, cat_l, cat_r, cat_n]) (by decide) (by assumption) (by assumption) (fun g hh => ?_)
      refine r_pc 64 rfl ?_
      refine e_iconst dX4_pair_64 ?_
      exact r_zret dX4_pair_65 rfl (narrow_01 (by omega)) ⟨A', _, L, Sc', hh, by rw [bI_t hcan], hA, hco, by rw [cI_t hcan]; exact hag, hle⟩
  · refine r_pc 28 rfl ?_
    have hcan := h25
    refine e_iconst dX4_pair_28 ?_
    exact r_zret dX4_pair_29 rfl (narrow_01 (by omega)) (by rw [bI_f hcan]; exact sq_id hc hh (cI_f hcan))
theorem s_freeze {κ : KK} {A : Nat → Int → Nat} {σ : ST} {g : GG} {L Sc : Int → List Int} {T : Int} {k : Int} (hc : CO σ L Sc T) (hk : Lv σ 3 k) (hh : HR κ A g σ) : Spec κ MX4_freeze 5 12 72 [vr A 4 0, vr A 3 k] g (SQ κ A σ T (frM σ k 12) (some (.int (iI (sumI (frF σ k) 12))))) := by
  have hT := hc.wt
  have hL := hc.wl
  have hS := hc.ws
  have hP := hc.wp
  have hF' := hc.wf
  have hV := hc.wv
  have hkd := kd3 hk
  have hz := wt_sz hT hk
  have loop : ∀ (m : Nat) (j c : Int) (A' : Nat → Int → Nat) (σ' : ST) (Sc' : Int → List Int), 0 ≤ j → j + (m : Int) = 12 → c = sumI (frF σ k) j.toNat → CO σ' L Sc' T → AgV (frM σ k j) σ' → (∀ t, t ≠ 1 → A' t = A t) → σ 99 1 0 ≤ σ' 99 1 0 → ∀ g, HR κ A' g σ' → Wp κ MX4_freeze 5 m (6 * m) 4 [(0, vr A' 4 0), (1, vr A' 3 k), (2, .int (iI c)), (3, .int (iI j))] [] g (SQ κ A σ T (frM σ k 12) (some (.int (iI (sumI (frF σ k) 12))))) := by
    intro m
    induction m with
    | zero =>
      intro j c A' σ' Sc' hj0 hjm hcs hc' hag hA hle g hh
      obtain rfl : j = 12 := by omega
      refine r_iload_n dX4_freeze_4 rfl rfl ?_
      refine e_bipush dX4_freeze_5 (by decide +kernel) ?_
      refine e_ic_ge 59 dX4_freeze_7 (by decide) ⟨by omega, by omega⟩ ⟨by omega, by omega⟩ (fun h7 => ?_) (fun h7 => by exfalso; omega)
      refine r_pc 59 rfl ?_
      refine r_iload_n dX4_freeze_59 rfl rfl ?_
      exact r_iret dX4_freeze_60 rfl ⟨A', σ', L, Sc', hh, by rw [hcs]; rfl, hA, hc', hag, hle⟩
    | succ m ih =>
      intro j c A' σ' Sc' hj0 hjm hcs hc' hag hA hle g hh
      have hk' : Lv σ' 3 k := ⟨hk.1, by rw [show cnt σ' 3 = σ' 99 3 0 from rfl, hag.2.2.1, frM_3]; exact hk.2⟩
      have hT' := hc'.wt
      have hF2 := hc'.wf
      have hz' := wt_sz hT' hk'
      have h32 := ((hF2 k hk').2.1 j (by omega)).1
      have e15 : σ' 15 k j = σ 15 k j := (hag.1 15 k j rfl).trans (frM_at σ k j)
      have h19 := tr_19 h32
      refine r_iload_n dX4_freeze_4 rfl rfl ?_
      refine e_bipush dX4_freeze_5 (by decide +kernel) ?_
      refine e_ic_ge 59 dX4_freeze_7 (by decide) ⟨by omega, by omega⟩ ⟨by omega, by omega⟩ (fun h7 => by exfalso; omega) (fun h7 => ?_)
      refine r_pc 10 rfl ?_
      refine r_aload_nO dX4_freeze_10 rfl rfl ?_
      refine r_iload_n dX4_freeze_11 rfl rfl ?_
      refine e_callVP (z := MX3_has) dX4_freeze_12 ml_X4_118 cz_X3_has mk_X3_has ms_X3_has cb3 (by decide) (s_has hk' (by omega) h32) rfl rfl (by simp [cat_rf, cat_i, cat_l, cat_r, cat_n]) (by decide) (by assumption) (by assumption) (fun g hh => ?_)
      refine r_pc 15 rfl ?_
      refine e_ifeq_b 53 dX4_freeze_15 (by decide) (fun h15 => ?_) (fun h15 => ?_)
      · refine r_pc 53 rfl ?_
        refine e_iinc dX4_freeze_53 rfl (by decide) ?_
        refine r_goto 4 dX4_freeze_56 (by decide) ?_
        refine r_lv [(0, vr A' 4 0), (1, vr A' 3 k), (2, .int (iI c)), (3, .int (iI (j + 1)))] rfl ?_
        have hno : ¬ (σ 15 k j = 1 ∨ σ 15 k j = 9) := by rw [← e15]; exact fun q => (h19.mp q).1 (by omega)
        refine Wp.widen (kc := m) (ks := 6 * m) (by omega) (by omega) ?_
        exact ih (j + 1) c A' σ' Sc' (by omega) (by omega) (sumI_e hj0 hcs (if_neg hno) (Int.add_zero _)) hc' (by rw [← frM_n hj0 hno]; exact hag) hA hle g hh
      · refine r_pc 18 rfl ?_
        refine r_aload_nO dX4_freeze_18 rfl rfl ?_
        refine r_iload_n dX4_freeze_19 rfl rfl ?_
        refine e_iconst dX4_freeze_20 ?_
        refine e_callVP (z := MX3_is) dX4_freeze_21 ml_X4_86 cz_X3_is mk_X3_is ms_X3_is cb3 (by decide) (s_is2 hk' (by omega) h32) rfl rfl (by simp [cat_rf, cat_i, cat_l, cat_r, cat_n]) (by decide) (by assumption) (by assumption) (fun g hh => ?_)
        refine r_pc 24 rfl ?_
        refine e_ifne_b 53 dX4_freeze_24 (by decide) (fun h24 => ?_) (fun h24 => ?_)
        · refine r_pc 53 rfl ?_
          refine e_iinc dX4_freeze_53 rfl (by decide) ?_
          refine r_goto 4 dX4_freeze_56 (by decide) ?_
          refine r_lv [(0, vr A' 4 0), (1, vr A' 3 k), (2, .int (iI c)), (3, .int (iI (j + 1)))] rfl ?_
          have hno : ¬ (σ 15 k j = 1 ∨ σ 15 k j = 9) := by rw [← e15]; exact fun q => (h19.mp q).2.1 h24
          refine Wp.widen (kc := m) (ks := 6 * m) (by omega) (by omega) ?_
          exact ih (j + 1) c A' σ' Sc' (by omega) (by omega) (sumI_e hj0 hcs (if_neg hno) (Int.add_zero _)) hc' (by rw [← frM_n hj0 hno]; exact hag) hA hle g hh
        · refine r_pc 27 rfl ?_
          refine r_aload_nO dX4_freeze_27 rfl rfl ?_
          refine r_iload_n dX4_freeze_28 rfl rfl ?_
          refine e_iconst dX4_freeze_29 ?_
          refine e_callVP (z := MX3_is) dX4_freeze_30 ml_X4_86 cz_X3_is mk_X3_is ms_X3_is cb3 (by decide) (s_is4 hk' (by omega) h32) rfl rfl (by simp [cat_rf, cat_i, cat_l, cat_r, cat_n]) (by decide) (by assumption) (by assumption) (fun g hh => ?_)
          refine r_pc 33 rfl ?_
          refine e_ifne_b 53 dX4_freeze_33 (by decide) (fun h33 => ?_) (fun h33 => ?_)
          · refine r_pc 53 rfl ?_
            refine e_iinc dX4_freeze_53 rfl (by decide) ?_
            refine r_goto 4 dX4_freeze_56 (by decide) ?_
            refine r_lv [(0, vr A' 4 0), (1, vr A' 3 k), (2, .int (iI c)), (3, .int (iI (j + 1)))] rfl ?_
            have hno : ¬ (σ 15 k j = 1 ∨ σ 15 k j = 9) := by rw [← e15]; exact fun q => (h19.mp q).2.2 h33
            refine Wp.widen (kc := m) (ks := 6 * m) (by omega) (by omega) ?_
            exact ih (j + 1) c A' σ' Sc' (by omega) (by omega) (sumI_e hj0 hcs (if_neg hno) (Int.add_zero _)) hc' (by rw [← frM_n hj0 hno]; exact hag) hA hle g hh
          · refine r_pc 36 rfl ?_
            refine r_aload_nO dX4_freeze_36 rfl rfl ?_
            refine r_aload_nO dX4_freeze_37 rfl rfl ?_
            refine r_iload_n dX4_freeze_38 rfl rfl ?_
            refine r_aload_nO dX4_freeze_39 rfl rfl ?_
            refine e_getF (t := 3) (k := 7) (t1 := 15) dX4_freeze_40 cb3 (by decide) mf_X4_290 (by rfl) (by rfl) (by decide) (by assumption) (by assumption) ?_
            refine r_iload_n dX4_freeze_43 rfl rfl ?_
            refine e_iald (t := 15) dX4_freeze_44 (by decide) (by decide) (by rfl) (by intro _; rfl) (by assumption) (by first | assumption | exact lv_as 3 (by assumption) (by rfl)) (by have e : ln 15 = 12 := rfl; omega) ?_
            refine e_iconst dX4_freeze_45 ?_
            refine r_ior dX4_freeze_46 ?_
            have hyes := h19.mpr ⟨h15, h24, h33⟩
            refine r_iv (or_4 hyes) ?_
            refine e_callV (z := MX4_putTraits) (kc' := m) (ks' := (6*m)) dX4_freeze_47 ml_X4_106 cz_X4_putTraits mk_X4_putTraits ms_X4_putTraits cb4 (by decide) (by rfl) (by rfl) (by simp [cat_rf, cat_i, cat_l, cat_r, cat_n]) (by decide) (by assumption) (lv1 _ 4 (fun _ => rfl)) (s_putTraits (t := σ' 15 k j + 4) hk' (by omega) (by unfold TrOk; omega) h32 (fun q => wf_room (hF2 k hk') hz' (by omega) q) hT' hc'.wl hc'.ws hc'.wp hh) (by omega) (by omega) (fun w g hq => ?_)
            obtain ⟨A2, σ2, hh, rfl, hPT⟩ := hq
            obtain ⟨Sc2, hc2, hag2, hle2, hA2, hk2⟩ := fr_co (n := j) hc' hk' (by omega) hyes rfl ⟨rfl, hPT⟩
            have e3 : vr A' 3 k = vr A2 3 k := by unfold vr rf; rw [hA2 3 (by decide)]
            have e4 : vr A' 4 0 = vr A2 4 0 := by unfold vr rf; rw [hA2 4 (by decide)]
            rw [e3, e4]
            refine r_pc 50 rfl ?_
            refine e_iinc dX4_freeze_50 rfl (by decide) ?_
            refine r_stw (by repeat' first | exact True.intro | refine And.intro (fun h => by first | rfl | exact cat_rf _ | exact absurd h (by decide)) ?_) ?_
            refine e_iinc dX4_freeze_53 rfl (by decide) ?_
            refine r_goto 4 dX4_freeze_56 (by decide) ?_
            refine r_lv [(0, vr A2 4 0), (1, vr A2 3 k), (2, .int (iI (c + 1))), (3, .int (iI (j + 1)))] rfl ?_
            rw [e15] at hyes
            exact ih (j + 1) (c + 1) A2 σ2 Sc2 (by omega) (by omega) (sumI_e hj0 hcs (if_pos hyes) rfl) hc2 (fr_ag hag hj0 hyes rfl hag2) (fun t a => (hA2 t a).trans (hA t a)) (by omega) g hh
  refine e_start rfl (by show (lg_sl _).length ≤ 4; simp [lg_sl, cat_rf, cat_i, cat_l, cat_r, cat_n]) (lv := [(0, vr A 4 0), (1, vr A 3 k)]) (by simp [lv_args, cat_rf, cat_i, cat_l, cat_r, cat_n]) ?_
  refine e_iconst dX4_freeze_0 ?_
  refine r_istore_n dX4_freeze_1 rfl (by decide) ?_
  refine r_stw (by repeat' first | exact True.intro | refine And.intro (fun h => by first | rfl | exact cat_rf _ | exact absurd h (by decide)) ?_) ?_
  refine e_iconst dX4_freeze_2 ?_
  refine r_istore_n dX4_freeze_3 rfl (by decide) ?_
  refine r_lv [(0, vr A 4 0), (1, vr A 3 k), (2, .int (iI 0)), (3, .int (iI 0))] rfl ?_
  exact loop 12 0 0 A σ Sc (by omega) (by omega) rfl hc (by rw [frM_0]; exact AgV.rf' σ) (fun _ _ => rfl) (Int.le_refl _) g hh
