def Fj (N j : Int) : Nat → Int → Int := fun t c => if t = 3 then (if c = 0 then N else if c = 1 ∨ c = 2 then -1 else 0) else if t = 16 then (if 0 ≤ c ∧ c < j then -1000 else 0) else if t = 17 ∨ t = 18 then (if 0 ≤ c ∧ c < j then -1 else 0) else 0
noncomputable def nwJ (σ : ST) (j : Int) : ST := gU σ (Fj (σ 99 3 0) j)
theorem gU_up {σ : ST} {F : Nat → Int → Int} {t : Nat} {c v : Int} (h : inT t) : up (gU σ F) t (σ 99 3 0) c v = gU σ (fun t' c' => if t' = t ∧ c' = c then v else F t' c') := by
  funext t' r' c'
  by_cases z : t' = 99 ∧ c' = 0 ∧ r' = 3
  · rw [up_ne (by unfold inT at h; omega)]
    unfold gU
    rw [cI_t z, cI_t z]
  · by_cases y : inT t' ∧ r' = σ 99 3 0
    · obtain ⟨y1, rfl⟩ := y
      rw [gU_n y1]
      by_cases x : t' = t ∧ c' = c
      · rw [if_pos x, x.1, x.2, up_at]
      · rw [if_neg x, up_ne (fun w => x ⟨w.1, w.2.2⟩), gU_n y1]
    · rw [up_ne (by rintro ⟨rfl, rfl, -⟩; exact y ⟨h, rfl⟩)]
      unfold gU
      rw [cI_f z, cI_f y, cI_f z, cI_f y]
theorem nwJ_s {σ : ST} {j : Int} (hj : 0 ≤ j) : fil (nwJ σ j) (σ 99 3 0) j (-1000) (-1) (-1) 0 = nwJ σ (j + 1) := by
  unfold fil nwJ
  rw [gU_up (by unfold inT; omega), gU_up (by unfold inT; omega), gU_up (by unfold inT; omega), gU_up (by unfold inT; omega)]
  refine congrArg (gU σ) ?_
  funext t c
  unfold Fj
  repeat' split <;> omega
theorem nwJ_0 (σ : ST) : gU σ (fun t c => if t = 3 then (if c = 0 then σ 99 3 0 else if c = 1 ∨ c = 2 then -1 else 0) else 0) = nwJ σ 0 := by
  refine congrArg (gU σ) ?_
  funext t c
  unfold Fj
  repeat' split <;> omega
theorem nwJ_lv {σ : ST} (h0 : 0 ≤ σ 99 3 0) (j : Int) : Lv (nwJ σ j) 3 (σ 99 3 0) := ⟨h0, by show σ 99 3 0 < nwJ σ j 99 3 0; unfold nwJ; rw [gU_c]; omega⟩
theorem ti_grow {κ : KK} {A : Nat → Int → Nat} {g : GG} {σ : ST} {b : Nat} {B : Nat → Nat} (h0 : 0 ≤ σ 99 3 0) (hN : TI κ A g σ b 6 B) : HR κ (gT A (σ 99 3 0) (fun t => if t = 3 then b else B (t - 8))) (setI g b 0 (iI (σ 99 3 0))) (nwJ σ 0) := by
  obtain ⟨h1, h2, h3, h4, h5, h6, h7⟩ := hN
  rw [← nwJ_0]
  have ht : ∀ t, inT t → t = 3 ∨ (¬ t = 3 ∧ 6 ≤ t - 8 ∧ t - 8 < 12 ∧ 14 ≤ t ∧ t ≤ 19) := fun t h => by unfold inT at h; omega
  have hk6 : ∀ t, 14 ≤ t → t ≤ 19 → kd t = 6 ∧ ln t = 12 := by
    intro t a1 a2
    have e : t = 14 ∨ t = 15 ∨ t = 16 ∨ t = 17 ∨ t = 18 ∨ t = 19 := by omega
    rcases e with rfl | rfl | rfl | rfl | rfl | rfl <;> exact ⟨rfl, rfl⟩
  refine hr_growT (hr_offI h1 h3 _) h0 (fun t h => ?_) (fun t r t' a e h => ?_) (fun t t' h h' e => ?_) (fun t c h hc => ?_) (fun c hc => ⟨?_, ?_⟩) (fun c c1 c2 => ?_)
  · rcases ht t h with rfl | ⟨z, z1, z2, z3, z4⟩
    · exact ⟨h2, fun q => absurd q (by decide)⟩
    · simp only [if_neg z]
      obtain ⟨q1, q2, -⟩ := h6 (t - 8) z1 z2
      rw [(hk6 t z3 z4).1, (hk6 t z3 z4).2]
      exact ⟨q1, fun _ => q2⟩
  · rcases ht t' h with rfl | ⟨z, z1, z2, z3, z4⟩
    · exact h3 t r a e
    · simp only [if_neg z]
      exact (h6 (t' - 8) z1 z2).2.2.1 t r a e
  · rcases ht t h with rfl | ⟨z, z1, z2, z3, z4⟩
    · rcases ht t' h' with rfl | ⟨y, y1, y2, y3, y4⟩
      · rfl
      · simp only [if_pos, if_neg y] at e
        exact absurd e.symm (h6 (t' - 8) y1 y2).2.2.2.1
    · rcases ht t' h' with rfl | ⟨y, y1, y2, y3, y4⟩
      · simp only [if_pos, if_neg z] at e
        exact absurd e (h6 (t - 8) z1 z2).2.2.2.1
      · simp only [if_neg z, if_neg y] at e
        have := h7 _ _ z1 z2 y1 y2 e
        omega
  · rcases ht t h with rfl | ⟨z, z1, z2, z3, z4⟩
    · simp only [if_pos]
      rw [gi_setI_at]
      have hc2 : c = 0 ∨ c = 3 ∨ c = 4 ∨ c = 5 := by
        have h2 : isIf 3 c = true := hc
        unfold isIf at h2
        split at h2 <;> first | omega | cases h2
      by_cases y : c = 0
      · subst y
        rfl
      · rw [if_neg y, h4, if_neg (by omega), if_neg (by omega)]
        rfl
    · simp only [if_neg z]
      obtain ⟨q1, q2, q3, q4, q5⟩ := h6 (t - 8) z1 z2
      rw [gi_setI_ne q4, q5]
      rfl
  · show gr g b c = none
    rw [h5, if_neg (by omega)]
  · rcases hc with rfl | rfl <;> rfl
  · simp only [if_pos]
    show gr g b c = _
    rw [h5, if_pos (by omega), if_neg (by omega), show 8 + c - 8 = c by omega]
theorem s_initT {κ : KK} {A : Nat → Int → Nat} {σ : ST} {g : GG} {b : Nat} {B : Nat → Nat} (h0 : 0 ≤ σ 99 3 0 ∧ σ 99 3 0 < 24) (hN : TI κ A g σ b 0 B) : Spec κ MX3_init 1 6 72 [.ref b, .int (iI (σ 99 3 0))] g (fun w h => ∃ A', HR κ A' h (nwJ σ 12) ∧ w = none ∧ A' 3 (σ 99 3 0) = b ∧ (∀ t r, ¬ (inT t ∧ r = σ 99 3 0) → A' t r = A t r)) := by
  have loop : ∀ (A' : Nat → Int → Nat), A' 3 (σ 99 3 0) = b → (∀ t r, ¬ (inT t ∧ r = σ 99 3 0) → A' t r = A t r) → ∀ (m : Nat) (j : Int), 0 ≤ j → j + (m : Int) = 12 → ∀ g, HR κ A' g (nwJ σ j) → Wp κ MX3_init 1 0 0 59 [(0, vr A' 3 (σ 99 3 0)), (1, .int (iI (σ 99 3 0))), (2, .int (iI j))] [] g (fun w h => ∃ A', HR κ A' h (nwJ σ 12) ∧ w = none ∧ A' 3 (σ 99 3 0) = b ∧ (∀ t r, ¬ (inT t ∧ r = σ 99 3 0) → A' t r = A t r)) := by
    intro A' hA1 hA2 m
    induction m with
    | zero =>
      intro j hj0 hjm g hh
      obtain rfl : j = 12 := by omega
      refine r_iload_n dX3_init_59 rfl rfl ?_
      refine e_bipush dX3_init_60 (by decide +kernel) ?_
      refine e_ic_ge 82 dX3_init_62 (by decide) ⟨by omega, by omega⟩ ⟨by omega, by omega⟩ (fun h62 => ?_) (fun h62 => by exfalso; omega)
      refine r_pc 82 rfl ?_
      exact r_vret dX3_init_82 rfl ⟨A', hh, rfl, hA1, hA2⟩
    | succ m ih =>
      intro j hj0 hjm g hh
      have hkj := nwJ_lv h0.1 (σ := σ) j
      refine r_iload_n dX3_init_59 rfl rfl ?_
      refine e_bipush dX3_init_60 (by decide +kernel) ?_
      refine e_ic_ge 82 dX3_init_62 (by decide) ⟨by omega, by omega⟩ ⟨by omega, by omega⟩ (fun h62 => by exfalso; omega) (fun h62 => ?_)
      refine r_pc 65 rfl ?_
      refine r_aload_nO dX3_init_65 rfl rfl ?_
      refine r_iload_n dX3_init_66 rfl rfl ?_
      refine e_sipush dX3_init_67 (by decide +kernel) ?_
      refine e_iconst dX3_init_70 ?_
      refine e_iconst dX3_init_71 ?_
      refine e_iconst dX3_init_72 ?_
      refine e_callVV (z := MX3_fill) dX3_init_73 ml_X3_34 cz_X3_fill mk_X3_fill ms_X3_fill cb3 (by decide) (s_fill (σ := nwJ σ j) hkj (by omega)) rfl rfl (by simp [cat_rf, cat_i, cat_l, cat_r, cat_n]) (by decide) (by assumption) (by assumption) (fun g hh => ?_)
      refine r_pc 76 rfl ?_
      refine e_iinc dX3_init_76 rfl (by decide) ?_
      refine r_goto 59 dX3_init_79 (by decide) ?_
      refine r_lv [(0, vr A' 3 (σ 99 3 0)), (1, .int (iI (σ 99 3 0))), (2, .int (iI (j + 1)))] rfl ?_
      exact ih (j + 1) (by omega) (by omega) g (by rw [← nwJ_s hj0]; exact hh)
  refine e_start rfl (by show (lg_sl _).length ≤ 3; simp [lg_sl, cat_rf, cat_i, cat_l, cat_r, cat_n]) (lv := [(0, .ref b), (1, .int (iI (σ 99 3 0)))]) (by simp [lv_args, cat_rf, cat_i, cat_l, cat_r, cat_n]) ?_
  refine r_aload_n dX3_init_0 rfl rfl ?_
  refine r_objInit dX3_init_1 ml_X3_3 (by decide) (by simp [cat_rf, cat_i, cat_l, cat_r, cat_n]) ?_
  refine r_aload_n dX3_init_4 rfl rfl ?_
  refine e_bipush dX3_init_5 (by decide +kernel) ?_
  refine e_tinew (m := 0) dX3_init_7 hN (kc' := 5) (ks' := 60) (by decide) (by decide) (fun g a hN => ?_)
  refine e_tiput (t := 3) (k := 6) (m := 0) dX3_init_9 cb3 (by decide) mf_X3_9 (by rfl) (by rfl) (by rfl) (by rfl) (by intro z; cases z <;> rfl) (by intro z; cases z <;> rfl) (by rfl) rfl rfl hN (fun g B hN => ?_)
  refine r_aload_n dX3_init_12 rfl rfl ?_
  refine e_bipush dX3_init_13 (by decide +kernel) ?_
  refine e_tinew (m := 1) dX3_init_15 hN (kc' := 4) (ks' := 48) (by decide) (by decide) (fun g a hN => ?_)
  refine e_tiput (t := 3) (k := 7) (m := 1) dX3_init_17 cb3 (by decide) mf_X3_15 (by rfl) (by rfl) (by rfl) (by rfl) (by intro z; cases z <;> rfl) (by intro z; cases z <;> rfl) (by rfl) rfl rfl hN (fun g B hN => ?_)
  refine r_aload_n dX3_init_20 rfl rfl ?_
  refine e_bipush dX3_init_21 (by decide +kernel) ?_
  refine e_tinew (m := 2) dX3_init_23 hN (kc' := 3) (ks' := 36) (by decide) (by decide) (fun g a hN => ?_)
  refine e_tiput (t := 3) (k := 8) (m := 2) dX3_init_25 cb3 (by decide) mf_X3_18 (by rfl) (by rfl) (by rfl) (by rfl) (by intro z; cases z <;> rfl) (by intro z; cases z <;> rfl) (by rfl) rfl rfl hN (fun g B hN => ?_)
  refine r_aload_n dX3_init_28 rfl rfl ?_
  refine e_bipush dX3_init_29 (by decide +kernel) ?_
  refine e_tinew (m := 3) dX3_init_31 hN (kc' := 2) (ks' := 24) (by decide) (by decide) (fun g a hN => ?_)
  refine e_tiput (t := 3) (k := 9) (m := 3) dX3_init_33 cb3 (by decide) mf_X3_21 (by rfl) (by rfl) (by rfl) (by rfl) (by intro z; cases z <;> rfl) (by intro z; cases z <;> rfl) (by rfl) rfl rfl hN (fun g B hN => ?_)
  refine r_aload_n dX3_init_36 rfl rfl ?_
  refine e_bipush dX3_init_37 (by decide +kernel) ?_
  refine e_tinew (m := 4) dX3_init_39 hN (kc' := 1) (ks' := 12) (by decide) (by decide) (fun g a hN => ?_)
  refine e_tiput (t := 3) (k := 10) (m := 4) dX3_init_41 cb3 (by decide) mf_X3_24 (by rfl) (by rfl) (by rfl) (by rfl) (by intro z; cases z <;> rfl) (by intro z; cases z <;> rfl) (by rfl) rfl rfl hN (fun g B hN => ?_)
  refine r_aload_n dX3_init_44 rfl rfl ?_
  refine e_bipush dX3_init_45 (by decide +kernel) ?_
  refine e_tinew (m := 5) dX3_init_47 hN (kc' := 0) (ks' := 0) (by decide) (by decide) (fun g a hN => ?_)
  refine e_tiput (t := 3) (k := 11) (m := 5) dX3_init_49 cb3 (by decide) mf_X3_27 (by rfl) (by rfl) (by rfl) (by rfl) (by intro z; cases z <;> rfl) (by intro z; cases z <;> rfl) (by rfl) rfl rfl hN (fun g B hN => ?_)
  refine r_aload_n dX3_init_52 rfl rfl ?_
  refine r_iload_n dX3_init_53 rfl rfl ?_
  have hN0 := hN
  obtain ⟨hh, hlb, hoff, -⟩ := hN
  refine e_putXFI (t := 3) (k := 0) dX3_init_54 cb3 (by decide) mf_X3_30 (by rfl) (by rfl) (by rfl) (by rfl) (by rfl) (by rfl) (by rfl) (by assumption) hoff (by assumption) (fun hh => ?_)
  have hh := ti_grow h0.1 hN0
  obtain ⟨A', hA'⟩ : ∃ A', A' = gT A (σ 99 3 0) (fun t => if t = 3 then b else B (t - 8)) := ⟨_, rfl⟩
  have hA1 : A' 3 (σ 99 3 0) = b := by rw [hA', gT_n (Or.inl rfl), if_pos rfl]
  have hA2 : ∀ t r, ¬ (inT t ∧ r = σ 99 3 0) → A' t r = A t r := fun t r z => by rw [hA', gT_o z]
  have e5 : Value.ref b = vr A' 3 (σ 99 3 0) := by rw [vr_some h0.1, hA1]
  rw [← hA'] at hh
  rw [e5]
  refine e_iconst dX3_init_57 ?_
  refine r_istore_n dX3_init_58 rfl (by decide) ?_
  refine r_lv [(0, vr A' 3 (σ 99 3 0)), (1, .int (iI (σ 99 3 0))), (2, .int (iI 0))] rfl ?_
  exact loop A' hA1 hA2 12 0 (by omega) (by omega) _ hh
