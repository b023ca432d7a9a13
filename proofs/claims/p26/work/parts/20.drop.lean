theorem s_hang0 {κ : KK} {A : Nat → Int → Nat} {σ : ST} {k q : Int} (hk : Lv σ 3 k) (hqd : -1 ≤ q ∧ q < σ 99 3 0) (hq : q < 0) : PV κ A MX4_hangBeneath 0 σ [vr A 3 k, vr A 3 q] none (up σ 3 k 1 q) := by
  intro g hh
  refine e_start rfl (by show (lg_sl _).length ≤ 2; simp [lg_sl, cat_rf, cat_i, cat_l, cat_r, cat_n]) (lv := [(0, vr A 3 k), (1, vr A 3 q)]) (by simp [lv_args, cat_rf, cat_i, cat_l, cat_r, cat_n]) ?_
  refine r_aload_nO dX4_hangBeneath_0 rfl rfl ?_
  refine r_aload_nO dX4_hangBeneath_1 rfl rfl ?_
  refine e_putR (t := 3) (k := 1) (t1 := 3) 1 dX4_hangBeneath_2 cb3 (by decide) mf_X4_129 (by rfl) (by rfl) (by intro z; cases z <;> rfl) (by intro z; cases z <;> rfl) (by rfl) (by rfl) (by decide) (by rfl) rfl (by assumption) (by assumption) (by assumption) (fun g hh => ?_)
  refine r_aload_nO dX4_hangBeneath_5 rfl rfl ?_
  refine e_ifnull 14 dX4_hangBeneath_6 (by decide) (fun h6 => ?_) (fun h6 => by exfalso; omega)
  refine r_pc 14 rfl ?_
  exact q_vret dX4_hangBeneath_14 rfl (by assumption)
theorem s_hang1 {κ : KK} {A : Nat → Int → Nat} {σ : ST} {k q : Int} (hk : Lv σ 3 k) (hqd : -1 ≤ q ∧ q < σ 99 3 0) (hq : Lv σ 3 q) : PV κ A MX4_hangBeneath 0 σ [vr A 3 k, vr A 3 q] none (up (up σ 3 k 1 q) 3 q 4 1) := by
  intro g hh
  refine e_start rfl (by show (lg_sl _).length ≤ 2; simp [lg_sl, cat_rf, cat_i, cat_l, cat_r, cat_n]) (lv := [(0, vr A 3 k), (1, vr A 3 q)]) (by simp [lv_args, cat_rf, cat_i, cat_l, cat_r, cat_n]) ?_
  have hq0 := hq.1
  refine r_aload_nO dX4_hangBeneath_0 rfl rfl ?_
  refine r_aload_nO dX4_hangBeneath_1 rfl rfl ?_
  refine e_putR (t := 3) (k := 1) (t1 := 3) 1 dX4_hangBeneath_2 cb3 (by decide) mf_X4_129 (by rfl) (by rfl) (by intro z; cases z <;> rfl) (by intro z; cases z <;> rfl) (by rfl) (by rfl) (by decide) (by rfl) rfl (by assumption) (by assumption) (by assumption) (fun g hh => ?_)
  refine r_aload_nO dX4_hangBeneath_5 rfl rfl ?_
  refine e_ifnull 14 dX4_hangBeneath_6 (by decide) (fun h6 => by exfalso; omega) (fun h6 => ?_)
  refine r_pc 9 rfl ?_
  refine r_aload_nO dX4_hangBeneath_9 rfl rfl ?_
  refine e_iconst dX4_hangBeneath_10 ?_
  refine e_putI (t := 3) (k := 4) 4 dX4_hangBeneath_11 cb3 (by decide) mf_X4_287 (by rfl) (by rfl) (narrow_01 (by omega)) (by rfl) (by rfl) rfl (by assumption) (by assumption) (fun g hh => ?_)
  exact q_vret dX4_hangBeneath_14 rfl (by assumption)
theorem s_mayDef {κ : KK} {A : Nat → Int → Nat} {σ : ST} {k n : Int} (hk : Lv σ 3 k) (hn : 0 ≤ n ∧ n < 12) (h32 : TrOk (σ 15 k n)) (hs : σ 3 k 3 = 0 ∨ σ 3 k 3 = 1) : PU κ A MX4_mayDefine 1 σ [vr A 3 k, .int (iI n)] (.int (iI (if σ 15 k n = 0 then 1 - σ 3 k 3 else 1 - bI (isFx (σ 15 k n))))) := by
  intro g hh
  refine e_start rfl (by show (lg_sl _).length ≤ 2; simp [lg_sl, cat_rf, cat_i, cat_l, cat_r, cat_n]) (lv := [(0, vr A 3 k), (1, .int (iI n))]) (by simp [lv_args, cat_rf, cat_i, cat_l, cat_r, cat_n]) ?_
  refine r_aload_nO dX4_mayDefine_0 rfl rfl ?_
  refine r_iload_n dX4_mayDefine_1 rfl rfl ?_
  refine e_callVP (z := MX3_has) dX4_mayDefine_2 ml_X4_118 cz_X3_has mk_X3_has ms_X3_has cb3 (by decide) (s_has hk hn h32) rfl rfl (by simp [cat_rf, cat_i, cat_l, cat_r, cat_n]) (by decide) (by assumption) (by assumption) (fun g hh => ?_)
  refine r_pc 5 rfl ?_
  refine e_ifeq_b 25 dX4_mayDefine_5 (by decide) (fun h5 => ?_) (fun h5 => ?_)
  · refine r_pc 25 rfl ?_
    refine r_aload_nO dX4_mayDefine_25 rfl rfl ?_
    refine e_getI (t := 3) (k := 3) 3 dX4_mayDefine_26 cb3 (by decide) mf_X4_133 (by rfl) rfl (by assumption) (by assumption) ?_
    refine e_if_ne 36 dX4_mayDefine_29 (by decide) ⟨by omega, by omega⟩ (fun h29 => ?_) (fun h29 => ?_)
    · refine r_pc 36 rfl ?_
      refine e_iconst dX4_mayDefine_36 ?_
      exact q_zret dX4_mayDefine_37 rfl (by omega) (by rw [if_pos (by omega)]; omega) (by assumption)
    · refine r_pc 32 rfl ?_
      refine e_iconst dX4_mayDefine_32 ?_
      refine r_goto 37 dX4_mayDefine_33 (by decide) ?_
      exact q_zret dX4_mayDefine_37 rfl (by omega) (by rw [if_pos (by omega)]; omega) (by assumption)
  · refine r_pc 8 rfl ?_
    refine r_aload_nO dX4_mayDefine_8 rfl rfl ?_
    refine r_iload_n dX4_mayDefine_9 rfl rfl ?_
    refine e_iconst dX4_mayDefine_10 ?_
    refine e_callVP (z := MX3_is) dX4_mayDefine_11 ml_X4_86 cz_X3_is mk_X3_is ms_X3_is cb3 (by decide) (s_is4 hk hn h32) rfl rfl (by simp [cat_rf, cat_i, cat_l, cat_r, cat_n]) (by decide) (by assumption) (by assumption) (fun g hh => ?_)
    refine r_pc 14 rfl ?_
    refine e_ifne_b 21 dX4_mayDefine_14 (by decide) (fun h14 => ?_) (fun h14 => ?_)
    · refine r_pc 21 rfl ?_
      refine e_iconst dX4_mayDefine_21 ?_
      refine r_goto 37 dX4_mayDefine_22 (by decide) ?_
      exact q_zret dX4_mayDefine_37 rfl (by omega) (by rw [if_neg h5, bI_t h14]; rfl) (by assumption)
    · refine r_pc 17 rfl ?_
      refine e_iconst dX4_mayDefine_17 ?_
      refine r_goto 37 dX4_mayDefine_18 (by decide) ?_
      exact q_zret dX4_mayDefine_37 rfl (by omega) (by rw [if_neg h5, bI_f h14]; rfl) (by assumption)
theorem s_canSettle {κ : KK} {A : Nat → Int → Nat} {σ : ST} {k : Int} (hk : Lv σ 3 k) (hz : 0 ≤ σ 3 k 5 ∧ σ 3 k 5 ≤ 12) : PU κ A MX4_canSettle 0 σ [vr A 3 k] (.int (iI (bI (σ 3 k 2 < 0 ∧ σ 3 k 5 ≤ 8)))) := by
  intro g hh
  refine e_start rfl (by show (lg_sl _).length ≤ 1; simp [lg_sl, cat_rf, cat_i, cat_l, cat_r, cat_n]) (lv := [(0, vr A 3 k)]) (by simp [lv_args, cat_rf, cat_i, cat_l, cat_r, cat_n]) ?_
  refine r_aload_nO dX4_canSettle_0 rfl rfl ?_
  refine e_getR (t := 3) (k := 2) (t1 := 1) 2 dX4_canSettle_1 cb3 (by decide) mf_X4_62 (by rfl) (by rfl) (by decide) rfl (by assumption) (by assumption) ?_
  refine e_ifnonnull 20 dX4_canSettle_4 (by decide) (fun h4 => ?_) (fun h4 => ?_)
  · refine r_pc 20 rfl ?_
    refine e_iconst dX4_canSettle_20 ?_
    exact q_zret dX4_canSettle_21 rfl (by omega) (by exact (bI_f (by omega)).symm) (by assumption)
  · refine r_pc 7 rfl ?_
    refine r_aload_nO dX4_canSettle_7 rfl rfl ?_
    refine e_getI (t := 3) (k := 5) 5 dX4_canSettle_8 cb3 (by decide) mf_X4_141 (by rfl) rfl (by assumption) (by assumption) ?_
    refine e_bipush dX4_canSettle_11 (by decide +kernel) ?_
    refine e_ic_gt 20 dX4_canSettle_13 (by decide) ⟨by omega, by omega⟩ ⟨by omega, by omega⟩ (fun h13 => ?_) (fun h13 => ?_)
    · refine r_pc 20 rfl ?_
      refine e_iconst dX4_canSettle_20 ?_
      exact q_zret dX4_canSettle_21 rfl (by omega) (by exact (bI_f (by omega)).symm) (by assumption)
    · refine r_pc 16 rfl ?_
      refine e_iconst dX4_canSettle_16 ?_
      refine r_goto 21 dX4_canSettle_17 (by decide) ?_
      exact q_zret dX4_canSettle_21 rfl (by omega) (by exact (bI_t (by omega)).symm) (by assumption)
/-- only entries, and how many there are and were dropped, are others -/
def Same (σ σ' : ST) : Prop := (∀ t r c, t ≠ 0 → t ≠ 11 → t ≠ 12 → t ≠ 13 → σ' t r c = σ t r c) ∧ (∀ p c, c ≠ 0 → c ≠ 8 → σ' 0 p c = σ 0 p c)
/-- the entries of a Place come from those that it had -/
def Sub1 (σ σ' : ST) (p : Int) : Prop := (0 ≤ σ' 0 p 0 ∧ σ' 0 p 0 ≤ σ 0 p 0) ∧ σ' 0 p 0 + σ' 0 p 8 = σ 0 p 0 + σ 0 p 8 ∧ ∃ f : Int → Int, (∀ e, (0 ≤ e ∧ e < σ' 0 p 0) → (0 ≤ f e ∧ f e < σ 0 p 0) ∧ σ' 11 p e = σ 11 p (f e) ∧ σ' 12 p e = σ 12 p (f e) ∧ σ' 13 p e = σ 13 p (f e)) ∧ (∀ e e', 0 ≤ e → e < e' → e' < σ' 0 p 0 → f e < f e')
theorem Same.rf' (σ : ST) : Same σ σ := ⟨fun _ _ _ _ _ _ _ => rfl, fun _ _ _ _ => rfl⟩
theorem Sub1.rf' {σ : ST} {p : Int} (h : 0 ≤ σ 0 p 0) : Sub1 σ σ p := ⟨⟨h, Int.le_refl _⟩, rfl, fun e => e, fun e he => ⟨he, rfl, rfl, rfl⟩, fun e e' _ h _ => h⟩
theorem Same.ct {σ σ' : ST} (h : Same σ σ') (t : Nat) : cnt σ' t = cnt σ t := by
  have e1 : σ' 99 1 0 = σ 99 1 0 := h.1 99 1 0 (by decide) (by decide) (by decide) (by decide)
  have e2 : σ' 99 3 0 = σ 99 3 0 := h.1 99 3 0 (by decide) (by decide) (by decide) (by decide)
  have e3 : σ' 99 25 0 = σ 99 25 0 := h.1 99 25 0 (by decide) (by decide) (by decide) (by decide)
  have e4 : σ' 99 26 0 = σ 99 26 0 := h.1 99 26 0 (by decide) (by decide) (by decide) (by decide)
  unfold cnt
  rw [e1, e2, e3, e4]
theorem Same.lv {σ σ' : ST} (h : Same σ σ') {t : Nat} {r : Int} : Lv σ' t r ↔ Lv σ t r := by
  unfold Lv
  rw [h.ct]
theorem Same.wt {σ σ' : ST} (h : Same σ σ') (w : WT σ) : WT σ' := by
  have e : ∀ t r c, t ≠ 0 → t ≠ 11 → t ≠ 12 → t ≠ 13 → σ' t r c = σ t r c := h.1
  obtain ⟨w1, w2, w3⟩ := w
  refine ⟨by rw [e 4, e 99]; exact w1; all_goals decide, by rw [e 99]; exact w2; all_goals decide, fun k hk => ?_⟩
  have w4 := w3 k (h.lv.mp hk)
  simp only [e 3 k _ (by decide) (by decide) (by decide) (by decide), e 6 0 _ (by decide) (by decide) (by decide) (by decide), e 99 _ _ (by decide) (by decide) (by decide) (by decide)]
  exact w4
theorem Same.ws {σ σ' : ST} (h : Same σ σ') (w : WS σ) : WS σ' := by
  have e : ∀ t r c, t ≠ 0 → t ≠ 11 → t ≠ 12 → t ≠ 13 → σ' t r c = σ t r c := h.1
  obtain ⟨w1, w2, w3⟩ := w
  refine ⟨by rw [e 2, e 99]; exact w1; all_goals decide, by rw [e 99]; exact w2; all_goals decide, fun k hk => ?_⟩
  have w4 := w3 k (h.lv.mp hk)
  simp only [e 1 k _ (by decide) (by decide) (by decide) (by decide), e 10 0 _ (by decide) (by decide) (by decide) (by decide), e 99 _ _ (by decide) (by decide) (by decide) (by decide)]
  exact w4
theorem Same.wl {σ σ' : ST} {L : Int → List Int} (h : Same σ σ') (w : WL σ L) : WL σ' L := by
  intro k hk
  rw [h.1 3 k 1 (by decide) (by decide) (by decide) (by decide)]
  exact w k (h.lv.mp hk)
theorem Same.wf {σ σ' : ST} (h : Same σ σ') (w : WF σ) : WF σ' := by
  have e : ∀ t r c, t ≠ 0 → t ≠ 11 → t ≠ 12 → t ≠ 13 → σ' t r c = σ t r c := h.1
  intro k hk
  have w4 := w k (h.lv.mp hk)
  simp only [e 3 k _ (by decide) (by decide) (by decide) (by decide), e 14 k _ (by decide) (by decide) (by decide) (by decide), e 15 k _ (by decide) (by decide) (by decide) (by decide)]
  exact w4
theorem Same.wv {σ σ' : ST} (h : Same σ σ') (w : WV σ) : WV σ' := by
  have e : ∀ t r c, t ≠ 0 → t ≠ 11 → t ≠ 12 → t ≠ 13 → σ' t r c = σ t r c := h.1
  intro k n hk hn
  have w4 := w k n (h.lv.mp hk) hn
  simp only [e 15 k _ (by decide) (by decide) (by decide) (by decide), e 16 k _ (by decide) (by decide) (by decide) (by decide), e 17 k _ (by decide) (by decide) (by decide) (by decide), e 18 k _ (by decide) (by decide) (by decide) (by decide), e 19 k _ (by decide) (by decide) (by decide) (by decide)]
  exact w4
theorem Sub1.wp {σ σ' : ST} (h : Same σ σ') (hs : ∀ p, Lv σ 0 p → Sub1 σ σ' p) (w : WP σ) : WP σ' := by
  intro p hp
  have hp' := h.lv.mp hp
  obtain ⟨a, b, f, f1, f2⟩ := hs p hp'
  obtain ⟨w1, w2⟩ := w p hp'
  refine ⟨⟨by omega, by omega⟩, fun e he => ?_⟩
  obtain ⟨q1, q2, q3, q4⟩ := f1 e he
  rw [h.lv, q2, q3, q4]
  exact w2 _ q1
/-- an entry is taken away and counted -/
def dst (σ : ST) (j e : Int) : ST := up (tkE σ j e) 0 j 8 (σ 0 j 8 + 1)
theorem dst_0 (σ : ST) (j e : Int) : dst σ j e 0 j 0 = σ 0 j 0 - 1 := by
  unfold dst
  rw [up_ne (by omega)]
  exact tkE_sz σ j e
theorem dst_8 (σ : ST) (j e : Int) : dst σ j e 0 j 8 = σ 0 j 8 + 1 := up_at _ _ _ _ _
theorem dst_e {σ : ST} {j e : Int} (t : Nat) (ht : t = 11 ∨ t = 12 ∨ t = 13) (x : Int) : dst σ j e t j x = if e ≤ x ∧ x < σ 0 j 0 - 1 then σ t j (x + 1) else σ t j x := by
  unfold dst tkE
  rw [up_ne (by omega), up_ne (by omega)]
  unfold shE
  by_cases h : e ≤ x ∧ x < σ 0 j 0 - 1
  · rw [if_pos ⟨ht, rfl, h⟩, if_pos h]
  · rw [if_neg (fun q => h q.2.2), if_neg h]
theorem dst_ne {σ : ST} {j e : Int} {t : Nat} {r c : Int} (h : ¬ (r = j ∧ (t = 11 ∨ t = 12 ∨ t = 13 ∨ (t = 0 ∧ (c = 0 ∨ c = 8))))) : dst σ j e t r c = σ t r c := by
  unfold dst tkE
  rw [up_ne (by omega), up_ne (by omega)]
  unfold shE
  rw [if_neg (by omega)]
theorem dst_same {σ σ' : ST} (h : Same σ σ') (j e : Int) : Same σ (dst σ' j e) := by
  refine ⟨fun t r c h1 h2 h3 h4 => ?_, fun p c h1 h2 => ?_⟩
  · rw [dst_ne (by omega)]
    exact h.1 t r c h1 h2 h3 h4
  · rw [dst_ne (by omega)]
    exact h.2 p c h1 h2
theorem dst_sub {σ σ' : ST} {j e : Int} (hs : ∀ p, Lv σ 0 p → Sub1 σ σ' p) (he : 0 ≤ e ∧ e < σ' 0 j 0) : ∀ p, Lv σ 0 p → Sub1 σ (dst σ' j e) p := by
  intro p hp
  obtain ⟨a, b, f, f1, f2⟩ := hs p hp
  by_cases hj : p = j
  · subst hj
    refine ⟨by rw [dst_0]; omega, by rw [dst_0, dst_8]; omega, fun x => if x < e then f x else f (x + 1), fun x hx => ?_, fun x x' h1 h2 h3 => ?_⟩
    · rw [dst_0] at hx
      rw [dst_e 11 (by decide), dst_e 12 (by decide), dst_e 13 (by decide)]
      by_cases q : x < e
      · rw [if_neg (by omega), if_neg (by omega), if_neg (by omega)]
        simp only [if_pos q]
        exact f1 x (by omega)
      · rw [if_pos (by omega), if_pos (by omega), if_pos (by omega)]
        simp only [if_neg q]
        exact f1 (x + 1) (by omega)
    · rw [dst_0] at h3
      show (if x < e then f x else f (x + 1)) < (if x' < e then f x' else f (x' + 1))
      by_cases q : x < e
      · rw [if_pos q]
        by_cases q' : x' < e
        · rw [if_pos q']
          exact f2 x x' h1 h2 (by omega)
        · rw [if_neg q']
          exact f2 x (x' + 1) h1 (by omega) (by omega)
      · rw [if_neg q, if_neg (by omega)]
        exact f2 (x + 1) (x' + 1) (by omega) (by omega) (by omega)
  · unfold Sub1
    rw [dst_ne (by omega), dst_ne (by omega)]
    refine ⟨a, b, f, fun x hx => ?_, f2⟩
    rw [dst_ne (by omega), dst_ne (by omega), dst_ne (by omega)]
    exact f1 x hx
/-- another state that there is -/
def EQ (κ : KK) (A : Nat → Int → Nat) (R : Option Value → ST → Prop) : Option Value → GG → Prop := fun r h => ∃ σ' : ST, HR κ A h σ' ∧ R r σ'
/-- what dropEntries does: entries go; of a watched one all go whose Shape hangs in its line -/
def DE (σ : ST) (L : Int → List Int) (k : Int) (σ' : ST) : Prop := Same σ σ' ∧ (∀ p, Lv σ 0 p → Sub1 σ σ' p) ∧ (¬ σ 3 k 4 = 0 → ∀ p e, Lv σ 0 p → (0 ≤ e ∧ e < σ' 0 p 0) → k ∉ lo L (σ 1 (σ' 11 p e) 2))
theorem s_drop {κ : KK} {A : Nat → Int → Nat} {σ : ST} {g : GG} {L : Int → List Int} {k : Int} (hk : Lv σ 3 k) (hT : WT σ) (hL : WL σ L) (hS : WS σ) (hP : WP σ) (hh : HR κ A g σ) : Spec κ MX4_dropEntries 1 0 0 [vr A 4 0, vr A 3 k] g (EQ κ A (fun r σ' => r = none ∧ DE σ L k σ')) := by
  have h44 := (hT.2.2 k hk).2.2.2.2.2.1
  refine e_start rfl (by show (lg_sl _).length ≤ 5; simp [lg_sl, cat_rf, cat_i, cat_l, cat_r, cat_n]) (lv := [(0, vr A 4 0), (1, vr A 3 k)]) (by simp [lv_args, cat_rf, cat_i, cat_l, cat_r, cat_n]) ?_
  refine r_aload_nO dX4_dropEntries_0 rfl rfl ?_
  refine e_getI (t := 3) (k := 4) 4 dX4_dropEntries_1 cb3 (by decide) mf_X4_287 (by rfl) rfl (by assumption) (by assumption) ?_
  refine e_if_ne 8 dX4_dropEntries_4 (by decide) ⟨by omega, by omega⟩ (fun h4 => ?_) (fun h4 => ?_)
  · refine r_pc 8 rfl ?_
    refine e_iconst dX4_dropEntries_8 ?_
    refine r_istore_n dX4_dropEntries_9 rfl (by decide) ?_
    refine r_stw (by repeat' first | exact True.intro | refine And.intro (fun h => by first | rfl | exact cat_rf _ | exact absurd h (by decide)) ?_) ?_
    have hwp0 : ∀ p, Lv σ 0 p → 0 ≤ σ 0 p 0 := fun p hp => (hP p hp).1.1
    have loop : ∀ m : Nat, ∀ j : Int, 0 ≤ j → j + (m : Int) = 6 → ∀ σ', Same σ σ' → (∀ p, Lv σ 0 p → Sub1 σ σ' p) → (∀ p e, (0 ≤ p ∧ p < j) → (0 ≤ e ∧ e < σ' 0 p 0) → k ∉ lo L (σ 1 (σ' 11 p e) 2)) → ∀ g, HR κ A g σ' → Wp κ MX4_dropEntries 1 0 0 10 [(0, vr A 4 0), (1, vr A 3 k), (2, .int (iI j))] [] g (EQ κ A (fun r σ' => r = none ∧ DE σ L k σ')) := by
      intro m
      induction m with
      | zero =>
        intro j hj0 hjm σ' hs hsu hcl g hh
        refine r_iload_n dX4_dropEntries_10 rfl rfl ?_
        refine e_bipush dX4_dropEntries_11 (by decide +kernel) ?_
        refine e_ic_ge 81 dX4_dropEntries_13 (by decide) ⟨by omega, by omega⟩ ⟨by omega, by omega⟩ (fun h13 => ?_) (fun h13 => by exfalso; omega)
        refine r_pc 81 rfl ?_
        exact r_vret dX4_dropEntries_81 rfl ⟨σ', hh, rfl, hs, hsu, fun _ p e hp he => hcl p e ⟨hp.1, by have := hp.2; show p < j; have e6 : cnt σ 0 = 6 := rfl; omega⟩ he⟩
      | succ m ih =>
        intro j hj0 hjm σ' hs hsu hcl g hh
        have hj : Lv σ 0 j := ⟨hj0, by show j < 6; omega⟩
        have inn : ∀ q : Nat, ∀ e : Int, e + 1 = (q : Int) → ∀ σ', Same σ σ' → (∀ p, Lv σ 0 p → Sub1 σ σ' p) → (∀ p e, (0 ≤ p ∧ p < j) → (0 ≤ e ∧ e < σ' 0 p 0) → k ∉ lo L (σ 1 (σ' 11 p e) 2)) → e < σ' 0 j 0 → (∀ x, e < x → x < σ' 0 j 0 → k ∉ lo L (σ 1 (σ' 11 j x) 2)) → ∀ g, HR κ A g σ' → Wp κ MX4_dropEntries 1 0 0 31 [(0, vr A 4 0), (1, vr A 3 k), (2, .int (iI j)), (3, vr A 0 j), (4, .int (iI e))] [] g (EQ κ A (fun r σ' => r = none ∧ DE σ L k σ')) := by
          intro q
          induction q with
          | zero =>
            intro e heq σ' hs hsu hcl hez hce g hh
            refine r_iload dX4_dropEntries_31 rfl ?_
            refine e_if_lt 75 dX4_dropEntries_33 (by decide) ⟨by omega, by omega⟩ (fun h33 => ?_) (fun h33 => by exfalso; omega)
            refine r_pc 75 rfl ?_
            refine e_iinc dX4_dropEntries_75 rfl (by decide) ?_
            refine r_stw (by repeat' first | exact True.intro | refine And.intro (fun h => by first | rfl | exact cat_rf _ | exact absurd h (by decide)) ?_) ?_
            refine r_goto 10 dX4_dropEntries_78 (by decide) ?_
            refine r_lv [(0, vr A 4 0), (1, vr A 3 k), (2, .int (iI (j + 1)))] rfl ?_
            exact ih (j + 1) (by omega) (by omega) σ' hs hsu (fun p x hp hx => by by_cases z : p = j; (subst z; exact hce x (by omega) hx.2); exact hcl p x (by omega) hx) g hh
          | succ q ihq =>
            intro e heq σ' hs hsu hcl hez hce g hh
            have hT' := hs.wt hT
            have hL' := hs.wl hL
            have hS' := hs.ws hS
            have hP' := Sub1.wp hs hsu hP
            have hj' : Lv σ' 0 j := hs.lv.mpr hj
            have hk' : Lv σ' 3 k := hs.lv.mpr hk
            have hpj := hP' j hj'
            obtain ⟨hs1, -, -⟩ := hpj.2 e (by omega)
            have hrp := (hS'.2.2 _ hs1).2.2.2.1
            have e1 : σ' 1 (σ' 11 j e) 2 = σ 1 (σ' 11 j e) 2 := hs.1 1 _ _ (by decide) (by decide) (by decide) (by decide)
            refine r_iload dX4_dropEntries_31 rfl ?_
            refine e_if_lt 75 dX4_dropEntries_33 (by decide) ⟨by omega, by omega⟩ (fun h33 => by exfalso; omega) (fun h33 => ?_)
            refine r_pc 36 rfl ?_
            refine r_aload_nO dX4_dropEntries_36 rfl rfl ?_
            refine e_getF (t := 0) (k := 1) (t1 := 11) dX4_dropEntries_37 cb0 (by decide) mf_X4_303 (by rfl) (by rfl) (by decide) (by assumption) (by assumption) ?_
            refine r_iload dX4_dropEntries_40 rfl ?_
            refine e_aald (t := 11) (t1 := 1) dX4_dropEntries_42 (by decide) (by decide) (by decide) (by intro _; rfl) (by decide) (by assumption) (by first | assumption | exact lv_as 0 (by assumption) (by rfl)) (by have e : ln 11 = 3 := rfl; omega) ?_
            refine e_getR (t := 1) (k := 2) (t1 := 3) 2 dX4_dropEntries_43 cb1 (by decide) mf_X4_304 (by rfl) (by rfl) (by decide) rfl (by assumption) (by assumption) ?_
            refine r_aload_nO dX4_dropEntries_46 rfl rfl ?_
            refine e_callSP (z := MX4_isInLine) dX4_dropEntries_47 ml_X4_137 cz_X4_isInLine mk_X4_isInLine (s_isInLine hrp hk' hT' hL') rfl rfl (by simp [cat_rf, cat_i, cat_l, cat_r, cat_n]) (by decide) (by assumption) (fun g hh => ?_)
            refine r_pc 50 rfl ?_
            refine e_ifeq_b 69 dX4_dropEntries_50 (by decide) (fun h50 => ?_) (fun h50 => ?_)
            · refine r_pc 69 rfl ?_
              refine e_iinc dX4_dropEntries_69 rfl (by decide) ?_
              refine r_stw (by repeat' first | exact True.intro | refine And.intro (fun h => by first | rfl | exact cat_rf _ | exact absurd h (by decide)) ?_) ?_
              refine r_goto 31 dX4_dropEntries_72 (by decide) ?_
              refine r_lv [(0, vr A 4 0), (1, vr A 3 k), (2, .int (iI j)), (3, vr A 0 j), (4, .int (iI (e + -1)))] rfl ?_
              exact ihq (e + -1) (by omega) σ' hs hsu hcl (by omega) (fun x h1 h2 => by by_cases z : x = e; (subst z; rw [← e1]; exact h50); exact hce x (by omega) h2) g hh
            · refine r_pc 53 rfl ?_
              refine r_aload_nO dX4_dropEntries_53 rfl rfl ?_
              refine r_iload dX4_dropEntries_54 rfl ?_
              refine e_callVV (z := MX0_takeAway) dX4_dropEntries_56 ml_X4_309 cz_X0_takeAway mk_X0_takeAway ms_X0_takeAway cb0 (by decide) (s_takeE hj' hP' (a := e) (by omega)) rfl rfl (by simp [cat_rf, cat_i, cat_l, cat_r, cat_n]) (by decide) (by assumption) (by assumption) (fun g hh => ?_)
              refine r_pc 59 rfl ?_
              have hj2 : Lv (tkE σ' j e) 0 j := hj'
              refine r_aload_nO dX4_dropEntries_59 rfl rfl ?_
              refine r_dup dX4_dropEntries_60 (by first | rfl | exact cat_rf _) ?_
              refine e_getI (t := 0) (k := 8) 8 dX4_dropEntries_61 cb0 (by decide) mf_X4_310 (by rfl) rfl (by assumption) (by assumption) ?_
              refine e_iv (show _ = σ' 0 j 8 from rfl) ?_
              refine e_iconst dX4_dropEntries_64 ?_
              first | refine e_iadd dX4_dropEntries_65 ?_ | refine r_iadd dX4_dropEntries_65 ?_
              refine e_putI (t := 0) (k := 8) 8 dX4_dropEntries_66 cb0 (by decide) mf_X4_310 (by rfl) (by rfl) (by rfl) (by rfl) (by rfl) rfl (by assumption) (by assumption) (fun g hh => ?_)
              refine e_iinc dX4_dropEntries_69 rfl (by decide) ?_
              refine r_stw (by repeat' first | exact True.intro | refine And.intro (fun h => by first | rfl | exact cat_rf _ | exact absurd h (by decide)) ?_) ?_
              refine r_goto 31 dX4_dropEntries_72 (by decide) ?_
              refine r_lv [(0, vr A 4 0), (1, vr A 3 k), (2, .int (iI j)), (3, vr A 0 j), (4, .int (iI (e + -1)))] rfl ?_
              refine ihq (e + -1) (by omega) (dst σ' j e) (dst_same hs j e) (dst_sub hsu (by omega)) (fun p x hp hx => ?_) (by rw [dst_0]; omega) (fun x h1 h2 => ?_) g hh
              · rw [dst_ne (by omega)] at hx ⊢
                exact hcl p x hp hx
              · rw [dst_0] at h2
                rw [dst_e 11 (by decide), if_pos (by omega)]
                exact hce (x + 1) (by omega) (by omega)
        have hT' := hs.wt hT
        have hP' := Sub1.wp hs hsu hP
        have hj' : Lv σ' 0 j := hs.lv.mpr hj
        have hpj := (hP' j hj').1
        refine r_iload_n dX4_dropEntries_10 rfl rfl ?_
        refine e_bipush dX4_dropEntries_11 (by decide +kernel) ?_
        refine e_ic_ge 81 dX4_dropEntries_13 (by decide) ⟨by omega, by omega⟩ ⟨by omega, by omega⟩ (fun h13 => by exfalso; omega) (fun h13 => ?_)
        refine r_pc 16 rfl ?_
        refine r_aload_nO dX4_dropEntries_16 rfl rfl ?_
        refine e_getF (t := 4) (k := 3) (t1 := 7) dX4_dropEntries_17 cb4 (by decide) mf_X4_24 (by rfl) (by rfl) (by decide) (by assumption) (lv1 _ 4 (fun _ => rfl)) ?_
        refine r_iload_n dX4_dropEntries_20 rfl rfl ?_
        refine e_aald7 dX4_dropEntries_21 (by assumption) (by have e : ln 7 = 6 := rfl; omega) ?_
        refine r_astore_nO dX4_dropEntries_22 rfl (by decide) ?_
        refine r_aload_nO dX4_dropEntries_23 rfl rfl ?_
        refine e_getI (t := 0) (k := 0) 0 dX4_dropEntries_24 cb0 (by decide) mf_X4_186 (by rfl) rfl (by assumption) (by assumption) ?_
        refine e_iconst dX4_dropEntries_27 ?_
        first | refine e_isub dX4_dropEntries_28 ?_ | refine r_isub dX4_dropEntries_28 ?_
        refine r_istore dX4_dropEntries_29 (by decide) ?_
        refine r_stw (by repeat' first | exact True.intro | refine And.intro (fun h => by first | rfl | exact cat_rf _ | exact absurd h (by decide)) ?_) ?_
        refine r_lv [(0, vr A 4 0), (1, vr A 3 k), (2, .int (iI j)), (3, vr A 0 j), (4, .int (iI (σ' 0 j 0 - 1)))] rfl ?_
        exact inn (σ' 0 j 0).toNat (σ' 0 j 0 - 1) (by omega) σ' hs hsu hcl (by omega) (fun x h1 h2 => by omega) g hh
    refine r_lv [(0, vr A 4 0), (1, vr A 3 k), (2, .int (iI 0))] rfl ?_
    exact loop 6 0 (by omega) (by omega) σ (Same.rf' σ) (fun p hp => Sub1.rf' (hwp0 p hp)) (fun p e hp => by omega) g hh
  · refine r_pc 7 rfl ?_
    exact r_vret dX4_dropEntries_7 rfl ⟨σ, hh, rfl, Same.rf' σ, fun p hp => Sub1.rf' (hP p hp).1.1, fun h => absurd h4 h⟩
