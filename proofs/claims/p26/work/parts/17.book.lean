/-- one more row in a table of single cells -/
def gA (A : Nat → Int → Nat) (t0 : Nat) (s : Int) (b : Nat) : Nat → Int → Nat := fun t r => if t = t0 ∧ r = s then b else A t r
theorem gA_at (A : Nat → Int → Nat) (t0 : Nat) (s : Int) (b : Nat) : gA A t0 s b t0 s = b := if_pos ⟨rfl, rfl⟩
theorem gA_ne {A : Nat → Int → Nat} {t0 t : Nat} {s r : Int} {b : Nat} (h : ¬ (t = t0 ∧ r = s)) : gA A t0 s b t r = A t r := if_neg h
theorem rf_gA {A : Nat → Int → Nat} {t0 t : Nat} {s v : Int} {b : Nat} (h : ¬ (t = t0 ∧ v = s)) : rf (gA A t0 s b) t v = rf A t v := by
  unfold rf
  rw [gA_ne h]
def gS (σ : ST) (t0 : Nat) (f : Int → Int) : ST := fun t r c => if t = 99 ∧ c = 0 ∧ r = (t0 : Int) then σ 99 (t0 : Int) 0 + 1 else if t = t0 ∧ r = σ 99 (t0 : Int) 0 then f c else σ t r c
theorem hr_grow {κ : KK} {A : Nat → Int → Nat} {g : GG} {σ : ST} (h : HR κ A g σ) {t0 b : Nat} {f : Int → Int} (ht0 : t0 = 1 ∨ t0 = 25 ∨ t0 = 26) (h0 : 0 ≤ σ 99 (t0 : Int) 0) (hb : lab κ g b (kd t0)) (hl : 6 ≤ t0 → gl g b = ln t0) (hoff : ∀ t r, t < 27 → Lv σ t r → A t r ≠ b)
    (hi : ∀ c : Nat, isI t0 c = true → gi g b c = iI (f c)) (hd : ∀ c t' : Nat, dt t0 c = t' → t' < 27 → gr g b c = rf A t' (f c)) (hdm : ∀ c t' : Nat, dt t0 c = t' → t' < 27 → -1 ≤ f c ∧ f c < cnt σ t') : HR κ (gA A t0 (σ 99 (t0 : Int) 0) b) g (gS σ t0 f) := by
  obtain ⟨h1, h2, h3, h4, h5, h6, h7, h8⟩ := h
  have hcnt : ∀ t, t < 27 → cnt (gS σ t0 f) t = if t = t0 then cnt σ t + 1 else cnt σ t := by
    intro t ht
    have e : t = 0 ∨ t = 1 ∨ t = 2 ∨ t = 3 ∨ t = 4 ∨ t = 5 ∨ t = 6 ∨ t = 7 ∨ t = 8 ∨ t = 9 ∨ t = 10 ∨ t = 11 ∨ t = 12 ∨ t = 13 ∨ t = 14 ∨ t = 15 ∨ t = 16 ∨ t = 17 ∨ t = 18 ∨ t = 19 ∨ t = 20 ∨ t = 21 ∨ t = 22 ∨ t = 23 ∨ t = 24 ∨ t = 25 ∨ t = 26 := by omega
    rcases ht0 with rfl | rfl | rfl <;> rcases e with rfl | rfl | rfl | rfl | rfl | rfl | rfl | rfl | rfl | rfl | rfl | rfl | rfl | rfl | rfl | rfl | rfl | rfl | rfl | rfl | rfl | rfl | rfl | rfl | rfl | rfl | rfl <;> rfl
  have hc0 : cnt σ t0 = σ 99 (t0 : Int) 0 := by rcases ht0 with rfl | rfl | rfl <;> rfl
  have ht26 : t0 < 27 := by omega
  have hx : ∀ c, ¬ fx t0 c < 27 := by
    intro c
    rcases ht0 with rfl | rfl | rfl
    · show ¬ 99 < 27; omega
    · show ¬ 99 < 27; omega
    · show ¬ 99 < 27; omega
  -- a row is an old one or the new one
  have old : ∀ t r, t < 27 → Lv (gS σ t0 f) t r → Lv σ t r ∧ ¬ (t = t0 ∧ r = σ 99 (t0 : Int) 0) ∨ (t = t0 ∧ r = σ 99 (t0 : Int) 0) := by
    intro t r ht hr
    obtain ⟨ha, hb⟩ := hr
    rw [hcnt t ht] at hb
    by_cases e : t = t0
    · subst e
      rw [if_pos rfl] at hb
      by_cases e2 : r = σ 99 (t : Int) 0
      · exact Or.inr ⟨rfl, e2⟩
      · exact Or.inl ⟨⟨ha, by omega⟩, fun q => e2 q.2⟩
    · rw [if_neg e] at hb
      exact Or.inl ⟨⟨ha, hb⟩, fun q => e q.1⟩
  have sold : ∀ t r c, t < 27 → ¬ (t = t0 ∧ r = σ 99 (t0 : Int) 0) → gS σ t0 f t r c = σ t r c := by
    intro t r c ht hn
    unfold gS
    rw [if_neg (by omega), if_neg hn]
  have snew : ∀ c, gS σ t0 f t0 (σ 99 (t0 : Int) 0) c = f c := by
    intro c
    unfold gS
    rw [if_neg (by omega), if_pos ⟨rfl, rfl⟩]
  have rfg : ∀ t' v, t' < 27 → (-1 ≤ v ∧ v < cnt σ t') → rf (gA A t0 (σ 99 (t0 : Int) 0) b) t' v = rf A t' v := by
    intro t' v ht hv
    refine rf_gA ?_
    rintro ⟨rfl, rfl⟩
    omega
  refine ⟨fun t r a b' => ?_, fun t r t' r' a a' b1 b2 e => ?_, fun t r c a b' e => ?_, fun t r c t' a b' e f' => ?_, fun t r c t' a b' e f' => ?_, fun c hc => ?_, fun c hc => ?_, fun t r c t' a b' e f' => ?_⟩
  · rcases old t r a b' with ⟨q, n⟩ | ⟨rfl, rfl⟩
    · rw [gA_ne n]
      exact h1 t r a q
    · rw [gA_at]
      exact ⟨hb, hl⟩
  · rcases old t r a b1 with ⟨q, n⟩ | ⟨rfl, rfl⟩
    · rcases old t' r' a' b2 with ⟨q', n'⟩ | ⟨rfl, rfl⟩
      · rw [gA_ne n, gA_ne n'] at e
        exact h2 t r t' r' a a' q q' e
      · rw [gA_ne n, gA_at] at e
        exact absurd e (hoff t r a q)
    · rcases old t' r' a' b2 with ⟨q', n'⟩ | ⟨rfl, rfl⟩
      · rw [gA_ne n', gA_at] at e
        exact absurd e.symm (hoff t' r' a' q')
      · exact ⟨rfl, rfl⟩
  · rcases old t r a b' with ⟨q, n⟩ | ⟨rfl, rfl⟩
    · rw [gA_ne n, sold t r c a n]
      exact h3 t r c a q e
    · rw [gA_at, snew]
      exact hi c e
  · rcases old t r a b' with ⟨q, n⟩ | ⟨rfl, rfl⟩
    · rw [gA_ne n, sold t r c a n, rfg t' _ f' (h8 t r c t' a q e f')]
      exact h4 t r c t' a q e f'
    · rw [gA_at, snew, rfg t' _ f' (hdm c t' e f')]
      exact hd c t' e f'
  · rcases old t r a b' with ⟨q, n⟩ | ⟨rfl, rfl⟩
    · rw [gA_ne n, gA_ne (A := A) (t := t') (r := r)]
      · exact h5 t r c t' a q e f'
      · rintro ⟨rfl, rfl⟩
        have : fx t c = 1 ∨ fx t c = 25 ∨ fx t c = 26 := by omega
        revert this
        unfold fx
        split <;> decide
    · exact absurd (by rw [e]; exact f') (hx c)
  · rw [gA_ne (by omega), gA_ne (by omega)]
    exact h6 c hc
  · rw [gA_ne (by omega), gA_ne (by omega)]
    exact h7 c hc
  · rw [hcnt t' f']
    rcases old t r a b' with ⟨q, n⟩ | ⟨rfl, rfl⟩
    · rw [sold t r c a n]
      have := h8 t r c t' a q e f'
      split <;> omega
    · rw [snew]
      have := hdm c t' e f'
      split <;> omega
theorem s_findRoot {κ : KK} {A : Nat → Int → Nat} {σ : ST} {q : Int} (hq : -1 ≤ q ∧ q < σ 99 3 0) (hS : WS σ) : ∃ v : Int, ((-1 ≤ v ∧ v < σ 99 1 0) ∧ (0 ≤ v → σ 1 v 1 < 0 ∧ σ 1 v 2 = q)) ∧ PU κ A MX2_findRoot 0 σ [vr A 2 0, vr A 3 q] (vr A 1 v) := by
  have hs1 := hS.1
  have hs2 := hS.2.1
  have loop : ∀ m : Nat, ∀ j : Int, 0 ≤ j → j + (m : Int) = σ 99 1 0 → ∃ v : Int, ((-1 ≤ v ∧ v < σ 99 1 0) ∧ (0 ≤ v → σ 1 v 1 < 0 ∧ σ 1 v 2 = q)) ∧ ∀ g, HR κ A g σ → Wp κ MX2_findRoot 0 0 0 2 [(0, vr A 2 0), (1, vr A 3 q), (2, .int (iI j))] [] g (PQ κ A σ (some (vr A 1 v))) := by
    intro m
    induction m with
    | zero =>
      intro j hj0 hjm
      refine ⟨-1, ⟨⟨by omega, by omega⟩, fun h => by omega⟩, fun g hh => ?_⟩
      refine r_iload_n dX2_findRoot_2 rfl rfl ?_
      refine r_aload_nO dX2_findRoot_3 rfl rfl ?_
      refine e_getI (t := 2) (k := 1) 1 dX2_findRoot_4 cb2 (by decide) mf_X2_17 (by rfl) rfl (by assumption) (lv1 _ 2 (fun _ => rfl)) ?_
      refine e_ic_ge 40 dX2_findRoot_7 (by decide) ⟨by omega, by omega⟩ ⟨by omega, by omega⟩ (fun h7 => ?_) (fun h7 => by exfalso; omega)
      refine r_pc 40 rfl ?_
      refine e_null A 1 dX2_findRoot_40 ?_
      exact q_aret dX2_findRoot_41 rfl (Or.inl ⟨_, rfl⟩) (by rfl) (by assumption)
    | succ m ih =>
      intro j hj0 hjm
      have hjs : Lv σ 1 j := ⟨by omega, by show j < σ 99 1 0; omega⟩
      obtain ⟨hj1, hj2, hj3, hj4, hj5, hj6, hj7⟩ := hS.2.2 j hjs
      by_cases hc : σ 1 j 1 < 0 ∧ σ 1 j 2 = q
      · refine ⟨j, ⟨⟨by omega, by omega⟩, fun _ => hc⟩, fun g hh => ?_⟩
        refine r_iload_n dX2_findRoot_2 rfl rfl ?_
        refine r_aload_nO dX2_findRoot_3 rfl rfl ?_
        refine e_getI (t := 2) (k := 1) 1 dX2_findRoot_4 cb2 (by decide) mf_X2_17 (by rfl) rfl (by assumption) (lv1 _ 2 (fun _ => rfl)) ?_
        refine e_ic_ge 40 dX2_findRoot_7 (by decide) ⟨by omega, by omega⟩ ⟨by omega, by omega⟩ (fun h7 => by exfalso; omega) (fun h7 => ?_)
        refine r_pc 10 rfl ?_
        refine r_aload_nO dX2_findRoot_10 rfl rfl ?_
        refine e_getF (t := 2) (k := 0) (t1 := 10) dX2_findRoot_11 cb2 (by decide) mf_X2_11 (by rfl) (by rfl) (by decide) (by assumption) (lv1 _ 2 (fun _ => rfl)) ?_
        refine r_iload_n dX2_findRoot_14 rfl rfl ?_
        refine e_aald (t := 10) (t1 := 1) dX2_findRoot_15 (by decide) (by decide) (by decide) (by intro _; rfl) (by decide) (by assumption) (lv1 _ 10 (fun _ => rfl)) (by have e : ln 10 = 80 := rfl; omega) ?_
        refine e_rv hj1 ?_
        refine r_astore_nO dX2_findRoot_16 rfl (by decide) ?_
        refine r_aload_nO dX2_findRoot_17 rfl rfl ?_
        refine e_getR (t := 1) (k := 1) (t1 := 1) 1 dX2_findRoot_18 cb1 (by decide) mf_X2_21 (by rfl) (by rfl) (by decide) rfl (by assumption) (by assumption) ?_
        refine e_ifnonnull 34 dX2_findRoot_21 (by decide) (fun h21 => by exfalso; omega) (fun h21 => ?_)
        refine r_pc 24 rfl ?_
        refine r_aload_nO dX2_findRoot_24 rfl rfl ?_
        refine e_getR (t := 1) (k := 2) (t1 := 3) 2 dX2_findRoot_25 cb1 (by decide) mf_X2_25 (by rfl) (by rfl) (by decide) rfl (by assumption) (by assumption) ?_
        refine r_aload_nO dX2_findRoot_28 rfl rfl ?_
        refine e_ac_ne (t := 3) 34 dX2_findRoot_29 (by decide) (by assumption) (by decide) hj4 hq (fun h29 => by exact absurd hc.2 h29) (fun h29 => ?_)
        refine r_pc 32 rfl ?_
        refine r_aload_nO dX2_findRoot_32 rfl rfl ?_
        exact q_aret dX2_findRoot_33 rfl (Or.inl ⟨_, rfl⟩) (by rfl) (by assumption)
      · obtain ⟨v, hv, hw⟩ := ih (j + 1) (by omega) (by omega)
        refine ⟨v, hv, fun g hh => ?_⟩
        refine r_iload_n dX2_findRoot_2 rfl rfl ?_
        refine r_aload_nO dX2_findRoot_3 rfl rfl ?_
        refine e_getI (t := 2) (k := 1) 1 dX2_findRoot_4 cb2 (by decide) mf_X2_17 (by rfl) rfl (by assumption) (lv1 _ 2 (fun _ => rfl)) ?_
        refine e_ic_ge 40 dX2_findRoot_7 (by decide) ⟨by omega, by omega⟩ ⟨by omega, by omega⟩ (fun h7 => by exfalso; omega) (fun h7 => ?_)
        refine r_pc 10 rfl ?_
        refine r_aload_nO dX2_findRoot_10 rfl rfl ?_
        refine e_getF (t := 2) (k := 0) (t1 := 10) dX2_findRoot_11 cb2 (by decide) mf_X2_11 (by rfl) (by rfl) (by decide) (by assumption) (lv1 _ 2 (fun _ => rfl)) ?_
        refine r_iload_n dX2_findRoot_14 rfl rfl ?_
        refine e_aald (t := 10) (t1 := 1) dX2_findRoot_15 (by decide) (by decide) (by decide) (by intro _; rfl) (by decide) (by assumption) (lv1 _ 10 (fun _ => rfl)) (by have e : ln 10 = 80 := rfl; omega) ?_
        refine e_rv hj1 ?_
        refine r_astore_nO dX2_findRoot_16 rfl (by decide) ?_
        refine r_aload_nO dX2_findRoot_17 rfl rfl ?_
        refine e_getR (t := 1) (k := 1) (t1 := 1) 1 dX2_findRoot_18 cb1 (by decide) mf_X2_21 (by rfl) (by rfl) (by decide) rfl (by assumption) (by assumption) ?_
        refine e_ifnonnull 34 dX2_findRoot_21 (by decide) (fun h21 => ?_) (fun h21 => ?_)
        · refine r_pc 34 rfl ?_
          refine e_iinc dX2_findRoot_34 rfl (by decide) ?_
          refine r_stw (by repeat' first | exact True.intro | refine And.intro (fun h => by first | rfl | exact cat_rf _ | exact absurd h (by decide)) ?_) ?_
          refine r_goto 2 dX2_findRoot_37 (by decide) ?_
          refine r_lv [(0, vr A 2 0), (1, vr A 3 q), (2, .int (iI (j + 1)))] rfl ?_
          exact hw g hh
        · refine r_pc 24 rfl ?_
          refine r_aload_nO dX2_findRoot_24 rfl rfl ?_
          refine e_getR (t := 1) (k := 2) (t1 := 3) 2 dX2_findRoot_25 cb1 (by decide) mf_X2_25 (by rfl) (by rfl) (by decide) rfl (by assumption) (by assumption) ?_
          refine r_aload_nO dX2_findRoot_28 rfl rfl ?_
          refine e_ac_ne (t := 3) 34 dX2_findRoot_29 (by decide) (by assumption) (by decide) hj4 hq (fun h29 => ?_) (fun h29 => by exact absurd ⟨h21, h29⟩ hc)
          refine r_pc 34 rfl ?_
          refine e_iinc dX2_findRoot_34 rfl (by decide) ?_
          refine r_stw (by repeat' first | exact True.intro | refine And.intro (fun h => by first | rfl | exact cat_rf _ | exact absurd h (by decide)) ?_) ?_
          refine r_goto 2 dX2_findRoot_37 (by decide) ?_
          refine r_lv [(0, vr A 2 0), (1, vr A 3 q), (2, .int (iI (j + 1)))] rfl ?_
          exact hw g hh
  obtain ⟨v, hv, hw⟩ := loop (σ 99 1 0).toNat 0 (by omega) (by omega)
  refine ⟨v, hv, ?_⟩
  intro g hh
  refine e_start rfl (by show (lg_sl _).length ≤ 4; simp [lg_sl, cat_rf, cat_i, cat_l, cat_r, cat_n]) (lv := [(0, vr A 2 0), (1, vr A 3 q)]) (by simp [lv_args, cat_rf, cat_i, cat_l, cat_r, cat_n]) ?_
  refine e_iconst dX2_findRoot_0 ?_
  refine r_istore_n dX2_findRoot_1 rfl (by decide) ?_
  refine r_stw (by repeat' first | exact True.intro | refine And.intro (fun h => by first | rfl | exact cat_rf _ | exact absurd h (by decide)) ?_) ?_
  refine r_lv [(0, vr A 2 0), (1, vr A 3 q), (2, .int (iI 0))] rfl ?_
  exact hw g hh
theorem s_findBeneath {κ : KK} {A : Nat → Int → Nat} {σ : ST} {a n t : Int} (ha : Lv σ 1 a) (hn : 0 ≤ n ∧ n < 12) (ht : 0 ≤ t ∧ t ≤ 15) (hS : WS σ) : ∃ v : Int, ((-1 ≤ v ∧ v < σ 99 1 0) ∧ (0 ≤ v → σ 1 v 1 = a ∧ σ 1 v 3 = n ∧ σ 1 v 4 = t)) ∧ PU κ A MX2_findBeneath 0 σ [vr A 2 0, vr A 1 a, .int (iI n), .int (iI t)] (vr A 1 v) := by
  have hs1 := hS.1
  have hs2 := hS.2.1
  have ha2 : 0 ≤ a ∧ a < σ 99 1 0 := ha
  have loop : ∀ m : Nat, ∀ j : Int, 0 ≤ j → j + (m : Int) = σ 99 1 0 → ∃ v : Int, ((-1 ≤ v ∧ v < σ 99 1 0) ∧ (0 ≤ v → σ 1 v 1 = a ∧ σ 1 v 3 = n ∧ σ 1 v 4 = t)) ∧ ∀ g, HR κ A g σ → Wp κ MX2_findBeneath 0 0 0 8 [(0, vr A 2 0), (1, vr A 1 a), (2, .int (iI n)), (3, .int (iI t)), (4, .int (iI j))] [] g (PQ κ A σ (some (vr A 1 v))) := by
    intro m
    induction m with
    | zero =>
      intro j hj0 hjm
      refine ⟨-1, ⟨⟨by omega, by omega⟩, fun h => by omega⟩, fun g hh => ?_⟩
      refine r_iload dX2_findBeneath_8 rfl ?_
      refine r_aload_nO dX2_findBeneath_10 rfl rfl ?_
      refine e_getI (t := 2) (k := 1) 1 dX2_findBeneath_11 cb2 (by decide) mf_X2_17 (by rfl) rfl (by assumption) (lv1 _ 2 (fun _ => rfl)) ?_
      refine e_ic_ge 62 dX2_findBeneath_14 (by decide) ⟨by omega, by omega⟩ ⟨by omega, by omega⟩ (fun h14 => ?_) (fun h14 => by exfalso; omega)
      refine r_pc 62 rfl ?_
      refine e_null A 1 dX2_findBeneath_62 ?_
      exact q_aret dX2_findBeneath_63 rfl (Or.inl ⟨_, rfl⟩) (by rfl) (by assumption)
    | succ m ih =>
      intro j hj0 hjm
      have hjs : Lv σ 1 j := ⟨by omega, by show j < σ 99 1 0; omega⟩
      obtain ⟨hj1, hj2, hj3, hj4, hj5, hj6, hj7⟩ := hS.2.2 j hjs
      by_cases hc : σ 1 j 1 = a ∧ σ 1 j 3 = n ∧ σ 1 j 4 = t
      · refine ⟨j, ⟨⟨by omega, by omega⟩, fun _ => hc⟩, fun g hh => ?_⟩
        refine r_iload dX2_findBeneath_8 rfl ?_
        refine r_aload_nO dX2_findBeneath_10 rfl rfl ?_
        refine e_getI (t := 2) (k := 1) 1 dX2_findBeneath_11 cb2 (by decide) mf_X2_17 (by rfl) rfl (by assumption) (lv1 _ 2 (fun _ => rfl)) ?_
        refine e_ic_ge 62 dX2_findBeneath_14 (by decide) ⟨by omega, by omega⟩ ⟨by omega, by omega⟩ (fun h14 => by exfalso; omega) (fun h14 => ?_)
        refine r_pc 17 rfl ?_
        refine r_aload_nO dX2_findBeneath_17 rfl rfl ?_
        refine e_getF (t := 2) (k := 0) (t1 := 10) dX2_findBeneath_18 cb2 (by decide) mf_X2_11 (by rfl) (by rfl) (by decide) (by assumption) (lv1 _ 2 (fun _ => rfl)) ?_
        refine r_iload dX2_findBeneath_21 rfl ?_
        refine e_aald (t := 10) (t1 := 1) dX2_findBeneath_23 (by decide) (by decide) (by decide) (by intro _; rfl) (by decide) (by assumption) (lv1 _ 10 (fun _ => rfl)) (by have e : ln 10 = 80 := rfl; omega) ?_
        refine e_rv hj1 ?_
        refine r_astoreO dX2_findBeneath_24 (by decide) ?_
        refine r_aloadO dX2_findBeneath_26 rfl ?_
        refine e_getR (t := 1) (k := 1) (t1 := 1) 1 dX2_findBeneath_28 cb1 (by decide) mf_X2_21 (by rfl) (by rfl) (by decide) rfl (by assumption) (by assumption) ?_
        refine r_aload_nO dX2_findBeneath_31 rfl rfl ?_
        refine e_ac_ne (t := 1) 56 dX2_findBeneath_32 (by decide) (by assumption) (by decide) ⟨by omega, by show σ 1 j 1 < σ 99 1 0; omega⟩ ⟨by omega, ha.2⟩ (fun h32 => by exact absurd hc.1 h32) (fun h32 => ?_)
        refine r_pc 35 rfl ?_
        refine r_aloadO dX2_findBeneath_35 rfl ?_
        refine e_getI (t := 1) (k := 3) 3 dX2_findBeneath_37 cb1 (by decide) mf_X2_32 (by rfl) rfl (by assumption) (by assumption) ?_
        refine r_iload_n dX2_findBeneath_40 rfl rfl ?_
        refine e_ic_ne 56 dX2_findBeneath_41 (by decide) ⟨by omega, by omega⟩ ⟨by omega, by omega⟩ (fun h41 => by exfalso; omega) (fun h41 => ?_)
        refine r_pc 44 rfl ?_
        refine r_aloadO dX2_findBeneath_44 rfl ?_
        refine e_getI (t := 1) (k := 4) 4 dX2_findBeneath_46 cb1 (by decide) mf_X2_35 (by rfl) rfl (by assumption) (by assumption) ?_
        refine r_iload_n dX2_findBeneath_49 rfl rfl ?_
        refine e_ic_ne 56 dX2_findBeneath_50 (by decide) ⟨by omega, by omega⟩ ⟨by omega, by omega⟩ (fun h50 => by exfalso; omega) (fun h50 => ?_)
        refine r_pc 53 rfl ?_
        refine r_aloadO dX2_findBeneath_53 rfl ?_
        exact q_aret dX2_findBeneath_55 rfl (Or.inl ⟨_, rfl⟩) (by rfl) (by assumption)
      · obtain ⟨v, hv, hw⟩ := ih (j + 1) (by omega) (by omega)
        refine ⟨v, hv, fun g hh => ?_⟩
        refine r_iload dX2_findBeneath_8 rfl ?_
        refine r_aload_nO dX2_findBeneath_10 rfl rfl ?_
        refine e_getI (t := 2) (k := 1) 1 dX2_findBeneath_11 cb2 (by decide) mf_X2_17 (by rfl) rfl (by assumption) (lv1 _ 2 (fun _ => rfl)) ?_
        refine e_ic_ge 62 dX2_findBeneath_14 (by decide) ⟨by omega, by omega⟩ ⟨by omega, by omega⟩ (fun h14 => by exfalso; omega) (fun h14 => ?_)
        refine r_pc 17 rfl ?_
        refine r_aload_nO dX2_findBeneath_17 rfl rfl ?_
        refine e_getF (t := 2) (k := 0) (t1 := 10) dX2_findBeneath_18 cb2 (by decide) mf_X2_11 (by rfl) (by rfl) (by decide) (by assumption) (lv1 _ 2 (fun _ => rfl)) ?_
        refine r_iload dX2_findBeneath_21 rfl ?_
        refine e_aald (t := 10) (t1 := 1) dX2_findBeneath_23 (by decide) (by decide) (by decide) (by intro _; rfl) (by decide) (by assumption) (lv1 _ 10 (fun _ => rfl)) (by have e : ln 10 = 80 := rfl; omega) ?_
        refine e_rv hj1 ?_
        refine r_astoreO dX2_findBeneath_24 (by decide) ?_
        refine r_aloadO dX2_findBeneath_26 rfl ?_
        refine e_getR (t := 1) (k := 1) (t1 := 1) 1 dX2_findBeneath_28 cb1 (by decide) mf_X2_21 (by rfl) (by rfl) (by decide) rfl (by assumption) (by assumption) ?_
        refine r_aload_nO dX2_findBeneath_31 rfl rfl ?_
        refine e_ac_ne (t := 1) 56 dX2_findBeneath_32 (by decide) (by assumption) (by decide) ⟨by omega, by show σ 1 j 1 < σ 99 1 0; omega⟩ ⟨by omega, ha.2⟩ (fun h32 => ?_) (fun h32 => ?_)
        · refine r_pc 56 rfl ?_
          refine e_iinc dX2_findBeneath_56 rfl (by decide) ?_
          refine r_goto 8 dX2_findBeneath_59 (by decide) ?_
          refine r_lv [(0, vr A 2 0), (1, vr A 1 a), (2, .int (iI n)), (3, .int (iI t)), (4, .int (iI (j + 1)))] rfl ?_
          exact hw g hh
        · refine r_pc 35 rfl ?_
          refine r_aloadO dX2_findBeneath_35 rfl ?_
          refine e_getI (t := 1) (k := 3) 3 dX2_findBeneath_37 cb1 (by decide) mf_X2_32 (by rfl) rfl (by assumption) (by assumption) ?_
          refine r_iload_n dX2_findBeneath_40 rfl rfl ?_
          refine e_ic_ne 56 dX2_findBeneath_41 (by decide) ⟨by omega, by omega⟩ ⟨by omega, by omega⟩ (fun h41 => ?_) (fun h41 => ?_)
          · refine r_pc 56 rfl ?_
            refine e_iinc dX2_findBeneath_56 rfl (by decide) ?_
            refine r_goto 8 dX2_findBeneath_59 (by decide) ?_
            refine r_lv [(0, vr A 2 0), (1, vr A 1 a), (2, .int (iI n)), (3, .int (iI t)), (4, .int (iI (j + 1)))] rfl ?_
            exact hw g hh
          · refine r_pc 44 rfl ?_
            refine r_aloadO dX2_findBeneath_44 rfl ?_
            refine e_getI (t := 1) (k := 4) 4 dX2_findBeneath_46 cb1 (by decide) mf_X2_35 (by rfl) rfl (by assumption) (by assumption) ?_
            refine r_iload_n dX2_findBeneath_49 rfl rfl ?_
            refine e_ic_ne 56 dX2_findBeneath_50 (by decide) ⟨by omega, by omega⟩ ⟨by omega, by omega⟩ (fun h50 => ?_) (fun h50 => by exact absurd ⟨h32, h41, h50⟩ hc)
            refine r_pc 56 rfl ?_
            refine e_iinc dX2_findBeneath_56 rfl (by decide) ?_
            refine r_goto 8 dX2_findBeneath_59 (by decide) ?_
            refine r_lv [(0, vr A 2 0), (1, vr A 1 a), (2, .int (iI n)), (3, .int (iI t)), (4, .int (iI (j + 1)))] rfl ?_
            exact hw g hh
  obtain ⟨v, hv, hw⟩ := loop (σ 99 1 0 - (a + 1)).toNat (a + 1) (by omega) (by omega)
  refine ⟨v, hv, ?_⟩
  intro g hh
  refine e_start rfl (by show (lg_sl _).length ≤ 6; simp [lg_sl, cat_rf, cat_i, cat_l, cat_r, cat_n]) (lv := [(0, vr A 2 0), (1, vr A 1 a), (2, .int (iI n)), (3, .int (iI t))]) (by simp [lv_args, cat_rf, cat_i, cat_l, cat_r, cat_n]) ?_
  refine r_aload_nO dX2_findBeneath_0 rfl rfl ?_
  refine e_getI (t := 1) (k := 0) 0 dX2_findBeneath_1 cb1 (by decide) mf_X2_29 (by rfl) rfl (by assumption) (by assumption) ?_
  refine e_iv (hS.2.2 a ha).2.1 ?_
  refine e_iconst dX2_findBeneath_4 ?_
  first | refine e_iadd dX2_findBeneath_5 ?_ | refine r_iadd dX2_findBeneath_5 ?_
  refine r_istore dX2_findBeneath_6 (by decide) ?_
  refine r_lv [(0, vr A 2 0), (1, vr A 1 a), (2, .int (iI n)), (3, .int (iI t)), (4, .int (iI (a + 1)))] rfl ?_
  exact hw g hh
theorem s_countBeneath {κ : KK} {A : Nat → Int → Nat} {σ : ST} {a : Int} (ha : Lv σ 1 a) (hS : WS σ) : ∃ v : Int, True ∧ PU κ A MX2_countBeneath 0 σ [vr A 2 0, vr A 1 a] (.int (iI v)) := by
  have hs1 := hS.1
  have hs2 := hS.2.1
  have ha2 : 0 ≤ a ∧ a < σ 99 1 0 := ha
  have loop : ∀ m : Nat, ∀ j : Int, ∀ c : Int, 0 ≤ j → j + (m : Int) = σ 99 1 0 → ∃ v : Int, True ∧ ∀ g, HR κ A g σ → Wp κ MX2_countBeneath 0 0 0 9 [(0, vr A 2 0), (1, vr A 1 a), (2, .int (iI c)), (3, .int (iI j))] [] g (PQ κ A σ (some (.int (iI v)))) := by
    intro m
    induction m with
    | zero =>
      intro j c hj0 hjm
      refine ⟨c, trivial, fun g hh => ?_⟩
      refine r_iload_n dX2_countBeneath_9 rfl rfl ?_
      refine r_aload_nO dX2_countBeneath_10 rfl rfl ?_
      refine e_getI (t := 2) (k := 1) 1 dX2_countBeneath_11 cb2 (by decide) mf_X2_17 (by rfl) rfl (by assumption) (lv1 _ 2 (fun _ => rfl)) ?_
      refine e_ic_ge 39 dX2_countBeneath_14 (by decide) ⟨by omega, by omega⟩ ⟨by omega, by omega⟩ (fun h14 => ?_) (fun h14 => by exfalso; omega)
      refine r_pc 39 rfl ?_
      refine r_iload_n dX2_countBeneath_39 rfl rfl ?_
      exact q_iret dX2_countBeneath_40 rfl (by rfl) (by assumption)
    | succ m ih =>
      intro j c hj0 hjm
      have hjs : Lv σ 1 j := ⟨by omega, by show j < σ 99 1 0; omega⟩
      obtain ⟨hj1, hj2, hj3, hj4, hj5, hj6, hj7⟩ := hS.2.2 j hjs
      by_cases hc : σ 1 j 1 = a
      · obtain ⟨v, hv, hw⟩ := ih (j + 1) (c + 1) (by omega) (by omega)
        refine ⟨v, hv, fun g hh => ?_⟩
        refine r_iload_n dX2_countBeneath_9 rfl rfl ?_
        refine r_aload_nO dX2_countBeneath_10 rfl rfl ?_
        refine e_getI (t := 2) (k := 1) 1 dX2_countBeneath_11 cb2 (by decide) mf_X2_17 (by rfl) rfl (by assumption) (lv1 _ 2 (fun _ => rfl)) ?_
        refine e_ic_ge 39 dX2_countBeneath_14 (by decide) ⟨by omega, by omega⟩ ⟨by omega, by omega⟩ (fun h14 => by exfalso; omega) (fun h14 => ?_)
        refine r_pc 17 rfl ?_
        refine r_aload_nO dX2_countBeneath_17 rfl rfl ?_
        refine e_getF (t := 2) (k := 0) (t1 := 10) dX2_countBeneath_18 cb2 (by decide) mf_X2_11 (by rfl) (by rfl) (by decide) (by assumption) (lv1 _ 2 (fun _ => rfl)) ?_
        refine r_iload_n dX2_countBeneath_21 rfl rfl ?_
        refine e_aald (t := 10) (t1 := 1) dX2_countBeneath_22 (by decide) (by decide) (by decide) (by intro _; rfl) (by decide) (by assumption) (lv1 _ 10 (fun _ => rfl)) (by have e : ln 10 = 80 := rfl; omega) ?_
        refine e_rv hj1 ?_
        refine e_getR (t := 1) (k := 1) (t1 := 1) 1 dX2_countBeneath_23 cb1 (by decide) mf_X2_21 (by rfl) (by rfl) (by decide) rfl (by assumption) (by assumption) ?_
        refine r_aload_nO dX2_countBeneath_26 rfl rfl ?_
        refine e_ac_ne (t := 1) 33 dX2_countBeneath_27 (by decide) (by assumption) (by decide) ⟨by omega, by show σ 1 j 1 < σ 99 1 0; omega⟩ ⟨by omega, ha.2⟩ (fun h27 => by exact absurd hc h27) (fun h27 => ?_)
        refine r_pc 30 rfl ?_
        refine e_iinc dX2_countBeneath_30 rfl (by decide) ?_
        refine r_stw (by repeat' first | exact True.intro | refine And.intro (fun h => by first | rfl | exact cat_rf _ | exact absurd h (by decide)) ?_) ?_
        refine e_iinc dX2_countBeneath_33 rfl (by decide) ?_
        refine r_goto 9 dX2_countBeneath_36 (by decide) ?_
        refine r_lv [(0, vr A 2 0), (1, vr A 1 a), (2, .int (iI (c + 1))), (3, .int (iI (j + 1)))] rfl ?_
        exact hw g hh
      · obtain ⟨v, hv, hw⟩ := ih (j + 1) c (by omega) (by omega)
        refine ⟨v, hv, fun g hh => ?_⟩
        refine r_iload_n dX2_countBeneath_9 rfl rfl ?_
        refine r_aload_nO dX2_countBeneath_10 rfl rfl ?_
        refine e_getI (t := 2) (k := 1) 1 dX2_countBeneath_11 cb2 (by decide) mf_X2_17 (by rfl) rfl (by assumption) (lv1 _ 2 (fun _ => rfl)) ?_
        refine e_ic_ge 39 dX2_countBeneath_14 (by decide) ⟨by omega, by omega⟩ ⟨by omega, by omega⟩ (fun h14 => by exfalso; omega) (fun h14 => ?_)
        refine r_pc 17 rfl ?_
        refine r_aload_nO dX2_countBeneath_17 rfl rfl ?_
        refine e_getF (t := 2) (k := 0) (t1 := 10) dX2_countBeneath_18 cb2 (by decide) mf_X2_11 (by rfl) (by rfl) (by decide) (by assumption) (lv1 _ 2 (fun _ => rfl)) ?_
        refine r_iload_n dX2_countBeneath_21 rfl rfl ?_
        refine e_aald (t := 10) (t1 := 1) dX2_countBeneath_22 (by decide) (by decide) (by decide) (by intro _; rfl) (by decide) (by assumption) (lv1 _ 10 (fun _ => rfl)) (by have e : ln 10 = 80 := rfl; omega) ?_
        refine e_rv hj1 ?_
        refine e_getR (t := 1) (k := 1) (t1 := 1) 1 dX2_countBeneath_23 cb1 (by decide) mf_X2_21 (by rfl) (by rfl) (by decide) rfl (by assumption) (by assumption) ?_
        refine r_aload_nO dX2_countBeneath_26 rfl rfl ?_
        refine e_ac_ne (t := 1) 33 dX2_countBeneath_27 (by decide) (by assumption) (by decide) ⟨by omega, by show σ 1 j 1 < σ 99 1 0; omega⟩ ⟨by omega, ha.2⟩ (fun h27 => ?_) (fun h27 => by exact absurd h27 hc)
        refine r_pc 33 rfl ?_
        refine e_iinc dX2_countBeneath_33 rfl (by decide) ?_
        refine r_goto 9 dX2_countBeneath_36 (by decide) ?_
        refine r_lv [(0, vr A 2 0), (1, vr A 1 a), (2, .int (iI c)), (3, .int (iI (j + 1)))] rfl ?_
        exact hw g hh
  obtain ⟨v, hv, hw⟩ := loop (σ 99 1 0 - (a + 1)).toNat (a + 1) 0 (by omega) (by omega)
  refine ⟨v, hv, ?_⟩
  intro g hh
  refine e_start rfl (by show (lg_sl _).length ≤ 4; simp [lg_sl, cat_rf, cat_i, cat_l, cat_r, cat_n]) (lv := [(0, vr A 2 0), (1, vr A 1 a)]) (by simp [lv_args, cat_rf, cat_i, cat_l, cat_r, cat_n]) ?_
  refine e_iconst dX2_countBeneath_0 ?_
  refine r_istore_n dX2_countBeneath_1 rfl (by decide) ?_
  refine r_stw (by repeat' first | exact True.intro | refine And.intro (fun h => by first | rfl | exact cat_rf _ | exact absurd h (by decide)) ?_) ?_
  refine r_aload_nO dX2_countBeneath_2 rfl rfl ?_
  refine e_getI (t := 1) (k := 0) 0 dX2_countBeneath_3 cb1 (by decide) mf_X2_29 (by rfl) rfl (by assumption) (by assumption) ?_
  refine e_iv (hS.2.2 a ha).2.1 ?_
  refine e_iconst dX2_countBeneath_6 ?_
  first | refine e_iadd dX2_countBeneath_7 ?_ | refine r_iadd dX2_countBeneath_7 ?_
  refine r_istore_n dX2_countBeneath_8 rfl (by decide) ?_
  refine r_lv [(0, vr A 2 0), (1, vr A 1 a), (2, .int (iI 0)), (3, .int (iI (a + 1)))] rfl ?_
  exact hw g hh
