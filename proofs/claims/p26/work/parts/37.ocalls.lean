def OQ (κ : KK) (A : Nat → Int → Nat) (σ τ' : ST) (r : Option Value) : Option Value → GG → Prop := fun w h => ∃ (A' : Nat → Int → Nat) (σ' : ST), HR κ A' h σ' ∧ w = r ∧ (∀ t, t ≠ 25 → A' t = A t) ∧ OWN τ' σ' ∧ OF σ σ'
def OQ5 (κ : KK) (A : Nat → Int → Nat) (σ τ' : ST) (r : Option Value) : Option Value → GG → Prop := fun w h => ∃ (A' : Nat → Int → Nat) (σ' : ST), HR κ A' h σ' ∧ w = r ∧ (∀ t, t ≠ 25 → A' t = A t) ∧ OWN τ' σ' ∧ OF σ σ' ∧ A' = A ∧ (∀ r c, σ' 25 r c = σ 25 r c) ∧ σ' 99 25 0 = σ 99 25 0
theorem rowF_7 (n kd v fx hd st ad : Int) (c : Nat) (h : 7 ≤ c) : rowF n kd v fx hd st ad (c : Int) = 0 := by
  unfold rowF
  rw [if_neg (by omega), if_neg (by omega), if_neg (by omega), if_neg (by omega), if_neg (by omega), if_neg (by omega), if_neg (by omega)]
theorem gS_o {σ : ST} {f : Int → Int} {t : Nat} {r c : Int} (h : ¬ (t = 99 ∧ r = 25)) (h2 : ¬ (t = 25 ∧ r = σ 99 25 0)) : gS σ 25 f t r c = σ t r c := by
  unfold gS
  exact (if_neg (fun y => h ⟨y.1, y.2.2⟩)).trans (if_neg h2)
theorem gS_n (σ : ST) (f : Int → Int) (c : Int) : gS σ 25 f 25 (σ 99 25 0) c = f c := by
  unfold gS
  exact (if_neg (by omega)).trans (if_pos ⟨rfl, rfl⟩)
theorem gS_c (σ : ST) (f : Int → Int) : gS σ 25 f 99 25 0 = σ 99 25 0 + 1 := if_pos ⟨rfl, rfl, rfl⟩
theorem gS_of (σ : ST) (f : Int → Int) : OF σ (gS σ 25 f) := ⟨fun t r c a b => gS_o (fun y => b y.1) (by rintro ⟨rfl, -⟩; cases a), gS_o (by omega) (by omega), gS_o (by omega) (by omega)⟩
/-- a new row beside those that there are -/
theorem own_grow {τ σ : ST} {f : Int → Int} (hO : OWN τ σ) : OWN τ (gS σ 25 f) ∧ Lv (gS σ 25 f) 25 (σ 99 25 0) ∧ (∀ k' j', Lv τ 3 k' → (0 ≤ j' ∧ j' < τ 3 k' 5) → gS σ 25 f 22 k' j' ≠ σ 99 25 0) := by
  have h0 := hO.2.2.2.2.2
  have e : ∀ t r c, t ≠ 99 → t ≠ 25 → gS σ 25 f t r c = σ t r c := fun t r c a b => gS_o (fun y => a y.1) (fun y => b y.1)
  refine ⟨⟨by rw [e 5 0 4 (by decide) (by decide)]; exact hO.1, fun k hk => ?_, fun k j hk hj => ?_, fun k j k' j' hk hj hk' hj' => ?_, fun k hk hk2 => ?_, by rw [gS_c]; omega⟩, ⟨h0, by show σ 99 25 0 < gS σ 25 f 99 25 0; rw [gS_c]; omega⟩, fun k' j' hk hj => ?_⟩
  · rw [e 20 0 k (by decide) (by decide), e 23 0 k (by decide) (by decide), e 24 0 k (by decide) (by decide)]
    exact hO.2.1 k hk
  · have w := hO.2.2.1 k j hk hj
    have w2 : σ 22 k j < σ 99 25 0 := w.1.2
    unfold OR
    rw [e 22 k j (by decide) (by decide)]
    exact ⟨⟨w.1.1, by show _ < gS σ 25 f 99 25 0; rw [gS_c]; omega⟩, rw_at w.2 fun c => gS_o (by omega) (by omega)⟩
  · rw [e 22 k j (by decide) (by decide), e 22 k' j' (by decide) (by decide)]
    exact hO.2.2.2.1 k j k' j' hk hj hk' hj'
  · rw [e 23 0 k (by decide) (by decide), e 24 0 k (by decide) (by decide)]
    exact hO.2.2.2.2.1 k hk hk2
  · rw [e 22 k' j' (by decide) (by decide)]
    have w2 : σ 22 k' j' < σ 99 25 0 := (hO.2.2.1 k' j' hk hj).1.2
    omega
theorem rw_pl {σ : ST} {n t a b c d x hd : Int} (hx : x = bI (isFx t)) (hp : ¬ isPr t) : RW (gS σ 25 (rowF n 1 a x hd (-1) 0)) (σ 99 25 0) n t a b c d := by
  unfold RW
  simp only [gS_n]
  exact ⟨rfl, hx, fun y => absurd y hp, fun _ => ⟨rfl, rfl⟩⟩
theorem rw_pr {σ : ST} {n t a b c d hd : Int} (hp : isPr t) : RW (gS σ 25 (rowF n 2 b 0 hd c d)) (σ 99 25 0) n t a b c d := by
  unfold RW
  simp only [gS_n]
  refine ⟨rfl, ?_, fun _ => ⟨rfl, rfl, rfl, rfl⟩, fun y => absurd hp y⟩
  rw [bI_f]
  · rfl
  · unfold isPr at hp
    unfold isFx
    omega
theorem hF_self {τ : ST} {L : Int → List Int} {k n : Int} (hL : WL τ L) (hk : Lv τ 3 k) (h : ¬ τ 15 k n = 0) : hF τ n (lo L k) = k := by
  rw [lo_pos hk.1, (hL k hk).1, hF, if_neg h]
theorem hF_oth {τ : ST} {L : Int → List Int} {k n : Int} (hk : Lv τ 3 k) (h : τ 15 k n = 0) : ¬ hF τ n (lo L k) = k := fun e => by
  have h1 := hk.1
  have := (hF_in (σ := τ) (n := n) (l := lo L k) (by omega)).2
  rw [e] at this
  exact this h
/-- a value is written over -/
theorem OWN.val {τ σ : ST} {k n q v : Int} (hO : OWN τ σ) (hF : ∀ k, Lv τ 3 k → WFk τ k) (hk : Lv τ 3 k) (hn : 0 ≤ n ∧ n < 12) (hq : (0 ≤ q ∧ q < τ 3 k 5) ∧ τ 14 k q = n) (hp : ¬ isPr (τ 15 k n)) : OWN (fil τ k n v (-1) (-1) 0) (up σ 25 (σ 22 k q) 2 v) := by
  refine ⟨hO.1, fun k' hk' => hO.2.1 k' hk', fun k' i hk' hi => ?_, fun k1 j1 k2 j2 a b c d => hO.2.2.2.1 k1 j1 k2 j2 a b c d, fun k' a b => hO.2.2.2.2.1 k' a b, hO.2.2.2.2.2⟩
  have w := hO.2.2.1 k' i hk' hi
  unfold OR at w ⊢
  show Lv σ 25 (σ 22 k' i) ∧ RW (up σ 25 (σ 22 k q) 2 v) (σ 22 k' i) (τ 14 k' i) (τ 15 k' (τ 14 k' i)) (fil τ k n v (-1) (-1) 0 16 k' (τ 14 k' i)) (fil τ k n v (-1) (-1) 0 17 k' (τ 14 k' i)) (fil τ k n v (-1) (-1) 0 18 k' (τ 14 k' i)) (fil τ k n v (-1) (-1) 0 19 k' (τ 14 k' i))
  refine ⟨w.1, ?_⟩
  by_cases z : k' = k ∧ i = q
  · obtain ⟨rfl, rfl⟩ := z
    rw [hq.2] at w ⊢
    obtain ⟨f1, f2, f3, f4⟩ := fil_at τ k' n v (-1) (-1) 0
    rw [f1]
    obtain ⟨a1, a2, a3, a4⟩ := w.2
    refine ⟨?_, ?_, fun y => absurd y hp, fun y => ⟨?_, up_at _ _ _ _ _⟩⟩
    · rw [up_ne (by omega)]
      exact a1
    · rw [up_ne (by omega)]
      exact a2
    · rw [up_ne (by omega)]
      exact (a4 hp).1
  · have hr : ¬ σ 22 k' i = σ 22 k q := fun e => z (hO.2.2.2.1 k' i k q hk' hi hk hq.1 e)
    have hm : ¬ (k' = k ∧ τ 14 k' i = n) := by
      rintro ⟨rfl, e⟩
      exact z ⟨rfl, (hF k' hk).2.2 i q hi hq.1 (e.trans hq.2.symm)⟩
    have ef : ∀ t, fil τ k n v (-1) (-1) 0 t k' (τ 14 k' i) = τ t k' (τ 14 k' i) := by
      intro t
      unfold fil
      rw [up_ne (fun y => hm y.2), up_ne (fun y => hm y.2), up_ne (fun y => hm y.2), up_ne (fun y => hm y.2)]
    rw [ef, ef, ef, ef]
    exact rw_at w.2 fun c => up_ne (fun y => hr y.2.1)
theorem s_put {κ : KK} {A : Nat → Int → Nat} {σ : ST} {g : GG} {τ : ST} {L : Int → List Int} (hO : OWN τ σ) (hT : WT τ) (hL : WL τ L) (hF' : WF τ) (hV : WV τ) {k n ρ t a b c d : Int} (hk : Lv τ 3 k) (hn : 0 ≤ n ∧ n < 12) (hρ : Lv σ 25 ρ) (hfr : ∀ k' j', Lv τ 3 k' → (0 ≤ j' ∧ j' < τ 3 k' 5) → σ 22 k' j' ≠ ρ) (hrw : RW σ ρ n t a b c d) (hh : HR κ A g σ) : Spec κ MX5_put 1 0 0 [vr A 5 0, .int (iI k), vr A 25 ρ] g (OQ5 κ A σ (putM τ k n t a b c d) none) := by
  obtain ⟨hk22, hk24⟩ := lv24 (σ := σ) hT hk
  obtain ⟨ho20, ho23, ho24⟩ := hO.2.1 k hk
  have hz := wt_sz hT hk
  have hkd := kd3 hk
  obtain ⟨p, hp, hpl⟩ := s_place (κ := κ) (A := A) hO hT hL hF' hV hk hn
  have hr0 := hrw.1
  refine e_start rfl (by show (lg_sl _).length ≤ 4; simp [lg_sl, cat_rf, cat_i, cat_l, cat_r, cat_n]) (lv := [(0, vr A 5 0), (1, .int (iI k)), (2, vr A 25 ρ)]) (by simp [lv_args, cat_rf, cat_i, cat_l, cat_r, cat_n]) ?_
  refine r_aload_nO dX5_put_0 rfl rfl ?_
  refine r_iload_n dX5_put_1 rfl rfl ?_
  refine r_aload_nO dX5_put_2 rfl rfl ?_
  refine e_iconst dX5_put_3 ?_
  refine e_iald (t := 25) dX5_put_4 (by decide) (by decide) (by rfl) (by intro _; rfl) (by assumption) (by assumption) (by have e : ln 25 = 7 := rfl; omega) ?_
  refine e_iv hr0 ?_
  refine e_callVP (z := MX5_place) dX5_put_5 ml_X5_35 cz_X5_place mk_X5_place ms_X5_place cb5 (by decide) hpl rfl rfl (by simp [cat_rf, cat_i, cat_l, cat_r, cat_n]) (by decide) (by assumption) (lv1 _ 5 (fun _ => rfl)) (fun g hh => ?_)
  refine r_pc 8 rfl ?_
  by_cases hc : τ 15 k n = 0
  · obtain rfl := plc_neg (hF' k hk) hp hc
    have hz12 := wf_room (hF' k hk) hz hn hc
    refine r_istore_n dX5_put_8 rfl (by decide) ?_
    refine r_stw (by repeat' first | exact True.intro | refine And.intro (fun h => by first | rfl | exact cat_rf _ | exact absurd h (by decide)) ?_) ?_
    refine r_iload_n dX5_put_9 rfl rfl ?_
    refine e_if_ge 30 dX5_put_10 (by decide) ⟨by omega, by omega⟩ (fun h10 => by exfalso; omega) (fun h10 => ?_)
    refine r_pc 13 rfl ?_
    refine r_aload_nO dX5_put_13 rfl rfl ?_
    refine e_getF (t := 5) (k := 2) (t1 := 23) dX5_put_14 cb5 (by decide) mf_X5_18 (by rfl) (by rfl) (by decide) (by assumption) (lv1 _ 5 (fun _ => rfl)) ?_
    refine r_iload_n dX5_put_17 rfl rfl ?_
    refine e_iald (t := 23) dX5_put_18 (by decide) (by decide) (by rfl) (by intro _; rfl) (by assumption) (lv1 _ 23 (fun _ => rfl)) (by have e : ln 23 = 24 := rfl; omega) ?_
    refine e_iv ho23 ?_
    refine r_istore_n dX5_put_19 rfl (by decide) ?_
    refine r_stw (by repeat' first | exact True.intro | refine And.intro (fun h => by first | rfl | exact cat_rf _ | exact absurd h (by decide)) ?_) ?_
    refine r_aload_nO dX5_put_20 rfl rfl ?_
    refine e_getF (t := 5) (k := 2) (t1 := 23) dX5_put_21 cb5 (by decide) mf_X5_18 (by rfl) (by rfl) (by decide) (by assumption) (lv1 _ 5 (fun _ => rfl)) ?_
    refine r_iload_n dX5_put_24 rfl rfl ?_
    refine r_dup2 dX5_put_25 (by first | rfl | exact cat_rf _) (by first | rfl | exact cat_rf _) ?_
    refine e_iald (t := 23) dX5_put_26 (by decide) (by decide) (by rfl) (by intro _; rfl) (by assumption) (lv1 _ 23 (fun _ => rfl)) (by have e : ln 23 = 24 := rfl; omega) ?_
    refine e_iv ho23 ?_
    have hk22' : Lv (up σ 23 0 k (τ 3 k 5 + 1)) 22 k := hk22
    have hρ' : Lv (up σ 23 0 k (τ 3 k 5 + 1)) 25 ρ := hρ
    refine e_iconst dX5_put_27 ?_
    first | refine e_iadd dX5_put_28 ?_ | refine r_iadd dX5_put_28 ?_
    refine e_iast (t := 23) dX5_put_29 (by decide) (by decide) (by rfl) (by intro _; rfl) (by assumption) (lv1 _ 23 (fun _ => rfl)) (by have e : ln 23 = 24 := rfl; omega) (fun g hh => ?_)
    refine r_aload_nO dX5_put_30 rfl rfl ?_
    refine e_getF (t := 5) (k := 1) (t1 := 21) dX5_put_31 cb5 (by decide) mf_X5_15 (by rfl) (by rfl) (by decide) (by assumption) (lv1 _ 5 (fun _ => rfl)) ?_
    refine r_iload_n dX5_put_34 rfl rfl ?_
    refine e_aald21 dX5_put_35 (by assumption) (by have e : ln 21 = 24 := rfl; omega) ?_
    refine r_iload_n dX5_put_36 rfl rfl ?_
    refine r_aload_nO dX5_put_37 rfl rfl ?_
    refine e_aast (t := 22) (t1 := 25) dX5_put_38 (by decide) (by decide) (by decide) (by intro _; rfl) (by decide) (by intro _; rfl) (by intro _; rfl) (by decide) (by decide) (by rfl) (by assumption) (by assumption) (by have e : ln 22 = 12 := rfl; omega) (by assumption) (fun g hh => ?_)
    exact r_vret dX5_put_39 rfl ⟨A, _, hh, rfl, fun _ _ => rfl, hO.putc (fun k hk => hF' k hk) hk hz.1 hc hρ hfr hrw, ((OF.rf' σ).u 23 0 k _ rfl).u 22 k _ ρ rfl, rfl, fun _ _ => rfl, rfl⟩
  · obtain ⟨hp1, hp2⟩ := plc_pos (hF' k hk) hn hp hc
    refine r_istore_n dX5_put_8 rfl (by decide) ?_
    refine r_stw (by repeat' first | exact True.intro | refine And.intro (fun h => by first | rfl | exact cat_rf _ | exact absurd h (by decide)) ?_) ?_
    refine r_iload_n dX5_put_9 rfl rfl ?_
    refine e_if_ge 30 dX5_put_10 (by decide) ⟨by omega, by omega⟩ (fun h10 => ?_) (fun h10 => by exfalso; omega)
    refine r_pc 30 rfl ?_
    refine r_aload_nO dX5_put_30 rfl rfl ?_
    refine e_getF (t := 5) (k := 1) (t1 := 21) dX5_put_31 cb5 (by decide) mf_X5_15 (by rfl) (by rfl) (by decide) (by assumption) (lv1 _ 5 (fun _ => rfl)) ?_
    refine r_iload_n dX5_put_34 rfl rfl ?_
    refine e_aald21 dX5_put_35 (by assumption) (by have e : ln 21 = 24 := rfl; omega) ?_
    refine r_iload_n dX5_put_36 rfl rfl ?_
    refine r_aload_nO dX5_put_37 rfl rfl ?_
    refine e_aast (t := 22) (t1 := 25) dX5_put_38 (by decide) (by decide) (by decide) (by intro _; rfl) (by decide) (by intro _; rfl) (by intro _; rfl) (by decide) (by decide) (by rfl) (by assumption) (by assumption) (by have e : ln 22 = 12 := rfl; omega) (by assumption) (fun g hh => ?_)
    exact r_vret dX5_put_39 rfl ⟨A, _, hh, rfl, fun _ _ => rfl, hO.puth (fun k hk => hF' k hk) hk hn ⟨hp1, hp2⟩ hρ hfr hrw, (OF.rf' σ).u 22 k p ρ rfl, rfl, fun _ _ => rfl, rfl⟩
theorem s_removes {κ : KK} {A : Nat → Int → Nat} {σ : ST} {g : GG} {τ : ST} {L : Int → List Int} (hO : OWN τ σ) (hT : WT τ) (hL : WL τ L) (hF' : WF τ) (hV : WV τ) {k n q : Int} (hk : Lv τ 3 k) (hn : 0 ≤ n ∧ n < 12) (hq : ¬ τ 15 k n = 0 → (0 ≤ q ∧ q < τ 3 k 5) ∧ τ 14 k q = n) (hh : HR κ A g σ) : Spec κ MX5_removes 1 0 0 [vr A 5 0, .int (iI k), .int (iI n)] g (OQ κ A σ (cI (canR τ k n) (tkF τ k q n) τ) (some (.int (iI (bI (canR τ k n)))))) := by
  obtain ⟨hk22, hk24⟩ := lv24 (σ := σ) hT hk
  obtain ⟨ho20, ho23, ho24⟩ := hO.2.1 k hk
  have hz := wt_sz hT hk
  have hkd := kd3 hk
  obtain ⟨p, hp, hpl⟩ := s_place (κ := κ) (A := A) hO hT hL hF' hV hk hn
  refine e_start rfl (by show (lg_sl _).length ≤ 5; simp [lg_sl, cat_rf, cat_i, cat_l, cat_r, cat_n]) (lv := [(0, vr A 5 0), (1, .int (iI k)), (2, .int (iI n))]) (by simp [lv_args, cat_rf, cat_i, cat_l, cat_r, cat_n]) ?_
  refine r_aload_nO dX5_removes_0 rfl rfl ?_
  refine r_iload_n dX5_removes_1 rfl rfl ?_
  refine r_iload_n dX5_removes_2 rfl rfl ?_
  refine e_callVP (z := MX5_place) dX5_removes_3 ml_X5_35 cz_X5_place mk_X5_place ms_X5_place cb5 (by decide) hpl rfl rfl (by simp [cat_rf, cat_i, cat_l, cat_r, cat_n]) (by decide) (by assumption) (lv1 _ 5 (fun _ => rfl)) (fun g hh => ?_)
  refine r_pc 6 rfl ?_
  by_cases hc : τ 15 k n = 0
  · obtain rfl := plc_neg (hF' k hk) hp hc
    refine r_istore_n dX5_removes_6 rfl (by decide) ?_
    refine r_iload_n dX5_removes_7 rfl rfl ?_
    refine e_if_lt 25 dX5_removes_8 (by decide) ⟨by omega, by omega⟩ (fun h8 => ?_) (fun h8 => by exfalso; omega)
    refine r_pc 25 rfl ?_
    refine e_iconst dX5_removes_25 ?_
    have hcan : ¬ canR τ k n := fun z => z.1 hc
    exact r_zret dX5_removes_26 rfl (narrow_01 (by omega)) ⟨A, σ, hh, by rw [bI_f hcan], fun _ _ => rfl, by rw [cI_f hcan]; exact hO, OF.rf' σ⟩
  · have hp12 := plc_pos (hF' k hk) hn hp hc
    have hq12 := hq hc
    have hqp : q = p := (hF' k hk).2.2 q p hq12.1 hp12.1 (hq12.2.trans hp12.2.symm)
    obtain ⟨hρ, -, hr3, -⟩ := hO.2.2.1 k p hk hp12.1
    rw [hp12.2] at hr3
    refine r_istore_n dX5_removes_6 rfl (by decide) ?_
    refine r_iload_n dX5_removes_7 rfl rfl ?_
    refine e_if_lt 25 dX5_removes_8 (by decide) ⟨by omega, by omega⟩ (fun h8 => by exfalso; omega) (fun h8 => ?_)
    refine r_pc 11 rfl ?_
    refine r_aload_nO dX5_removes_11 rfl rfl ?_
    refine e_getF (t := 5) (k := 1) (t1 := 21) dX5_removes_12 cb5 (by decide) mf_X5_15 (by rfl) (by rfl) (by decide) (by assumption) (lv1 _ 5 (fun _ => rfl)) ?_
    refine r_iload_n dX5_removes_15 rfl rfl ?_
    refine e_aald21 dX5_removes_16 (by assumption) (by have e : ln 21 = 24 := rfl; omega) ?_
    refine r_iload_n dX5_removes_17 rfl rfl ?_
    refine e_aald (t := 22) (t1 := 25) dX5_removes_18 (by decide) (by decide) (by decide) (by intro _; rfl) (by decide) (by assumption) (by assumption) (by have e : ln 22 = 12 := rfl; omega) ?_
    refine e_iconst dX5_removes_19 ?_
    refine e_iald (t := 25) dX5_removes_20 (by decide) (by decide) (by rfl) (by intro _; rfl) (by assumption) (by assumption) (by have e : ln 25 = 7 := rfl; omega) ?_
    refine e_iv hr3 ?_
    by_cases hfx : isFx (τ 15 k n)
    · refine e_iv (bI_t hfx) ?_
      refine e_iconst dX5_removes_21 ?_
      refine e_ic_ne 27 dX5_removes_22 (by decide) ⟨by omega, by omega⟩ ⟨by omega, by omega⟩ (fun h22 => by exfalso; omega) (fun h22 => ?_)
      refine r_pc 25 rfl ?_
      refine e_iconst dX5_removes_25 ?_
      have hcan : ¬ canR τ k n := fun z => z.2 hfx
      exact r_zret dX5_removes_26 rfl (narrow_01 (by omega)) ⟨A, σ, hh, by rw [bI_f hcan], fun _ _ => rfl, by rw [cI_f hcan]; exact hO, OF.rf' σ⟩
    · have hcan : canR τ k n := ⟨hc, hfx⟩
      refine e_iv (bI_f hfx) ?_
      refine e_iconst dX5_removes_21 ?_
      refine e_ic_ne 27 dX5_removes_22 (by decide) ⟨by omega, by omega⟩ ⟨by omega, by omega⟩ (fun h22 => ?_) (fun h22 => by exfalso; omega)
      refine r_pc 27 rfl ?_
      refine r_aload_nO dX5_removes_27 rfl rfl ?_
      refine e_getF (t := 5) (k := 2) (t1 := 23) dX5_removes_28 cb5 (by decide) mf_X5_18 (by rfl) (by rfl) (by decide) (by assumption) (lv1 _ 5 (fun _ => rfl)) ?_
      refine r_iload_n dX5_removes_31 rfl rfl ?_
      refine r_dup2 dX5_removes_32 (by first | rfl | exact cat_rf _) (by first | rfl | exact cat_rf _) ?_
      refine e_iald (t := 23) dX5_removes_33 (by decide) (by decide) (by rfl) (by intro _; rfl) (by assumption) (lv1 _ 23 (fun _ => rfl)) (by have e : ln 23 = 24 := rfl; omega) ?_
      refine e_iv ho23 ?_
      refine e_iconst dX5_removes_34 ?_
      first | refine e_isub dX5_removes_35 ?_ | refine r_isub dX5_removes_35 ?_
      refine e_iast (t := 23) dX5_removes_36 (by decide) (by decide) (by rfl) (by intro _; rfl) (by assumption) (lv1 _ 23 (fun _ => rfl)) (by have e : ln 23 = 24 := rfl; omega) (fun g hh => ?_)
      refine r_iload_n dX5_removes_37 rfl rfl ?_
      refine r_istore dX5_removes_38 (by decide) ?_
      have loop : ∀ m : Nat, ∀ j : Int, p ≤ j → j + (m : Int) = τ 3 k 5 - 1 → ∀ g, HR κ A g (rm22 (up σ 23 0 k (τ 3 k 5 - 1)) k p j) → Wp κ MX5_removes 1 0 0 40 [(0, vr A 5 0), (1, .int (iI k)), (2, .int (iI n)), (3, .int (iI p)), (4, .int (iI j))] [] g (OQ κ A σ (cI (canR τ k n) (tkF τ k q n) τ) (some (.int (iI (bI (canR τ k n)))))) := by
        intro m
        induction m with
        | zero =>
          intro j hj0 hjm g hh
          have hof : OF σ (rm22 (up σ 23 0 k (τ 3 k 5 - 1)) k p j) := ⟨fun t r c a b => by
            unfold rm22
            rw [if_neg (by rintro ⟨rfl, -⟩; cases a)]
            exact up_ne (by rintro ⟨rfl, -⟩; cases a), rfl, rfl⟩
          obtain rfl : j = τ 3 k 5 - 1 := by omega
          refine r_iload dX5_removes_40 rfl ?_
          refine r_aload_nO dX5_removes_42 rfl rfl ?_
          refine e_getF (t := 5) (k := 2) (t1 := 23) dX5_removes_43 cb5 (by decide) mf_X5_18 (by rfl) (by rfl) (by decide) (by assumption) (lv1 _ 5 (fun _ => rfl)) ?_
          refine r_iload_n dX5_removes_46 rfl rfl ?_
          refine e_iald (t := 23) dX5_removes_47 (by decide) (by decide) (by rfl) (by intro _; rfl) (by assumption) (lv1 _ 23 (fun _ => rfl)) (by have e : ln 23 = 24 := rfl; omega) ?_
          refine e_iv (show _ = τ 3 k 5 - 1 from up_at σ 23 0 k _) ?_
          refine e_ic_ge 77 dX5_removes_48 (by decide) ⟨by omega, by omega⟩ ⟨by omega, by omega⟩ (fun h48 => ?_) (fun h48 => by exfalso; omega)
          refine r_pc 77 rfl ?_
          refine e_iconst dX5_removes_77 ?_
          exact r_zret dX5_removes_78 rfl (narrow_01 (by omega)) ⟨A, _, hh, by rw [bI_t hcan], fun _ _ => rfl, by rw [cI_t hcan, hqp]; exact hO.rem (fun k hk => hF' k hk) hk hn hp12, hof⟩
        | succ m ih =>
          intro j hj0 hjm g hh
          have hof : OF σ (rm22 (up σ 23 0 k (τ 3 k 5 - 1)) k p j) := ⟨fun t r c a b => by
            unfold rm22
            rw [if_neg (by rintro ⟨rfl, -⟩; cases a)]
            exact up_ne (by rintro ⟨rfl, -⟩; cases a), rfl, rfl⟩
          obtain ⟨hv1, -⟩ := hO.2.2.1 k (j + 1) hk (by omega)
          have hk22' : Lv (rm22 (up σ 23 0 k (τ 3 k 5 - 1)) k p j) 22 k := hk22
          have hv' : Lv (rm22 (up σ 23 0 k (τ 3 k 5 - 1)) k p j) 25 (σ 22 k (j + 1)) := hv1
          refine r_iload dX5_removes_40 rfl ?_
          refine r_aload_nO dX5_removes_42 rfl rfl ?_
          refine e_getF (t := 5) (k := 2) (t1 := 23) dX5_removes_43 cb5 (by decide) mf_X5_18 (by rfl) (by rfl) (by decide) (by assumption) (lv1 _ 5 (fun _ => rfl)) ?_
          refine r_iload_n dX5_removes_46 rfl rfl ?_
          refine e_iald (t := 23) dX5_removes_47 (by decide) (by decide) (by rfl) (by intro _; rfl) (by assumption) (lv1 _ 23 (fun _ => rfl)) (by have e : ln 23 = 24 := rfl; omega) ?_
          refine e_iv (show _ = τ 3 k 5 - 1 from up_at σ 23 0 k _) ?_
          refine e_ic_ge 77 dX5_removes_48 (by decide) ⟨by omega, by omega⟩ ⟨by omega, by omega⟩ (fun h48 => by exfalso; omega) (fun h48 => ?_)
          refine r_pc 51 rfl ?_
          refine r_aload_nO dX5_removes_51 rfl rfl ?_
          refine e_getF (t := 5) (k := 1) (t1 := 21) dX5_removes_52 cb5 (by decide) mf_X5_15 (by rfl) (by rfl) (by decide) (by assumption) (lv1 _ 5 (fun _ => rfl)) ?_
          refine r_iload_n dX5_removes_55 rfl rfl ?_
          refine e_aald21 dX5_removes_56 (by assumption) (by have e : ln 21 = 24 := rfl; omega) ?_
          refine r_iload dX5_removes_57 rfl ?_
          refine r_aload_nO dX5_removes_59 rfl rfl ?_
          refine e_getF (t := 5) (k := 1) (t1 := 21) dX5_removes_60 cb5 (by decide) mf_X5_15 (by rfl) (by rfl) (by decide) (by assumption) (lv1 _ 5 (fun _ => rfl)) ?_
          refine r_iload_n dX5_removes_63 rfl rfl ?_
          refine e_aald21 dX5_removes_64 (by assumption) (by have e : ln 21 = 24 := rfl; omega) ?_
          refine r_iload dX5_removes_65 rfl ?_
          refine e_iconst dX5_removes_67 ?_
          first | refine e_iadd dX5_removes_68 ?_ | refine r_iadd dX5_removes_68 ?_
          refine e_aald (t := 22) (t1 := 25) dX5_removes_69 (by decide) (by decide) (by decide) (by intro _; rfl) (by decide) (by assumption) (by assumption) (by have e : ln 22 = 12 := rfl; omega) ?_
          refine e_rv (show _ = σ 22 k (j + 1) from rm22_at _ k p j (j + 1) (by omega)) ?_
          refine e_aast (t := 22) (t1 := 25) dX5_removes_70 (by decide) (by decide) (by decide) (by intro _; rfl) (by decide) (by intro _; rfl) (by intro _; rfl) (by decide) (by decide) (by rfl) (by assumption) (by assumption) (by have e : ln 22 = 12 := rfl; omega) (by assumption) (fun g hh => ?_)
          rw [show σ 22 k (j + 1) = up σ 23 0 k (τ 3 k 5 - 1) 22 k (j + 1) from rfl, rm22_s hj0] at hh
          refine e_iinc dX5_removes_71 rfl (by decide) ?_
          refine r_goto 40 dX5_removes_74 (by decide) ?_
          refine r_lv [(0, vr A 5 0), (1, .int (iI k)), (2, .int (iI n)), (3, .int (iI p)), (4, .int (iI (j + 1)))] rfl ?_
          exact ih (j + 1) (by omega) (by omega) g hh
      refine r_lv [(0, vr A 5 0), (1, .int (iI k)), (2, .int (iI n)), (3, .int (iI p)), (4, .int (iI p))] rfl ?_
      exact loop (τ 3 k 5 - 1 - p).toNat p (Int.le_refl _) (by omega) g (by rw [rm22_0]; exact hh)
theorem s_adopts {κ : KK} {A : Nat → Int → Nat} {σ : ST} {g : GG} {τ : ST} {L : Int → List Int} (hO : OWN τ σ) (hT : WT τ) (hL : WL τ L) (hF' : WF τ) (hV : WV τ) {k q : Int} (hk : Lv τ 3 k) (hq : -1 ≤ q ∧ q < τ 99 3 0)  (hh : HR κ A g σ) : Spec κ MX5_adopts 1 0 0 [vr A 5 0, .int (iI k), .int (iI q)] g (OQ κ A σ (cI (τ 3 k 1 = q ∨ (τ 3 k 3 = 0 ∧ k ∉ lo L q)) (up τ 3 k 1 q) τ) (some (.int (iI (bI (τ 3 k 1 = q ∨ (τ 3 k 3 = 0 ∧ k ∉ lo L q))))))) := by
  obtain ⟨hk22, hk24⟩ := lv24 (σ := σ) hT hk
  obtain ⟨ho20, ho23, ho24⟩ := hO.2.1 k hk
  have hz := wt_sz hT hk
  have hkd := kd3 hk
  have hsh := (hT.2.2 k hk).2.2.2.2.1
  have hpd := (hT.2.2 k hk).2.2.1
  have hN := hT.2.1
  refine e_start rfl (by show (lg_sl _).length ≤ 3; simp [lg_sl, cat_rf, cat_i, cat_l, cat_r, cat_n]) (lv := [(0, vr A 5 0), (1, .int (iI k)), (2, .int (iI q))]) (by simp [lv_args, cat_rf, cat_i, cat_l, cat_r, cat_n]) ?_
  refine r_aload_nO dX5_adopts_0 rfl rfl ?_
  refine e_getF (t := 5) (k := 0) (t1 := 20) dX5_adopts_1 cb5 (by decide) mf_X5_7 (by rfl) (by rfl) (by decide) (by assumption) (lv1 _ 5 (fun _ => rfl)) ?_
  refine r_iload_n dX5_adopts_4 rfl rfl ?_
  refine e_iald (t := 20) dX5_adopts_5 (by decide) (by decide) (by rfl) (by intro _; rfl) (by assumption) (lv1 _ 20 (fun _ => rfl)) (by have e : ln 20 = 24 := rfl; omega) ?_
  refine e_iv ho20 ?_
  refine r_iload_n dX5_adopts_6 rfl rfl ?_
  refine e_ic_ne 12 dX5_adopts_7 (by decide) ⟨by omega, by omega⟩ ⟨by omega, by omega⟩ (fun h7 => ?_) (fun h7 => ?_)
  · refine r_pc 12 rfl ?_
    refine r_aload_nO dX5_adopts_12 rfl rfl ?_
    refine e_getF (t := 5) (k := 3) (t1 := 24) dX5_adopts_13 cb5 (by decide) mf_X5_21 (by rfl) (by rfl) (by decide) (by assumption) (lv1 _ 5 (fun _ => rfl)) ?_
    refine r_iload_n dX5_adopts_16 rfl rfl ?_
    refine e_bald (t := 24) dX5_adopts_17 (by decide) (by decide) (by rfl) (by intro _; rfl) (by assumption) (lv1 _ 24 (fun _ => rfl)) (by have e : ln 24 = 24 := rfl; omega) ?_
    refine e_iv ho24 ?_
    refine e_if_ne 30 dX5_adopts_18 (by decide) ⟨by omega, by omega⟩ (fun h18 => ?_) (fun h18 => ?_)
    · refine r_pc 30 rfl ?_
      refine e_iconst dX5_adopts_30 ?_
      have hok : ¬ (τ 3 k 1 = q ∨ (τ 3 k 3 = 0 ∧ k ∉ lo L q)) := fun z => z.elim h7 (fun y => h18 y.1)
      exact r_zret dX5_adopts_31 rfl (narrow_01 (by omega)) ⟨A, σ, hh, by rw [bI_f hok], fun _ _ => rfl, by rw [cI_f hok]; exact hO, OF.rf' σ⟩
    · refine r_pc 21 rfl ?_
      refine r_aload_nO dX5_adopts_21 rfl rfl ?_
      refine r_iload_n dX5_adopts_22 rfl rfl ?_
      refine r_iload_n dX5_adopts_23 rfl rfl ?_
      refine e_callVP (z := MX5_isInLine) dX5_adopts_24 ml_X5_63 cz_X5_isInLine mk_X5_isInLine ms_X5_isInLine cb5 (by decide) (s_oIn hO hT hL hF' hV hq hk) rfl rfl (by simp [cat_rf, cat_i, cat_l, cat_r, cat_n]) (by decide) (by assumption) (lv1 _ 5 (fun _ => rfl)) (fun g hh => ?_)
      refine r_pc 27 rfl ?_
      refine e_ifeq_b 32 dX5_adopts_27 (by decide) (fun h27 => ?_) (fun h27 => ?_)
      · refine r_pc 32 rfl ?_
        refine r_aload_nO dX5_adopts_32 rfl rfl ?_
        refine e_getF (t := 5) (k := 0) (t1 := 20) dX5_adopts_33 cb5 (by decide) mf_X5_7 (by rfl) (by rfl) (by decide) (by assumption) (lv1 _ 5 (fun _ => rfl)) ?_
        refine r_iload_n dX5_adopts_36 rfl rfl ?_
        refine r_iload_n dX5_adopts_37 rfl rfl ?_
        refine e_iast (t := 20) dX5_adopts_38 (by decide) (by decide) (by rfl) (by intro _; rfl) (by assumption) (lv1 _ 20 (fun _ => rfl)) (by have e : ln 20 = 24 := rfl; omega) (fun g hh => ?_)
        refine e_iconst dX5_adopts_39 ?_
        have hok : τ 3 k 1 = q ∨ (τ 3 k 3 = 0 ∧ k ∉ lo L q) := Or.inr ⟨by omega, h27⟩
        exact r_zret dX5_adopts_40 rfl (narrow_01 (by omega)) ⟨A, _, hh, by rw [bI_t hok], fun _ _ => rfl, by rw [cI_t hok]; exact hO.par hk, (OF.rf' σ).u 20 0 k q rfl⟩
      · refine r_pc 30 rfl ?_
        refine e_iconst dX5_adopts_30 ?_
        have hok : ¬ (τ 3 k 1 = q ∨ (τ 3 k 3 = 0 ∧ k ∉ lo L q)) := fun z => z.elim h7 (fun y => y.2 h27)
        exact r_zret dX5_adopts_31 rfl (narrow_01 (by omega)) ⟨A, σ, hh, by rw [bI_f hok], fun _ _ => rfl, by rw [cI_f hok]; exact hO, OF.rf' σ⟩
  · refine r_pc 10 rfl ?_
    refine e_iconst dX5_adopts_10 ?_
    have hok : τ 3 k 1 = q ∨ (τ 3 k 3 = 0 ∧ k ∉ lo L q) := Or.inl h7
    exact r_zret dX5_adopts_11 rfl (narrow_01 (by omega)) ⟨A, σ, hh, by rw [bI_t hok], fun _ _ => rfl, by rw [cI_t hok, ← h7, up_sm]; exact hO, OF.rf' σ⟩
