/-! THE LAW'S OWN OBJECTS: they tell of a court τ -/
def RW (σ : ST) (ρ n t a b c d : Int) : Prop := σ 25 ρ 0 = n ∧ σ 25 ρ 3 = bI (isFx t) ∧ (isPr t → σ 25 ρ 1 = 2 ∧ σ 25 ρ 2 = b ∧ σ 25 ρ 5 = c ∧ σ 25 ρ 6 = d) ∧ (¬ isPr t → σ 25 ρ 1 = 1 ∧ σ 25 ρ 2 = a)
def OR (τ σ : ST) (k j : Int) : Prop := Lv σ 25 (σ 22 k j) ∧ RW σ (σ 22 k j) (τ 14 k j) (τ 15 k (τ 14 k j)) (τ 16 k (τ 14 k j)) (τ 17 k (τ 14 k j)) (τ 18 k (τ 14 k j)) (τ 19 k (τ 14 k j))
def OWN (τ σ : ST) : Prop := σ 5 0 4 = τ 99 3 0 ∧ (∀ k, Lv τ 3 k → σ 20 0 k = τ 3 k 1 ∧ σ 23 0 k = τ 3 k 5 ∧ σ 24 0 k = τ 3 k 3) ∧ (∀ k j, Lv τ 3 k → (0 ≤ j ∧ j < τ 3 k 5) → OR τ σ k j) ∧ (∀ k j k' j', Lv τ 3 k → (0 ≤ j ∧ j < τ 3 k 5) → Lv τ 3 k' → (0 ≤ j' ∧ j' < τ 3 k' 5) → σ 22 k j = σ 22 k' j' → k = k' ∧ j = j') ∧ (∀ k, τ 99 3 0 ≤ k → k < 24 → σ 23 0 k = 0 ∧ σ 24 0 k = 0) ∧ 0 ≤ σ 99 25 0
/-- q is where k has n; -1: nowhere -/
def PLC (τ : ST) (k n q : Int) : Prop := (q = -1 ∧ ∀ j, (0 ≤ j ∧ j < τ 3 k 5) → ¬ τ 14 k j = n) ∨ ((0 ≤ q ∧ q < τ 3 k 5) ∧ τ 14 k q = n)
theorem plc_neg {τ : ST} {k n q : Int} (hF : WFk τ k) (h : PLC τ k n q) (h0 : τ 15 k n = 0) : q = -1 := by
  rcases h with h | ⟨a, b⟩
  · exact h.1
  · have := (hF.1 q a).2
    rw [b] at this
    exact absurd h0 this
theorem plc_pos {τ : ST} {k n q : Int} (hF : WFk τ k) (hn : 0 ≤ n ∧ n < 12) (h : PLC τ k n q) (h0 : ¬ τ 15 k n = 0) : (0 ≤ q ∧ q < τ 3 k 5) ∧ τ 14 k q = n := by
  rcases h with ⟨a, b⟩ | h
  · obtain ⟨j, hj, e⟩ := (hF.2.1 n hn).2 h0
    exact absurd e (b j hj)
  · exact h
theorem lv24 {τ σ : ST} (hT : WT τ) {k : Int} (hk : Lv τ 3 k) : Lv σ 22 k ∧ (0 ≤ k ∧ k < 24) := by
  have := hT.2.1
  have h2 : k < τ 99 3 0 := hk.2
  have h1 := hk.1
  exact ⟨⟨h1, by show k < 24; omega⟩, by omega⟩
/-- the row of the first of a line that has n; -1: none has -/
def FND (τ σ : ST) (n : Int) (l : List Int) (ρ : Int) : Prop := (hF τ n l < 0 ∧ ρ = -1) ∨ (0 ≤ hF τ n l ∧ ∃ q, (0 ≤ q ∧ q < τ 3 (hF τ n l) 5) ∧ τ 14 (hF τ n l) q = n ∧ ρ = σ 22 (hF τ n l) q)
theorem fnd_row {τ σ : ST} {L : Int → List Int} {n k ρ : Int} (hO : OWN τ σ) (hT : WT τ) (hL : WL τ L) (hk : -1 ≤ k ∧ k < τ 99 3 0) (h : FND τ σ n (lo L k) ρ) (h0 : 0 ≤ ρ) : 0 ≤ hF τ n (lo L k) ∧ Lv σ 25 ρ ∧ RW σ ρ n (τ 15 (hF τ n (lo L k)) n) (τ 16 (hF τ n (lo L k)) n) (τ 17 (hF τ n (lo L k)) n) (τ 18 (hF τ n (lo L k)) n) (τ 19 (hF τ n (lo L k)) n) := by
  rcases h with ⟨a, b⟩ | ⟨a, q, hq, e, rfl⟩
  · omega
  · have := hO.2.2.1 _ q (hF_lv hT hL hk a) hq
    unfold OR at this
    rw [e] at this
    exact ⟨a, this.1, this.2⟩
theorem fnd_neg {τ σ : ST} {L : Int → List Int} {n k ρ : Int} (hO : OWN τ σ) (hT : WT τ) (hL : WL τ L) (hk : -1 ≤ k ∧ k < τ 99 3 0) (h : FND τ σ n (lo L k) ρ) (h0 : ρ < 0) : hF τ n (lo L k) < 0 := by
  rcases h with ⟨a, b⟩ | ⟨a, q, hq, e, rfl⟩
  · exact a
  · have := (hO.2.2.1 _ q (hF_lv hT hL hk a) hq).1.1
    omega
theorem s_place {κ : KK} {A : Nat → Int → Nat} {σ : ST} {τ : ST} {L : Int → List Int} (hO : OWN τ σ) (hT : WT τ) (hL : WL τ L) (hF' : WF τ) (hV : WV τ) {k n : Int} (hk : Lv τ 3 k) (hn : 0 ≤ n ∧ n < 12)  : ∃ q : Int, PLC τ k n q ∧ PU κ A MX5_place 0 σ [vr A 5 0, .int (iI k), .int (iI n)] (.int (iI q)) := by
  obtain ⟨hk22, hk24⟩ := lv24 (σ := σ) hT hk
  obtain ⟨ho20, ho23, ho24⟩ := hO.2.1 k hk
  have hz := wt_sz hT hk
  have loop : ∀ m : Nat, ∀ j : Int, 0 ≤ j → j + (m : Int) = τ 3 k 5 → (∀ i, (0 ≤ i ∧ i < j) → ¬ τ 14 k i = n) → ∃ q : Int, PLC τ k n q ∧ ∀ g, HR κ A g σ → Wp κ MX5_place 0 0 0 2 [(0, vr A 5 0), (1, .int (iI k)), (2, .int (iI n)), (3, .int (iI j))] [] g (PQ κ A σ (some (.int (iI q)))) := by
    intro m
    induction m with
    | zero =>
      intro j hj0 hjm hno
      refine ⟨-1, Or.inl ⟨rfl, fun i hi => hno i (by omega)⟩, fun g hh => ?_⟩
      refine r_iload_n dX5_place_2 rfl rfl ?_
      refine r_aload_nO dX5_place_3 rfl rfl ?_
      refine e_getF (t := 5) (k := 2) (t1 := 23) dX5_place_4 cb5 (by decide) mf_X5_18 (by rfl) (by rfl) (by decide) (by assumption) (lv1 _ 5 (fun _ => rfl)) ?_
      refine r_iload_n dX5_place_7 rfl rfl ?_
      refine e_iald (t := 23) dX5_place_8 (by decide) (by decide) (by rfl) (by intro _; rfl) (by assumption) (lv1 _ 23 (fun _ => rfl)) (by have e : ln 23 = 24 := rfl; omega) ?_
      refine e_iv ho23 ?_
      refine e_ic_ge 34 dX5_place_9 (by decide) ⟨by omega, by omega⟩ ⟨by omega, by omega⟩ (fun h9 => ?_) (fun h9 => by exfalso; omega)
      refine r_pc 34 rfl ?_
      refine e_iconst dX5_place_34 ?_
      exact q_iret dX5_place_35 rfl (by rfl) (by assumption)
    | succ m ih =>
      intro j hj0 hjm hno
      have hoj := ((hF' k hk).1 j (by omega)).1
      obtain ⟨hρ, hr0, -⟩ := hO.2.2.1 k j hk (by omega)
      by_cases hc : τ 14 k j = n
      · refine ⟨j, Or.inr ⟨by omega, hc⟩, fun g hh => ?_⟩
        refine r_iload_n dX5_place_2 rfl rfl ?_
        refine r_aload_nO dX5_place_3 rfl rfl ?_
        refine e_getF (t := 5) (k := 2) (t1 := 23) dX5_place_4 cb5 (by decide) mf_X5_18 (by rfl) (by rfl) (by decide) (by assumption) (lv1 _ 5 (fun _ => rfl)) ?_
        refine r_iload_n dX5_place_7 rfl rfl ?_
        refine e_iald (t := 23) dX5_place_8 (by decide) (by decide) (by rfl) (by intro _; rfl) (by assumption) (lv1 _ 23 (fun _ => rfl)) (by have e : ln 23 = 24 := rfl; omega) ?_
        refine e_iv ho23 ?_
        refine e_ic_ge 34 dX5_place_9 (by decide) ⟨by omega, by omega⟩ ⟨by omega, by omega⟩ (fun h9 => by exfalso; omega) (fun h9 => ?_)
        refine r_pc 12 rfl ?_
        refine r_aload_nO dX5_place_12 rfl rfl ?_
        refine e_getF (t := 5) (k := 1) (t1 := 21) dX5_place_13 cb5 (by decide) mf_X5_15 (by rfl) (by rfl) (by decide) (by assumption) (lv1 _ 5 (fun _ => rfl)) ?_
        refine r_iload_n dX5_place_16 rfl rfl ?_
        refine e_aald21 dX5_place_17 (by assumption) (by have e : ln 21 = 24 := rfl; omega) ?_
        refine r_iload_n dX5_place_18 rfl rfl ?_
        refine e_aald (t := 22) (t1 := 25) dX5_place_19 (by decide) (by decide) (by decide) (by intro _; rfl) (by decide) (by assumption) (by assumption) (by have e : ln 22 = 12 := rfl; omega) ?_
        refine e_iconst dX5_place_20 ?_
        refine e_iald (t := 25) dX5_place_21 (by decide) (by decide) (by rfl) (by intro _; rfl) (by assumption) (by assumption) (by have e : ln 25 = 7 := rfl; omega) ?_
        refine e_iv hr0 ?_
        refine r_iload_n dX5_place_22 rfl rfl ?_
        refine e_ic_ne 28 dX5_place_23 (by decide) ⟨by omega, by omega⟩ ⟨by omega, by omega⟩ (fun h23 => by exfalso; omega) (fun h23 => ?_)
        refine r_pc 26 rfl ?_
        refine r_iload_n dX5_place_26 rfl rfl ?_
        exact q_iret dX5_place_27 rfl (by rfl) (by assumption)
      · obtain ⟨v, hv, hw⟩ := ih (j + 1) (by omega) (by omega) (fun i hi => by by_cases z : i = j; (rw [z]; exact hc); exact hno i (by omega))
        refine ⟨v, hv, fun g hh => ?_⟩
        refine r_iload_n dX5_place_2 rfl rfl ?_
        refine r_aload_nO dX5_place_3 rfl rfl ?_
        refine e_getF (t := 5) (k := 2) (t1 := 23) dX5_place_4 cb5 (by decide) mf_X5_18 (by rfl) (by rfl) (by decide) (by assumption) (lv1 _ 5 (fun _ => rfl)) ?_
        refine r_iload_n dX5_place_7 rfl rfl ?_
        refine e_iald (t := 23) dX5_place_8 (by decide) (by decide) (by rfl) (by intro _; rfl) (by assumption) (lv1 _ 23 (fun _ => rfl)) (by have e : ln 23 = 24 := rfl; omega) ?_
        refine e_iv ho23 ?_
        refine e_ic_ge 34 dX5_place_9 (by decide) ⟨by omega, by omega⟩ ⟨by omega, by omega⟩ (fun h9 => by exfalso; omega) (fun h9 => ?_)
        refine r_pc 12 rfl ?_
        refine r_aload_nO dX5_place_12 rfl rfl ?_
        refine e_getF (t := 5) (k := 1) (t1 := 21) dX5_place_13 cb5 (by decide) mf_X5_15 (by rfl) (by rfl) (by decide) (by assumption) (lv1 _ 5 (fun _ => rfl)) ?_
        refine r_iload_n dX5_place_16 rfl rfl ?_
        refine e_aald21 dX5_place_17 (by assumption) (by have e : ln 21 = 24 := rfl; omega) ?_
        refine r_iload_n dX5_place_18 rfl rfl ?_
        refine e_aald (t := 22) (t1 := 25) dX5_place_19 (by decide) (by decide) (by decide) (by intro _; rfl) (by decide) (by assumption) (by assumption) (by have e : ln 22 = 12 := rfl; omega) ?_
        refine e_iconst dX5_place_20 ?_
        refine e_iald (t := 25) dX5_place_21 (by decide) (by decide) (by rfl) (by intro _; rfl) (by assumption) (by assumption) (by have e : ln 25 = 7 := rfl; omega) ?_
        refine e_iv hr0 ?_
        refine r_iload_n dX5_place_22 rfl rfl ?_
        refine e_ic_ne 28 dX5_place_23 (by decide) ⟨by omega, by omega⟩ ⟨by omega, by omega⟩ (fun h23 => ?_) (fun h23 => by exfalso; omega)
        refine r_pc 28 rfl ?_
        refine e_iinc dX5_place_28 rfl (by decide) ?_
        refine r_goto 2 dX5_place_31 (by decide) ?_
        refine r_lv [(0, vr A 5 0), (1, .int (iI k)), (2, .int (iI n)), (3, .int (iI (j + 1)))] rfl ?_
        exact hw g hh
  obtain ⟨v, hv, hw⟩ := loop (τ 3 k 5).toNat 0 (by omega) (by omega) (fun i hi => by omega)
  refine ⟨v, hv, ?_⟩
  intro g hh
  refine e_start rfl (by show (lg_sl _).length ≤ 4; simp [lg_sl, cat_rf, cat_i, cat_l, cat_r, cat_n]) (lv := [(0, vr A 5 0), (1, .int (iI k)), (2, .int (iI n))]) (by simp [lv_args, cat_rf, cat_i, cat_l, cat_r, cat_n]) ?_
  refine e_iconst dX5_place_0 ?_
  refine r_istore_n dX5_place_1 rfl (by decide) ?_
  refine r_lv [(0, vr A 5 0), (1, .int (iI k)), (2, .int (iI n)), (3, .int (iI 0))] rfl ?_
  exact hw g hh
theorem s_found {κ : KK} {A : Nat → Int → Nat} {σ : ST} {τ : ST} {L : Int → List Int} (hO : OWN τ σ) (hT : WT τ) (hL : WL τ L) (hF' : WF τ) (hV : WV τ) {k n : Int} (hk : Lv τ 3 k) (hn : 0 ≤ n ∧ n < 12)  : ∃ ρ : Int, FND τ σ n (lo L k) ρ ∧ PU κ A MX5_found 1 σ [vr A 5 0, .int (iI k), .int (iI n)] (vr A 25 ρ) := by
  have loop : ∀ (l : List Int) (q : Int), lo L q = l → (-1 ≤ q ∧ q < τ 99 3 0) → (hF τ n l = hF τ n (lo L k)) → ∃ ρ : Int, FND τ σ n (lo L k) ρ ∧ ∀ g, HR κ A g σ → Wp κ MX5_found 1 0 0 2 [(0, vr A 5 0), (1, .int (iI k)), (2, .int (iI n)), (3, .int (iI q))] [] g (PQ κ A σ (some (vr A 25 ρ))) := by
    intro l
    induction l with
    | nil =>
      intro q hl hq hm
      have hq0 := lo_nil hL hq hl
      refine ⟨-1, Or.inl ⟨by rw [← hm]; exact (by decide : (-1 : Int) < 0), rfl⟩, fun g hh => ?_⟩
      refine r_iload_n dX5_found_2 rfl rfl ?_
      refine e_if_lt 39 dX5_found_3 (by decide) ⟨by omega, by omega⟩ (fun h3 => ?_) (fun h3 => by exfalso; omega)
      refine r_pc 39 rfl ?_
      refine e_null A 25 dX5_found_39 ?_
      exact q_aret dX5_found_40 rfl (Or.inr ⟨_, rfl⟩) rfl (by assumption)
    | cons b l ih =>
      intro q hl hq hm
      obtain ⟨hq0, rfl, hl'⟩ := lo_cons hL hq hl
      have hqk : Lv τ 3 q := ⟨hq0, hq.2⟩
      have hqp := (hT.2.2 q hqk).2.2.1
      have hN := hT.2.1
      obtain ⟨hq22, hq24⟩ := lv24 (σ := σ) hT hqk
      obtain ⟨ho20, ho23, ho24⟩ := hO.2.1 q hqk
      obtain ⟨p, hp, hpl⟩ := s_place (κ := κ) (A := A) hO hT hL hF' hV hqk hn
      have hzq := wt_sz hT hqk
      by_cases hc : τ 15 q n = 0
      · obtain rfl := plc_neg (hF' q hqk) hp hc
        obtain ⟨v, hv, hw⟩ := ih _ hl' hqp (by rw [← hm, hF, if_pos hc])
        refine ⟨v, hv, fun g hh => ?_⟩
        refine r_iload_n dX5_found_2 rfl rfl ?_
        refine e_if_lt 39 dX5_found_3 (by decide) ⟨by omega, by omega⟩ (fun h3 => by exfalso; omega) (fun h3 => ?_)
        refine r_pc 6 rfl ?_
        refine r_aload_nO dX5_found_6 rfl rfl ?_
        refine r_iload_n dX5_found_7 rfl rfl ?_
        refine r_iload_n dX5_found_8 rfl rfl ?_
        refine e_callVP (z := MX5_place) dX5_found_9 ml_X5_35 cz_X5_place mk_X5_place ms_X5_place cb5 (by decide) hpl rfl rfl (by simp [cat_rf, cat_i, cat_l, cat_r, cat_n]) (by decide) (by assumption) (lv1 _ 5 (fun _ => rfl)) (fun g hh => ?_)
        refine r_pc 12 rfl ?_
        refine e_if_lt 29 dX5_found_12 (by decide) ⟨by omega, by omega⟩ (fun h12 => ?_) (fun h12 => by exfalso; omega)
        refine r_pc 29 rfl ?_
        refine r_aload_nO dX5_found_29 rfl rfl ?_
        refine e_getF (t := 5) (k := 0) (t1 := 20) dX5_found_30 cb5 (by decide) mf_X5_7 (by rfl) (by rfl) (by decide) (by assumption) (lv1 _ 5 (fun _ => rfl)) ?_
        refine r_iload_n dX5_found_33 rfl rfl ?_
        refine e_iald (t := 20) dX5_found_34 (by decide) (by decide) (by rfl) (by intro _; rfl) (by assumption) (lv1 _ 20 (fun _ => rfl)) (by have e : ln 20 = 24 := rfl; omega) ?_
        refine e_iv ho20 ?_
        refine r_istore_n dX5_found_35 rfl (by decide) ?_
        refine r_goto 2 dX5_found_36 (by decide) ?_
        refine r_lv [(0, vr A 5 0), (1, .int (iI k)), (2, .int (iI n)), (3, .int (iI (τ 3 q 1)))] rfl ?_
        exact hw g hh
      · obtain ⟨hp1, hp2⟩ := plc_pos (hF' q hqk) hn hp hc
        have hmq : hF τ n (lo L k) = q := by rw [← hm, hF, if_neg hc]
        refine ⟨σ 22 q p, Or.inr ⟨by omega, p, by rw [hmq]; exact hp1, by rw [hmq]; exact hp2, by rw [hmq]⟩, fun g hh => ?_⟩
        refine r_iload_n dX5_found_2 rfl rfl ?_
        refine e_if_lt 39 dX5_found_3 (by decide) ⟨by omega, by omega⟩ (fun h3 => by exfalso; omega) (fun h3 => ?_)
        refine r_pc 6 rfl ?_
        refine r_aload_nO dX5_found_6 rfl rfl ?_
        refine r_iload_n dX5_found_7 rfl rfl ?_
        refine r_iload_n dX5_found_8 rfl rfl ?_
        refine e_callVP (z := MX5_place) dX5_found_9 ml_X5_35 cz_X5_place mk_X5_place ms_X5_place cb5 (by decide) hpl rfl rfl (by simp [cat_rf, cat_i, cat_l, cat_r, cat_n]) (by decide) (by assumption) (lv1 _ 5 (fun _ => rfl)) (fun g hh => ?_)
        refine r_pc 12 rfl ?_
        refine e_if_lt 29 dX5_found_12 (by decide) ⟨by omega, by omega⟩ (fun h12 => by exfalso; omega) (fun h12 => ?_)
        refine r_pc 15 rfl ?_
        refine r_aload_nO dX5_found_15 rfl rfl ?_
        refine e_getF (t := 5) (k := 1) (t1 := 21) dX5_found_16 cb5 (by decide) mf_X5_15 (by rfl) (by rfl) (by decide) (by assumption) (lv1 _ 5 (fun _ => rfl)) ?_
        refine r_iload_n dX5_found_19 rfl rfl ?_
        refine e_aald21 dX5_found_20 (by assumption) (by have e : ln 21 = 24 := rfl; omega) ?_
        refine r_aload_nO dX5_found_21 rfl rfl ?_
        refine r_iload_n dX5_found_22 rfl rfl ?_
        refine r_iload_n dX5_found_23 rfl rfl ?_
        refine e_callVP (z := MX5_place) dX5_found_24 ml_X5_35 cz_X5_place mk_X5_place ms_X5_place cb5 (by decide) hpl rfl rfl (by simp [cat_rf, cat_i, cat_l, cat_r, cat_n]) (by decide) (by assumption) (lv1 _ 5 (fun _ => rfl)) (fun g hh => ?_)
        refine r_pc 27 rfl ?_
        refine e_aald (t := 22) (t1 := 25) dX5_found_27 (by decide) (by decide) (by decide) (by intro _; rfl) (by decide) (by assumption) (by assumption) (by have e : ln 22 = 12 := rfl; omega) ?_
        exact q_aret dX5_found_28 rfl (Or.inr ⟨_, rfl⟩) rfl (by assumption)
  obtain ⟨v, hv, hw⟩ := loop (lo L k) k rfl ⟨by have := hk.1; omega, hk.2⟩ rfl
  refine ⟨v, hv, ?_⟩
  intro g hh
  refine e_start rfl (by show (lg_sl _).length ≤ 4; simp [lg_sl, cat_rf, cat_i, cat_l, cat_r, cat_n]) (lv := [(0, vr A 5 0), (1, .int (iI k)), (2, .int (iI n))]) (by simp [lv_args, cat_rf, cat_i, cat_l, cat_r, cat_n]) ?_
  refine r_iload_n dX5_found_0 rfl rfl ?_
  refine r_istore_n dX5_found_1 rfl (by decide) ?_
  refine r_lv [(0, vr A 5 0), (1, .int (iI k)), (2, .int (iI n)), (3, .int (iI k))] rfl ?_
  exact hw g hh
theorem s_far {κ : KK} {A : Nat → Int → Nat} {σ : ST} {τ : ST} {L : Int → List Int} (hO : OWN τ σ) (hT : WT τ) (hL : WL τ L) (hF' : WF τ) (hV : WV τ) {k n : Int} (hk : Lv τ 3 k) (hn : 0 ≤ n ∧ n < 12)  : PU κ A MX5_far 1 σ [vr A 5 0, .int (iI k), .int (iI n)] (.int (iI (wF τ n (lo L k)))) := by
  intro g hh
  refine e_start rfl (by show (lg_sl _).length ≤ 5; simp [lg_sl, cat_rf, cat_i, cat_l, cat_r, cat_n]) (lv := [(0, vr A 5 0), (1, .int (iI k)), (2, .int (iI n))]) (by simp [lv_args, cat_rf, cat_i, cat_l, cat_r, cat_n]) ?_
  have loop : ∀ (l : List Int) (q : Int), ∀ c : Int, lo L q = l → (-1 ≤ q ∧ q < τ 99 3 0) → ((if wF τ n l < 0 then -1 else c + wF τ n l) = wF τ n (lo L k)) → ∀ g, HR κ A g σ → Wp κ MX5_far 1 0 0 5 [(0, vr A 5 0), (1, .int (iI k)), (2, .int (iI n)), (3, .int (iI c)), (4, .int (iI q))] [] g (PQ κ A σ (some (.int (iI (wF τ n (lo L k)))))) := by
    intro l
    induction l with
    | nil =>
      intro q c hl hq hm g hh
      have hq0 := lo_nil hL hq hl
      refine r_iload dX5_far_5 rfl ?_
      refine e_if_lt 37 dX5_far_7 (by decide) ⟨by omega, by omega⟩ (fun h7 => ?_) (fun h7 => by exfalso; omega)
      refine r_pc 37 rfl ?_
      refine e_iconst dX5_far_37 ?_
      exact q_iret dX5_far_38 rfl (by rw [← hm]; rfl) (by assumption)
    | cons b l ih =>
      intro q c hl hq hm g hh
      obtain ⟨hq0, rfl, hl'⟩ := lo_cons hL hq hl
      have hqk : Lv τ 3 q := ⟨hq0, hq.2⟩
      have hqp := (hT.2.2 q hqk).2.2.1
      have hN := hT.2.1
      obtain ⟨hq22, hq24⟩ := lv24 (σ := σ) hT hqk
      obtain ⟨ho20, ho23, ho24⟩ := hO.2.1 q hqk
      obtain ⟨p, hp, hpl⟩ := s_place (κ := κ) (A := A) hO hT hL hF' hV hqk hn
      have hzq := wt_sz hT hqk
      refine r_iload dX5_far_5 rfl ?_
      refine e_if_lt 37 dX5_far_7 (by decide) ⟨by omega, by omega⟩ (fun h7 => by exfalso; omega) (fun h7 => ?_)
      refine r_pc 10 rfl ?_
      refine r_aload_nO dX5_far_10 rfl rfl ?_
      refine r_iload dX5_far_11 rfl ?_
      refine r_iload_n dX5_far_13 rfl rfl ?_
      refine e_callVP (z := MX5_place) dX5_far_14 ml_X5_35 cz_X5_place mk_X5_place ms_X5_place cb5 (by decide) hpl rfl rfl (by simp [cat_rf, cat_i, cat_l, cat_r, cat_n]) (by decide) (by assumption) (lv1 _ 5 (fun _ => rfl)) (fun g hh => ?_)
      refine r_pc 17 rfl ?_
      by_cases hc : τ 15 q n = 0
      · obtain rfl := plc_neg (hF' q hqk) hp hc
        refine e_if_lt 22 dX5_far_17 (by decide) ⟨by omega, by omega⟩ (fun h17 => ?_) (fun h17 => by exfalso; omega)
        refine r_pc 22 rfl ?_
        refine e_iinc dX5_far_22 rfl (by decide) ?_
        refine r_aload_nO dX5_far_25 rfl rfl ?_
        refine e_getF (t := 5) (k := 0) (t1 := 20) dX5_far_26 cb5 (by decide) mf_X5_7 (by rfl) (by rfl) (by decide) (by assumption) (lv1 _ 5 (fun _ => rfl)) ?_
        refine r_iload dX5_far_29 rfl ?_
        refine e_iald (t := 20) dX5_far_31 (by decide) (by decide) (by rfl) (by intro _; rfl) (by assumption) (lv1 _ 20 (fun _ => rfl)) (by have e : ln 20 = 24 := rfl; omega) ?_
        refine e_iv ho20 ?_
        refine r_istore dX5_far_32 (by decide) ?_
        refine r_goto 5 dX5_far_34 (by decide) ?_
        refine r_lv [(0, vr A 5 0), (1, .int (iI k)), (2, .int (iI n)), (3, .int (iI (c + 1))), (4, .int (iI (τ 3 q 1)))] rfl ?_
        exact ih _ _ hl' hqp (by have e : wF τ n (q :: l) = if wF τ n l < 0 then -1 else wF τ n l + 1 := by { rw [wF, if_pos hc] }; rw [← hm, e]; repeat' split <;> omega) g hh
      · obtain ⟨hp1, hp2⟩ := plc_pos (hF' q hqk) hn hp hc
        refine e_if_lt 22 dX5_far_17 (by decide) ⟨by omega, by omega⟩ (fun h17 => by exfalso; omega) (fun h17 => ?_)
        refine r_pc 20 rfl ?_
        refine r_iload_n dX5_far_20 rfl rfl ?_
        exact q_iret dX5_far_21 rfl (by rw [← hm, wF, if_neg hc]; simp) (by assumption)
  refine e_iconst dX5_far_0 ?_
  refine r_istore_n dX5_far_1 rfl (by decide) ?_
  refine r_iload_n dX5_far_2 rfl rfl ?_
  refine r_istore dX5_far_3 (by decide) ?_
  refine r_lv [(0, vr A 5 0), (1, .int (iI k)), (2, .int (iI n)), (3, .int (iI 0)), (4, .int (iI k))] rfl ?_
  exact loop _ k 0 rfl ⟨by have := hk.1; omega, hk.2⟩ (by have := wF_r τ n (lo L k); split <;> omega) g hh
theorem s_oIn {κ : KK} {A : Nat → Int → Nat} {σ : ST} {τ : ST} {L : Int → List Int} (hO : OWN τ σ) (hT : WT τ) (hL : WL τ L) (hF' : WF τ) (hV : WV τ) {k t : Int} (hk : -1 ≤ k ∧ k < τ 99 3 0) (ht : Lv τ 3 t) : PU κ A MX5_isInLine 0 σ [vr A 5 0, .int (iI k), .int (iI t)] (.int (iI (bI (t ∈ lo L k)))) := by
  intro g hh
  refine e_start rfl (by show (lg_sl _).length ≤ 4; simp [lg_sl, cat_rf, cat_i, cat_l, cat_r, cat_n]) (lv := [(0, vr A 5 0), (1, .int (iI k)), (2, .int (iI t))]) (by simp [lv_args, cat_rf, cat_i, cat_l, cat_r, cat_n]) ?_
  have ht0 := ht.1
  have ht1 : t < τ 99 3 0 := ht.2
  have hN := hT.2.1
  have loop : ∀ (l : List Int) (q : Int), lo L q = l → (-1 ≤ q ∧ q < τ 99 3 0) → (t ∈ lo L k ↔ t ∈ l) → ∀ g, HR κ A g σ → Wp κ MX5_isInLine 0 0 0 2 [(0, vr A 5 0), (1, .int (iI k)), (2, .int (iI t)), (3, .int (iI q))] [] g (PQ κ A σ (some (.int (iI (bI (t ∈ lo L k)))))) := by
    intro l
    induction l with
    | nil =>
      intro q hl hq hm g hh
      have hq0 := lo_nil hL hq hl
      refine r_iload_n dX5_isInLine_2 rfl rfl ?_
      refine e_if_lt 23 dX5_isInLine_3 (by decide) ⟨by omega, by omega⟩ (fun h3 => ?_) (fun h3 => by exfalso; omega)
      refine r_pc 23 rfl ?_
      refine e_iconst dX5_isInLine_23 ?_
      exact q_zret dX5_isInLine_24 rfl (by omega) (by exact (bI_f (by rw [hm]; exact List.not_mem_nil)).symm) (by assumption)
    | cons b l ih =>
      intro q hl hq hm g hh
      obtain ⟨hq0, rfl, hl'⟩ := lo_cons hL hq hl
      have hqk : Lv τ 3 q := ⟨hq0, hq.2⟩
      have hqp := (hT.2.2 q hqk).2.2.1
      have hN := hT.2.1
      obtain ⟨hq22, hq24⟩ := lv24 (σ := σ) hT hqk
      obtain ⟨ho20, ho23, ho24⟩ := hO.2.1 q hqk
      refine r_iload_n dX5_isInLine_2 rfl rfl ?_
      refine e_if_lt 23 dX5_isInLine_3 (by decide) ⟨by omega, by omega⟩ (fun h3 => by exfalso; omega) (fun h3 => ?_)
      refine r_pc 6 rfl ?_
      refine r_iload_n dX5_isInLine_6 rfl rfl ?_
      refine r_iload_n dX5_isInLine_7 rfl rfl ?_
      refine e_ic_ne 13 dX5_isInLine_8 (by decide) ⟨by omega, by omega⟩ ⟨by omega, by omega⟩ (fun h8 => ?_) (fun h8 => ?_)
      · refine r_pc 13 rfl ?_
        refine r_aload_nO dX5_isInLine_13 rfl rfl ?_
        refine e_getF (t := 5) (k := 0) (t1 := 20) dX5_isInLine_14 cb5 (by decide) mf_X5_7 (by rfl) (by rfl) (by decide) (by assumption) (lv1 _ 5 (fun _ => rfl)) ?_
        refine r_iload_n dX5_isInLine_17 rfl rfl ?_
        refine e_iald (t := 20) dX5_isInLine_18 (by decide) (by decide) (by rfl) (by intro _; rfl) (by assumption) (lv1 _ 20 (fun _ => rfl)) (by have e : ln 20 = 24 := rfl; omega) ?_
        refine e_iv ho20 ?_
        refine r_istore_n dX5_isInLine_19 rfl (by decide) ?_
        refine r_goto 2 dX5_isInLine_20 (by decide) ?_
        refine r_lv [(0, vr A 5 0), (1, .int (iI k)), (2, .int (iI t)), (3, .int (iI (τ 3 q 1)))] rfl ?_
        exact ih _ hl' hqp (by rw [hm, List.mem_cons]; exact ⟨fun e => e.resolve_left (fun z => h8 z.symm), Or.inr⟩) g hh
      · refine r_pc 11 rfl ?_
        refine e_iconst dX5_isInLine_11 ?_
        exact q_zret dX5_isInLine_12 rfl (by omega) (by exact (bI_t (by rw [hm, h8]; exact List.mem_cons_self)).symm) (by assumption)
  refine r_iload_n dX5_isInLine_0 rfl rfl ?_
  refine r_istore_n dX5_isInLine_1 rfl (by decide) ?_
  refine r_lv [(0, vr A 5 0), (1, .int (iI k)), (2, .int (iI t)), (3, .int (iI k))] rfl ?_
  exact loop _ k rfl hk Iff.rfl g hh
theorem s_held {κ : KK} {A : Nat → Int → Nat} {σ : ST} {v : Int} (hv : -2000 ≤ v ∧ v ≤ 2000) : PU κ A MX5_held 1 σ [.int (iI v)] (.int (iI (if v < -999 then -999 else if 999 < v then 999 else v))) := by
  intro g hh
  refine e_start rfl (by show (lg_sl _).length ≤ 1; simp [lg_sl, cat_rf, cat_i, cat_l, cat_r, cat_n]) (lv := [(0, .int (iI v))]) (by simp [lv_args, cat_rf, cat_i, cat_l, cat_r, cat_n]) ?_
  refine r_iload_n dX5_held_0 rfl rfl ?_
  refine e_sipush dX5_held_1 (by decide +kernel) ?_
  refine e_ic_ge 13 dX5_held_4 (by decide) ⟨by omega, by omega⟩ ⟨by omega, by omega⟩ (fun h4 => ?_) (fun h4 => ?_)
  · refine r_pc 13 rfl ?_
    refine r_iload_n dX5_held_13 rfl rfl ?_
    refine e_sipush dX5_held_14 (by decide +kernel) ?_
    refine r_min dX5_held_17 ml_X5_39 (by decide) (by simp [cat_rf, cat_i, cat_l, cat_r, cat_n]) ?_
    refine r_iv (min_I (a := v) (b := 999) ⟨by omega, by omega⟩ ⟨by omega, by omega⟩) ?_
    exact q_iret dX5_held_20 rfl (by repeat' split <;> omega) (by assumption)
  · refine r_pc 7 rfl ?_
    refine e_sipush dX5_held_7 (by decide +kernel) ?_
    refine r_goto 20 dX5_held_10 (by decide) ?_
    exact q_iret dX5_held_20 rfl (by rw [if_pos (by omega)]) (by assumption)
theorem s_can {κ : KK} {A : Nat → Int → Nat} {σ : ST} {τ : ST} {L : Int → List Int} (hO : OWN τ σ) (hT : WT τ) (hL : WL τ L) (hF' : WF τ) (hV : WV τ) {k n : Int} (hk : Lv τ 3 k) (hn : 0 ≤ n ∧ n < 12)  : PU κ A MX5_can 1 σ [vr A 5 0, .int (iI k), .int (iI n)] (.int (iI (bI (canD τ k n)))) := by
  obtain ⟨hk22, hk24⟩ := lv24 (σ := σ) hT hk
  obtain ⟨ho20, ho23, ho24⟩ := hO.2.1 k hk
  have hz := wt_sz hT hk
  obtain ⟨p, hp, hpl⟩ := s_place (κ := κ) (A := A) hO hT hL hF' hV hk hn
  have hsh := (hT.2.2 k hk).2.2.2.2.1
  intro g hh
  refine e_start rfl (by show (lg_sl _).length ≤ 4; simp [lg_sl, cat_rf, cat_i, cat_l, cat_r, cat_n]) (lv := [(0, vr A 5 0), (1, .int (iI k)), (2, .int (iI n))]) (by simp [lv_args, cat_rf, cat_i, cat_l, cat_r, cat_n]) ?_
  refine r_aload_nO dX5_can_0 rfl rfl ?_
  refine r_iload_n dX5_can_1 rfl rfl ?_
  refine r_iload_n dX5_can_2 rfl rfl ?_
  refine e_callVP (z := MX5_place) dX5_can_3 ml_X5_35 cz_X5_place mk_X5_place ms_X5_place cb5 (by decide) hpl rfl rfl (by simp [cat_rf, cat_i, cat_l, cat_r, cat_n]) (by decide) (by assumption) (lv1 _ 5 (fun _ => rfl)) (fun g hh => ?_)
  refine r_pc 6 rfl ?_
  by_cases hc : τ 15 k n = 0
  · obtain rfl := plc_neg (hF' k hk) hp hc
    refine r_istore_n dX5_can_6 rfl (by decide) ?_
    refine r_iload_n dX5_can_7 rfl rfl ?_
    refine e_if_ge 28 dX5_can_8 (by decide) ⟨by omega, by omega⟩ (fun h8 => by exfalso; omega) (fun h8 => ?_)
    refine r_pc 11 rfl ?_
    refine r_aload_nO dX5_can_11 rfl rfl ?_
    refine e_getF (t := 5) (k := 3) (t1 := 24) dX5_can_12 cb5 (by decide) mf_X5_21 (by rfl) (by rfl) (by decide) (by assumption) (lv1 _ 5 (fun _ => rfl)) ?_
    refine r_iload_n dX5_can_15 rfl rfl ?_
    refine e_bald (t := 24) dX5_can_16 (by decide) (by decide) (by rfl) (by intro _; rfl) (by assumption) (lv1 _ 24 (fun _ => rfl)) (by have e : ln 24 = 24 := rfl; omega) ?_
    refine e_iv ho24 ?_
    refine e_if_ne 24 dX5_can_17 (by decide) ⟨by omega, by omega⟩ (fun h17 => ?_) (fun h17 => ?_)
    · refine r_pc 24 rfl ?_
      refine e_iconst dX5_can_24 ?_
      refine r_goto 46 dX5_can_25 (by decide) ?_
      exact q_zret dX5_can_46 rfl (by omega) (by exact (bI_f (fun z => by have := z.1 hc; omega)).symm) (by assumption)
    · refine r_pc 20 rfl ?_
      refine e_iconst dX5_can_20 ?_
      refine r_goto 46 dX5_can_21 (by decide) ?_
      exact q_zret dX5_can_46 rfl (by omega) (by exact (bI_t ⟨fun _ => by omega, fun z => absurd hc z⟩).symm) (by assumption)
  · obtain ⟨hp1, hp2⟩ := plc_pos (hF' k hk) hn hp hc
    obtain ⟨hρ, -, hr3, -⟩ := hO.2.2.1 k p hk hp1
    rw [hp2] at hr3
    refine r_istore_n dX5_can_6 rfl (by decide) ?_
    refine r_iload_n dX5_can_7 rfl rfl ?_
    refine e_if_ge 28 dX5_can_8 (by decide) ⟨by omega, by omega⟩ (fun h8 => ?_) (fun h8 => by exfalso; omega)
    refine r_pc 28 rfl ?_
    refine r_aload_nO dX5_can_28 rfl rfl ?_
    refine e_getF (t := 5) (k := 1) (t1 := 21) dX5_can_29 cb5 (by decide) mf_X5_15 (by rfl) (by rfl) (by decide) (by assumption) (lv1 _ 5 (fun _ => rfl)) ?_
    refine r_iload_n dX5_can_32 rfl rfl ?_
    refine e_aald21 dX5_can_33 (by assumption) (by have e : ln 21 = 24 := rfl; omega) ?_
    refine r_iload_n dX5_can_34 rfl rfl ?_
    refine e_aald (t := 22) (t1 := 25) dX5_can_35 (by decide) (by decide) (by decide) (by intro _; rfl) (by decide) (by assumption) (by assumption) (by have e : ln 22 = 12 := rfl; omega) ?_
    refine e_iconst dX5_can_36 ?_
    refine e_iald (t := 25) dX5_can_37 (by decide) (by decide) (by rfl) (by intro _; rfl) (by assumption) (by assumption) (by have e : ln 25 = 7 := rfl; omega) ?_
    refine e_iv hr3 ?_
    refine e_ifne_b 45 dX5_can_38 (by decide) (fun h38 => ?_) (fun h38 => ?_)
    · refine r_pc 45 rfl ?_
      refine e_iconst dX5_can_45 ?_
      exact q_zret dX5_can_46 rfl (by omega) (by exact (bI_f (fun z => z.2 hc h38)).symm) (by assumption)
    · refine r_pc 41 rfl ?_
      refine e_iconst dX5_can_41 ?_
      refine r_goto 46 dX5_can_42 (by decide) ?_
      exact q_zret dX5_can_46 rfl (by omega) (by exact (bI_t ⟨fun z => absurd z hc, fun _ => h38⟩).symm) (by assumption)
