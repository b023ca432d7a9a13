theorem r_pc {κ : KK} {y : MY} {d kc ks pc : Nat} {lv : List (Nat × Value)} {st : List Value} {g : GG} {Q : Option Value → GG → Prop} (pc' : Nat) (h : pc = pc') (k : Wp κ y d kc ks pc' lv st g Q) : Wp κ y d kc ks pc lv st g Q := h ▸ k
/-- nothing but an answer, and the heap is the very same -/
def PG0 (g : GG) (v : Option Value) : Option Value → GG → Prop := fun r h => r = v ∧ h = g
def PG (κ : KK) (A : Nat → Int → Nat) (z : MY) (d : Nat) (σ : ST) (As : List Value) (v : Value) : Prop := ∀ g, HR κ A g σ → Spec κ z d 0 0 As g (PG0 g (some v))
section EG
variable {κ : KK} {y : MY} {d kc ks pc : Nat} {lv : List (Nat × Value)} {st : List Value} {g : GG} {Q : Option Value → GG → Prop} {A : Nat → Int → Nat} {σ : ST}
theorem e_callVG {z : MY} {n idx d' t N : Nat} {T : u_T} {ty0 : Nat → FieldType} {r : Int} {As rest : List Value} {v : Value} (hd : decode y.2.1 pc = .ok (.invokevirtual idx, 3)) (hl : Cond.methodLink y.1.cls idx z.1 ∈ AL) (hz : CZ z n) (hi : Cond.instanceMethod z.1 ∈ AL) (hs : Cond.selects z.1.cls z.1 z.1 ∈ AL)
    (hb : CB t z.1.cls T N ty0) (h6 : t < 6) (hS : PG κ A z d' σ (vr A t r :: As) v) (hn : As.length = n) (hst : st = As.reverse ++ vr A t r :: rest) (hrs : (rest.map fun v => v.category).sum ≤ 8) (hdd : d' + 1 ≤ d) (hh : HR κ A g σ) (hr : Lv σ t r)
    (kk : Wp κ y d kc ks (pc + 3) lv (v :: rest) g Q) : Wp κ y d kc ks pc lv st g Q :=
  e_callV hd hl hz hi hs hb h6 hn hst hrs hdd hh hr (hS g hh) (Nat.le_of_eq (Nat.zero_add kc)) (Nat.le_of_eq (Nat.zero_add ks)) (fun w g' h => by obtain ⟨rfl, rfl⟩ := h; exact kk)
theorem e_callSG {z : MY} {n idx d' : Nat} {As rest : List Value} {v : Value} (hd : decode y.2.1 pc = .ok (.invokestatic idx, 3)) (hl : Cond.methodLink y.1.cls idx z.1 ∈ AL) (hz : CZ z n) (hi : Cond.static z.1 ∈ AL)
    (hS : PG κ A z d' σ As v) (hn : As.length = n) (hst : st = As.reverse ++ rest) (hrs : (rest.map fun v => v.category).sum ≤ 8) (hdd : d' + 1 ≤ d) (hh : HR κ A g σ)
    (kk : Wp κ y d kc ks (pc + 3) lv (v :: rest) g Q) : Wp κ y d kc ks pc lv st g Q :=
  r_callS hd hl hz hi (hS g hh) hn hst hrs hdd (Nat.le_of_eq (Nat.zero_add kc)) (Nat.le_of_eq (Nat.zero_add ks)) (fun w g' h => by obtain ⟨rfl, rfl⟩ := h; exact kk)
theorem q_iretG {v w : Int} (hd : decode y.2.1 pc = .ok (.ireturn, 1)) (hr : y.2.2.2 = some .int) (hq : v = w) : Wp κ y d kc ks pc lv [.int (iI v)] g (PG0 g (some (.int (iI w)))) := by
  subst hq
  exact r_iret hd hr ⟨rfl, rfl⟩
theorem q_zretG {v w : Int} (hd : decode y.2.1 pc = .ok (.ireturn, 1)) (hr : y.2.2.2 = some .boolean) (h01 : v = 0 ∨ v = 1) (hq : v = w) : Wp κ y d kc ks pc lv [.int (iI v)] g (PG0 g (some (.int (iI w)))) := by
  subst hq
  exact r_zret hd hr (narrow_01 h01) ⟨rfl, rfl⟩
theorem q_aretG {t : Nat} {v w : Int} {rt : FieldType} (hd : decode y.2.1 pc = .ok (.areturn, 1)) (hr : y.2.2.2 = some rt) (hrt : (∃ n, rt = .object n) ∨ ∃ t, rt = .array t) (hq : v = w) : Wp κ y d kc ks pc lv [vr A t v] g (PG0 g (some (vr A t w))) := by
  subst hq
  exact r_aret hd hr hrt ⟨rfl, rfl⟩
theorem q_lretG {v w : Int64} (hd : decode y.2.1 pc = .ok (.lreturn, 1)) (hr : y.2.2.2 = some .long) (hq : v = w) : Wp κ y d kc ks pc lv [.long v] g (PG0 g (some (.long w))) := by
  subst hq
  exact r_lret hd hr ⟨rfl, rfl⟩
theorem q_lret {v w : Int64} (hd : decode y.2.1 pc = .ok (.lreturn, 1)) (hr : y.2.2.2 = some .long) (hq : v = w) (hh : HR κ A g σ) : Wp κ y d kc ks pc lv [.long v] g (PQ κ A σ (some (.long w))) := by
  subst hq
  exact r_lret hd hr ⟨rfl, hh⟩
end EG
theorem cat_i (x : Int32) : (Value.int x).category = 1 := rfl
theorem cat_l (x : Int64) : (Value.long x).category = 2 := rfl
theorem cat_r (x : Nat) : (Value.ref x).category = 1 := rfl
theorem cat_n : Value.null.category = 1 := rfl
theorem lv_as {σ : ST} {k : Int} {t : Nat} (t' : Nat) (hk : Lv σ t' k) (h : cnt σ t = cnt σ t') : Lv σ t k := ⟨hk.1, by rw [h]; exact hk.2⟩
/-- no long stands right ahead of i -/
def lw1 (i : Nat) : List (Nat × Value) → Prop
  | [] => True
  | (j, v) :: r => (j + 1 = i → v.category = 1) ∧ lw1 i r
def lvx (i : Nat) : List (Nat × Value) → List (Nat × Value)
  | [] => []
  | (j, v) :: r => match Nat.beq j i with
    | true => lvx i r
    | false => (j, v) :: lvx i r
theorem lvd_w {i : Nat} {lv : List (Nat × Value)} (h : lw1 i lv) : lvd i lv = lvx i lv := by
  induction lv with
  | nil => rfl
  | cons q r ih =>
    obtain ⟨j, v⟩ := q
    obtain ⟨h1, h2⟩ := h
    unfold lvd lvx
    cases hb : Nat.beq j i with
    | true => exact ih h2
    | false =>
      cases h3 : Nat.beq (j + 1) i with
      | true =>
        have := h1 (Nat.eq_of_beq_eq_true h3)
        cases v <;> first | (simp only [ih h2]; done) | cases this
      | false => simp only [ih h2]
def stw (i : Nat) (v : Value) (lv : List (Nat × Value)) : List (Nat × Value) := (i, v) :: lvx i lv
def stw2 (i : Nat) (v : Value) (lv : List (Nat × Value)) : List (Nat × Value) := (i, v) :: lvx (i + 1) (lvx i lv)
theorem lw1_x {i : Nat} (lv : List (Nat × Value)) : lw1 (i + 1) (lvx i lv) := by
  induction lv with
  | nil => trivial
  | cons q r ih =>
    obtain ⟨j, v⟩ := q
    unfold lvx
    cases hb : Nat.beq j i with
    | true => exact ih
    | false =>
      refine ⟨fun h => ?_, ih⟩
      have : j = i := by omega
      subst this
      rw [Nat.beq_refl] at hb
      cases hb
theorem r_stw {κ : KK} {y : MY} {d kc ks pc i : Nat} {v : Value} {lv : List (Nat × Value)} {st : List Value} {g : GG} {Q : Option Value → GG → Prop} (h : lw1 i lv) (k : Wp κ y d kc ks pc (stw i v lv) st g Q) : Wp κ y d kc ks pc (sto i v lv) st g Q := by
  unfold sto
  rw [lvd_w h]
  exact k
theorem r_stw2 {κ : KK} {y : MY} {d kc ks pc i : Nat} {v : Value} {lv : List (Nat × Value)} {st : List Value} {g : GG} {Q : Option Value → GG → Prop} (h : lw1 i lv) (k : Wp κ y d kc ks pc (stw2 i v lv) st g Q) : Wp κ y d kc ks pc (sto2 i v lv) st g Q := by
  unfold sto2
  rw [lvd_w h, lvd_w (lw1_x lv)]
  exact k
/-- the traits that a field may have; 0: none -/
def TrOk (t : Int) : Prop := t = 0 ∨ t = 1 ∨ t = 3 ∨ t = 5 ∨ t = 9 ∨ t = 11 ∨ t = 13
def isPr (t : Int) : Prop := t = 3 ∨ t = 11
def isFx (t : Int) : Prop := t = 5 ∨ t = 13
def isHd (t : Int) : Prop := t = 9 ∨ t = 11 ∨ t = 13
theorem and_2 {t : Int} (h : TrOk t) : (iI t &&& iI 2) = iI (2 * bI (isPr t)) := by
  unfold isPr
  rcases h with rfl | rfl | rfl | rfl | rfl | rfl | rfl
  all_goals first
    | (rw [bI_t (by decide)]; decide +kernel)
    | (rw [bI_f (by decide)]; decide +kernel)
theorem and_4 {t : Int} (h : TrOk t) : (iI t &&& iI 4) = iI (4 * bI (isFx t)) := by
  unfold isFx
  rcases h with rfl | rfl | rfl | rfl | rfl | rfl | rfl
  all_goals first
    | (rw [bI_t (by decide)]; decide +kernel)
    | (rw [bI_f (by decide)]; decide +kernel)
theorem and_8 {t : Int} (h : TrOk t) : (iI t &&& iI 8) = iI (8 * bI (isHd t)) := by
  unfold isHd
  rcases h with rfl | rfl | rfl | rfl | rfl | rfl | rfl
  all_goals first
    | (rw [bI_t (by decide)]; decide +kernel)
    | (rw [bI_f (by decide)]; decide +kernel)
/-- what holds of the Things' own fields -/
def WT (σ : ST) : Prop := σ 4 0 1 = σ 99 3 0 ∧ (0 ≤ σ 99 3 0 ∧ σ 99 3 0 ≤ 24) ∧ ∀ k, Lv σ 3 k → σ 6 0 k = k ∧ σ 3 k 0 = k ∧ (-1 ≤ σ 3 k 1 ∧ σ 3 k 1 < σ 99 3 0) ∧ (-1 ≤ σ 3 k 2 ∧ σ 3 k 2 < σ 99 1 0) ∧ (σ 3 k 3 = 0 ∨ σ 3 k 3 = 1) ∧ (σ 3 k 4 = 0 ∨ σ 3 k 4 = 1) ∧ (0 ≤ σ 3 k 5 ∧ σ 3 k 5 ≤ 12)
/-- .. of the Shapes -/
def WS (σ : ST) : Prop := σ 2 0 1 = σ 99 1 0 ∧ (0 ≤ σ 99 1 0 ∧ σ 99 1 0 ≤ 80) ∧ ∀ s, Lv σ 1 s → σ 10 0 s = s ∧ σ 1 s 0 = s ∧ (-1 ≤ σ 1 s 1 ∧ σ 1 s 1 < s) ∧ (-1 ≤ σ 1 s 2 ∧ σ 1 s 2 < σ 99 3 0) ∧ (-1 ≤ σ 1 s 3 ∧ σ 1 s 3 < 12) ∧ (0 ≤ σ 1 s 4 ∧ σ 1 s 4 ≤ 15) ∧ (0 ≤ σ 1 s 5 ∧ σ 1 s 5 ≤ 8)
/-- .. of the Places -/
def WP (σ : ST) : Prop := ∀ p, Lv σ 0 p → (0 ≤ σ 0 p 0 ∧ σ 0 p 0 ≤ 3) ∧ ∀ e, (0 ≤ e ∧ e < σ 0 p 0) → Lv σ 1 (σ 11 p e) ∧ (0 ≤ σ 12 p e ∧ σ 12 p e < 12) ∧ (-1 ≤ σ 13 p e ∧ σ 13 p e ≤ 24)
/-- .. of the Things' fields: their traits and their order -/
def WF (σ : ST) : Prop := ∀ k, Lv σ 3 k → (∀ j, (0 ≤ j ∧ j < σ 3 k 5) → (0 ≤ σ 14 k j ∧ σ 14 k j < 12) ∧ ¬ σ 15 k (σ 14 k j) = 0) ∧ (∀ n, (0 ≤ n ∧ n < 12) → TrOk (σ 15 k n) ∧ (¬ σ 15 k n = 0 → ∃ j, (0 ≤ j ∧ j < σ 3 k 5) ∧ σ 14 k j = n)) ∧ (∀ i j, (0 ≤ i ∧ i < σ 3 k 5) → (0 ≤ j ∧ j < σ 3 k 5) → σ 14 k i = σ 14 k j → i = j)
/-- .. their values -/
def WV (σ : ST) : Prop := ∀ k n, Lv σ 3 k → (0 ≤ n ∧ n < 12) → (-1 ≤ σ 17 k n ∧ σ 17 k n < 12) ∧ (-1 ≤ σ 18 k n ∧ σ 18 k n < 12) ∧ (-1000 ≤ σ 16 k n ∧ σ 16 k n ≤ 2000) ∧ (-99 ≤ σ 19 k n ∧ σ 19 k n ≤ 99) ∧ (isPr (σ 15 k n) → σ 16 k n = -1000) ∧ (¬ σ 15 k n = 0 → ¬ isPr (σ 15 k n) → σ 17 k n = -1)
theorem s_has {κ : KK} {A : Nat → Int → Nat} {σ : ST} {k n : Int} (hk : Lv σ 3 k) (hn : 0 ≤ n ∧ n < 12) (h32 : TrOk (σ 15 k n)) : PU κ A MX3_has 0 σ [vr A 3 k, .int (iI n)] (.int (iI (bI (¬ σ 15 k n = 0)))) := by
  intro g hh
  unfold TrOk at h32
  refine e_start rfl (by show (lg_sl _).length ≤ 2; simp [lg_sl, cat_rf, cat_i, cat_l, cat_r, cat_n]) (lv := [(0, vr A 3 k), (1, .int (iI n))]) (by simp [lv_args, cat_rf, cat_i, cat_l, cat_r, cat_n]) ?_
  refine r_aload_nO dX3_has_0 rfl rfl ?_
  refine e_getF (t := 3) (k := 7) (t1 := 15) dX3_has_1 cb3 (by decide) mf_X3_15 (by rfl) (by rfl) (by decide) (by assumption) (by assumption) ?_
  refine r_iload_n dX3_has_4 rfl rfl ?_
  refine e_iald (t := 15) dX3_has_5 (by decide) (by decide) (by rfl) (by intro _; rfl) (by assumption) (by first | assumption | exact lv_as 3 (by assumption) (by rfl)) (by have e : ln 15 = 12 := rfl; omega) ?_
  refine e_if_eq 13 dX3_has_6 (by decide) ⟨by omega, by omega⟩ (fun h6 => ?_) (fun h6 => ?_)
  · refine r_pc 13 rfl ?_
    refine e_iconst dX3_has_13 ?_
    exact q_zret dX3_has_14 rfl (by omega) (by exact (bI_f (by omega)).symm) (by assumption)
  · refine r_pc 9 rfl ?_
    refine e_iconst dX3_has_9 ?_
    refine r_goto 14 dX3_has_10 (by decide) ?_
    exact q_zret dX3_has_14 rfl (by omega) (by exact (bI_t (by omega)).symm) (by assumption)
theorem s_hasg {κ : KK} {A : Nat → Int → Nat} {σ : ST} {k n : Int} (hk : Lv σ 3 k) (hn : 0 ≤ n ∧ n < 12) (h32 : TrOk (σ 15 k n)) : PG κ A MX3_has 0 σ [vr A 3 k, .int (iI n)] (.int (iI (bI (¬ σ 15 k n = 0)))) := by
  intro g hh
  unfold TrOk at h32
  refine e_start rfl (by show (lg_sl _).length ≤ 2; simp [lg_sl, cat_rf, cat_i, cat_l, cat_r, cat_n]) (lv := [(0, vr A 3 k), (1, .int (iI n))]) (by simp [lv_args, cat_rf, cat_i, cat_l, cat_r, cat_n]) ?_
  refine r_aload_nO dX3_has_0 rfl rfl ?_
  refine e_getF (t := 3) (k := 7) (t1 := 15) dX3_has_1 cb3 (by decide) mf_X3_15 (by rfl) (by rfl) (by decide) (by assumption) (by assumption) ?_
  refine r_iload_n dX3_has_4 rfl rfl ?_
  refine e_iald (t := 15) dX3_has_5 (by decide) (by decide) (by rfl) (by intro _; rfl) (by assumption) (by first | assumption | exact lv_as 3 (by assumption) (by rfl)) (by have e : ln 15 = 12 := rfl; omega) ?_
  refine e_if_eq 13 dX3_has_6 (by decide) ⟨by omega, by omega⟩ (fun h6 => ?_) (fun h6 => ?_)
  · refine r_pc 13 rfl ?_
    refine e_iconst dX3_has_13 ?_
    exact q_zretG dX3_has_14 rfl (by omega) (by exact (bI_f (by omega)).symm)
  · refine r_pc 9 rfl ?_
    refine e_iconst dX3_has_9 ?_
    refine r_goto 14 dX3_has_10 (by decide) ?_
    exact q_zretG dX3_has_14 rfl (by omega) (by exact (bI_t (by omega)).symm)
theorem s_is2 {κ : KK} {A : Nat → Int → Nat} {σ : ST} {k n : Int} (hk : Lv σ 3 k) (hn : 0 ≤ n ∧ n < 12) (h32 : TrOk (σ 15 k n)) : PU κ A MX3_is 0 σ [vr A 3 k, .int (iI n), .int (iI 2)] (.int (iI (bI (isPr (σ 15 k n))))) := by
  intro g hh
  have hb := bI_01 (isPr (σ 15 k n))
  refine e_start rfl (by show (lg_sl _).length ≤ 3; simp [lg_sl, cat_rf, cat_i, cat_l, cat_r, cat_n]) (lv := [(0, vr A 3 k), (1, .int (iI n)), (2, .int (iI 2))]) (by simp [lv_args, cat_rf, cat_i, cat_l, cat_r, cat_n]) ?_
  refine r_aload_nO dX3_is_0 rfl rfl ?_
  refine e_getF (t := 3) (k := 7) (t1 := 15) dX3_is_1 cb3 (by decide) mf_X3_15 (by rfl) (by rfl) (by decide) (by assumption) (by assumption) ?_
  refine r_iload_n dX3_is_4 rfl rfl ?_
  refine e_iald (t := 15) dX3_is_5 (by decide) (by decide) (by rfl) (by intro _; rfl) (by assumption) (by first | assumption | exact lv_as 3 (by assumption) (by rfl)) (by have e : ln 15 = 12 := rfl; omega) ?_
  refine r_iload_n dX3_is_6 rfl rfl ?_
  refine r_iand dX3_is_7 ?_
  refine r_iv (and_2 h32) ?_
  refine e_if_eq 15 dX3_is_8 (by decide) ⟨by omega, by omega⟩ (fun h8 => ?_) (fun h8 => ?_)
  · refine r_pc 15 rfl ?_
    refine e_iconst dX3_is_15 ?_
    exact q_zret dX3_is_16 rfl (by omega) (by omega) (by assumption)
  · refine r_pc 11 rfl ?_
    refine e_iconst dX3_is_11 ?_
    refine r_goto 16 dX3_is_12 (by decide) ?_
    exact q_zret dX3_is_16 rfl (by omega) (by omega) (by assumption)
theorem s_is2g {κ : KK} {A : Nat → Int → Nat} {σ : ST} {k n : Int} (hk : Lv σ 3 k) (hn : 0 ≤ n ∧ n < 12) (h32 : TrOk (σ 15 k n)) : PG κ A MX3_is 0 σ [vr A 3 k, .int (iI n), .int (iI 2)] (.int (iI (bI (isPr (σ 15 k n))))) := by
  intro g hh
  have hb := bI_01 (isPr (σ 15 k n))
  refine e_start rfl (by show (lg_sl _).length ≤ 3; simp [lg_sl, cat_rf, cat_i, cat_l, cat_r, cat_n]) (lv := [(0, vr A 3 k), (1, .int (iI n)), (2, .int (iI 2))]) (by simp [lv_args, cat_rf, cat_i, cat_l, cat_r, cat_n]) ?_
  refine r_aload_nO dX3_is_0 rfl rfl ?_
  refine e_getF (t := 3) (k := 7) (t1 := 15) dX3_is_1 cb3 (by decide) mf_X3_15 (by rfl) (by rfl) (by decide) (by assumption) (by assumption) ?_
  refine r_iload_n dX3_is_4 rfl rfl ?_
  refine e_iald (t := 15) dX3_is_5 (by decide) (by decide) (by rfl) (by intro _; rfl) (by assumption) (by first | assumption | exact lv_as 3 (by assumption) (by rfl)) (by have e : ln 15 = 12 := rfl; omega) ?_
  refine r_iload_n dX3_is_6 rfl rfl ?_
  refine r_iand dX3_is_7 ?_
  refine r_iv (and_2 h32) ?_
  refine e_if_eq 15 dX3_is_8 (by decide) ⟨by omega, by omega⟩ (fun h8 => ?_) (fun h8 => ?_)
  · refine r_pc 15 rfl ?_
    refine e_iconst dX3_is_15 ?_
    exact q_zretG dX3_is_16 rfl (by omega) (by omega)
  · refine r_pc 11 rfl ?_
    refine e_iconst dX3_is_11 ?_
    refine r_goto 16 dX3_is_12 (by decide) ?_
    exact q_zretG dX3_is_16 rfl (by omega) (by omega)
theorem s_is4 {κ : KK} {A : Nat → Int → Nat} {σ : ST} {k n : Int} (hk : Lv σ 3 k) (hn : 0 ≤ n ∧ n < 12) (h32 : TrOk (σ 15 k n)) : PU κ A MX3_is 0 σ [vr A 3 k, .int (iI n), .int (iI 4)] (.int (iI (bI (isFx (σ 15 k n))))) := by
  intro g hh
  have hb := bI_01 (isFx (σ 15 k n))
  refine e_start rfl (by show (lg_sl _).length ≤ 3; simp [lg_sl, cat_rf, cat_i, cat_l, cat_r, cat_n]) (lv := [(0, vr A 3 k), (1, .int (iI n)), (2, .int (iI 4))]) (by simp [lv_args, cat_rf, cat_i, cat_l, cat_r, cat_n]) ?_
  refine r_aload_nO dX3_is_0 rfl rfl ?_
  refine e_getF (t := 3) (k := 7) (t1 := 15) dX3_is_1 cb3 (by decide) mf_X3_15 (by rfl) (by rfl) (by decide) (by assumption) (by assumption) ?_
  refine r_iload_n dX3_is_4 rfl rfl ?_
  refine e_iald (t := 15) dX3_is_5 (by decide) (by decide) (by rfl) (by intro _; rfl) (by assumption) (by first | assumption | exact lv_as 3 (by assumption) (by rfl)) (by have e : ln 15 = 12 := rfl; omega) ?_
  refine r_iload_n dX3_is_6 rfl rfl ?_
  refine r_iand dX3_is_7 ?_
  refine r_iv (and_4 h32) ?_
  refine e_if_eq 15 dX3_is_8 (by decide) ⟨by omega, by omega⟩ (fun h8 => ?_) (fun h8 => ?_)
  · refine r_pc 15 rfl ?_
    refine e_iconst dX3_is_15 ?_
    exact q_zret dX3_is_16 rfl (by omega) (by omega) (by assumption)
  · refine r_pc 11 rfl ?_
    refine e_iconst dX3_is_11 ?_
    refine r_goto 16 dX3_is_12 (by decide) ?_
    exact q_zret dX3_is_16 rfl (by omega) (by omega) (by assumption)
theorem s_is4g {κ : KK} {A : Nat → Int → Nat} {σ : ST} {k n : Int} (hk : Lv σ 3 k) (hn : 0 ≤ n ∧ n < 12) (h32 : TrOk (σ 15 k n)) : PG κ A MX3_is 0 σ [vr A 3 k, .int (iI n), .int (iI 4)] (.int (iI (bI (isFx (σ 15 k n))))) := by
  intro g hh
  have hb := bI_01 (isFx (σ 15 k n))
  refine e_start rfl (by show (lg_sl _).length ≤ 3; simp [lg_sl, cat_rf, cat_i, cat_l, cat_r, cat_n]) (lv := [(0, vr A 3 k), (1, .int (iI n)), (2, .int (iI 4))]) (by simp [lv_args, cat_rf, cat_i, cat_l, cat_r, cat_n]) ?_
  refine r_aload_nO dX3_is_0 rfl rfl ?_
  refine e_getF (t := 3) (k := 7) (t1 := 15) dX3_is_1 cb3 (by decide) mf_X3_15 (by rfl) (by rfl) (by decide) (by assumption) (by assumption) ?_
  refine r_iload_n dX3_is_4 rfl rfl ?_
  refine e_iald (t := 15) dX3_is_5 (by decide) (by decide) (by rfl) (by intro _; rfl) (by assumption) (by first | assumption | exact lv_as 3 (by assumption) (by rfl)) (by have e : ln 15 = 12 := rfl; omega) ?_
  refine r_iload_n dX3_is_6 rfl rfl ?_
  refine r_iand dX3_is_7 ?_
  refine r_iv (and_4 h32) ?_
  refine e_if_eq 15 dX3_is_8 (by decide) ⟨by omega, by omega⟩ (fun h8 => ?_) (fun h8 => ?_)
  · refine r_pc 15 rfl ?_
    refine e_iconst dX3_is_15 ?_
    exact q_zretG dX3_is_16 rfl (by omega) (by omega)
  · refine r_pc 11 rfl ?_
    refine e_iconst dX3_is_11 ?_
    refine r_goto 16 dX3_is_12 (by decide) ?_
    exact q_zretG dX3_is_16 rfl (by omega) (by omega)
theorem s_is8 {κ : KK} {A : Nat → Int → Nat} {σ : ST} {k n : Int} (hk : Lv σ 3 k) (hn : 0 ≤ n ∧ n < 12) (h32 : TrOk (σ 15 k n)) : PU κ A MX3_is 0 σ [vr A 3 k, .int (iI n), .int (iI 8)] (.int (iI (bI (isHd (σ 15 k n))))) := by
  intro g hh
  have hb := bI_01 (isHd (σ 15 k n))
  refine e_start rfl (by show (lg_sl _).length ≤ 3; simp [lg_sl, cat_rf, cat_i, cat_l, cat_r, cat_n]) (lv := [(0, vr A 3 k), (1, .int (iI n)), (2, .int (iI 8))]) (by simp [lv_args, cat_rf, cat_i, cat_l, cat_r, cat_n]) ?_
  refine r_aload_nO dX3_is_0 rfl rfl ?_
  refine e_getF (t := 3) (k := 7) (t1 := 15) dX3_is_1 cb3 (by decide) mf_X3_15 (by rfl) (by rfl) (by decide) (by assumption) (by assumption) ?_
  refine r_iload_n dX3_is_4 rfl rfl ?_
  refine e_iald (t := 15) dX3_is_5 (by decide) (by decide) (by rfl) (by intro _; rfl) (by assumption) (by first | assumption | exact lv_as 3 (by assumption) (by rfl)) (by have e : ln 15 = 12 := rfl; omega) ?_
  refine r_iload_n dX3_is_6 rfl rfl ?_
  refine r_iand dX3_is_7 ?_
  refine r_iv (and_8 h32) ?_
  refine e_if_eq 15 dX3_is_8 (by decide) ⟨by omega, by omega⟩ (fun h8 => ?_) (fun h8 => ?_)
  · refine r_pc 15 rfl ?_
    refine e_iconst dX3_is_15 ?_
    exact q_zret dX3_is_16 rfl (by omega) (by omega) (by assumption)
  · refine r_pc 11 rfl ?_
    refine e_iconst dX3_is_11 ?_
    refine r_goto 16 dX3_is_12 (by decide) ?_
    exact q_zret dX3_is_16 rfl (by omega) (by omega) (by assumption)
theorem s_is8g {κ : KK} {A : Nat → Int → Nat} {σ : ST} {k n : Int} (hk : Lv σ 3 k) (hn : 0 ≤ n ∧ n < 12) (h32 : TrOk (σ 15 k n)) : PG κ A MX3_is 0 σ [vr A 3 k, .int (iI n), .int (iI 8)] (.int (iI (bI (isHd (σ 15 k n))))) := by
  intro g hh
  have hb := bI_01 (isHd (σ 15 k n))
  refine e_start rfl (by show (lg_sl _).length ≤ 3; simp [lg_sl, cat_rf, cat_i, cat_l, cat_r, cat_n]) (lv := [(0, vr A 3 k), (1, .int (iI n)), (2, .int (iI 8))]) (by simp [lv_args, cat_rf, cat_i, cat_l, cat_r, cat_n]) ?_
  refine r_aload_nO dX3_is_0 rfl rfl ?_
  refine e_getF (t := 3) (k := 7) (t1 := 15) dX3_is_1 cb3 (by decide) mf_X3_15 (by rfl) (by rfl) (by decide) (by assumption) (by assumption) ?_
  refine r_iload_n dX3_is_4 rfl rfl ?_
  refine e_iald (t := 15) dX3_is_5 (by decide) (by decide) (by rfl) (by intro _; rfl) (by assumption) (by first | assumption | exact lv_as 3 (by assumption) (by rfl)) (by have e : ln 15 = 12 := rfl; omega) ?_
  refine r_iload_n dX3_is_6 rfl rfl ?_
  refine r_iand dX3_is_7 ?_
  refine r_iv (and_8 h32) ?_
  refine e_if_eq 15 dX3_is_8 (by decide) ⟨by omega, by omega⟩ (fun h8 => ?_) (fun h8 => ?_)
  · refine r_pc 15 rfl ?_
    refine e_iconst dX3_is_15 ?_
    exact q_zretG dX3_is_16 rfl (by omega) (by omega)
  · refine r_pc 11 rfl ?_
    refine e_iconst dX3_is_11 ?_
    refine r_goto 16 dX3_is_12 (by decide) ?_
    exact q_zretG dX3_is_16 rfl (by omega) (by omega)
theorem s_fill {κ : KK} {A : Nat → Int → Nat} {σ : ST} {k n a b c d : Int} (hk : Lv σ 3 k) (hn : 0 ≤ n ∧ n < 12) : PV κ A MX3_fill 0 σ [vr A 3 k, .int (iI n), .int (iI a), .int (iI b), .int (iI c), .int (iI d)] none (up (up (up (up σ 16 k n a) 17 k n b) 18 k n c) 19 k n d) := by
  intro g hh
  refine e_start rfl (by show (lg_sl _).length ≤ 6; simp [lg_sl, cat_rf, cat_i, cat_l, cat_r, cat_n]) (lv := [(0, vr A 3 k), (1, .int (iI n)), (2, .int (iI a)), (3, .int (iI b)), (4, .int (iI c)), (5, .int (iI d))]) (by simp [lv_args, cat_rf, cat_i, cat_l, cat_r, cat_n]) ?_
  refine r_aload_nO dX3_fill_0 rfl rfl ?_
  refine e_getF (t := 3) (k := 8) (t1 := 16) dX3_fill_1 cb3 (by decide) mf_X3_18 (by rfl) (by rfl) (by decide) (by assumption) (by assumption) ?_
  refine r_iload_n dX3_fill_4 rfl rfl ?_
  refine r_iload_n dX3_fill_5 rfl rfl ?_
  refine e_iast (t := 16) dX3_fill_6 (by decide) (by decide) (by rfl) (by intro _; rfl) (by assumption) (by first | assumption | exact lv_as 3 (by assumption) (by rfl)) (by have e : ln 16 = 12 := rfl; omega) (fun g hh => ?_)
  refine r_aload_nO dX3_fill_7 rfl rfl ?_
  refine e_getF (t := 3) (k := 9) (t1 := 17) dX3_fill_8 cb3 (by decide) mf_X3_21 (by rfl) (by rfl) (by decide) (by assumption) (by assumption) ?_
  refine r_iload_n dX3_fill_11 rfl rfl ?_
  refine r_iload_n dX3_fill_12 rfl rfl ?_
  refine e_iast (t := 17) dX3_fill_13 (by decide) (by decide) (by rfl) (by intro _; rfl) (by assumption) (by first | assumption | exact lv_as 3 (by assumption) (by rfl)) (by have e : ln 17 = 12 := rfl; omega) (fun g hh => ?_)
  refine r_aload_nO dX3_fill_14 rfl rfl ?_
  refine e_getF (t := 3) (k := 10) (t1 := 18) dX3_fill_15 cb3 (by decide) mf_X3_24 (by rfl) (by rfl) (by decide) (by assumption) (by assumption) ?_
  refine r_iload_n dX3_fill_18 rfl rfl ?_
  refine r_iload dX3_fill_19 rfl ?_
  refine e_iast (t := 18) dX3_fill_21 (by decide) (by decide) (by rfl) (by intro _; rfl) (by assumption) (by first | assumption | exact lv_as 3 (by assumption) (by rfl)) (by have e : ln 18 = 12 := rfl; omega) (fun g hh => ?_)
  refine r_aload_nO dX3_fill_22 rfl rfl ?_
  refine e_getF (t := 3) (k := 11) (t1 := 19) dX3_fill_23 cb3 (by decide) mf_X3_27 (by rfl) (by rfl) (by decide) (by assumption) (by assumption) ?_
  refine r_iload_n dX3_fill_26 rfl rfl ?_
  refine r_iload dX3_fill_27 rfl ?_
  refine e_iast (t := 19) dX3_fill_29 (by decide) (by decide) (by rfl) (by intro _; rfl) (by assumption) (by first | assumption | exact lv_as 3 (by assumption) (by rfl)) (by have e : ln 19 = 12 := rfl; omega) (fun g hh => ?_)
  exact q_vret dX3_fill_30 rfl (by assumption)
theorem s_append {κ : KK} {A : Nat → Int → Nat} {σ : ST} {k n : Int} (hk : Lv σ 3 k) (hn : 0 ≤ n ∧ n < 12) (hz : 0 ≤ σ 3 k 5 ∧ σ 3 k 5 < 12) : PV κ A MX3_append 0 σ [vr A 3 k, .int (iI n)] none (up (up σ 14 k (σ 3 k 5) n) 3 k 5 (σ 3 k 5 + 1)) := by
  intro g hh
  refine e_start rfl (by show (lg_sl _).length ≤ 2; simp [lg_sl, cat_rf, cat_i, cat_l, cat_r, cat_n]) (lv := [(0, vr A 3 k), (1, .int (iI n))]) (by simp [lv_args, cat_rf, cat_i, cat_l, cat_r, cat_n]) ?_
  refine r_aload_nO dX3_append_0 rfl rfl ?_
  refine e_getI (t := 3) (k := 5) 5 dX3_append_1 cb3 (by decide) mf_X3_38 (by rfl) rfl (by assumption) (by assumption) ?_
  refine e_bipush dX3_append_4 (by decide +kernel) ?_
  refine e_ic_ge 29 dX3_append_6 (by decide) ⟨by omega, by omega⟩ ⟨by omega, by omega⟩ (fun h6 => by exfalso; omega) (fun h6 => ?_)
  refine r_pc 9 rfl ?_
  refine r_aload_nO dX3_append_9 rfl rfl ?_
  refine e_getF (t := 3) (k := 6) (t1 := 14) dX3_append_10 cb3 (by decide) mf_X3_9 (by rfl) (by rfl) (by decide) (by assumption) (by assumption) ?_
  refine r_aload_nO dX3_append_13 rfl rfl ?_
  refine e_getI (t := 3) (k := 5) 5 dX3_append_14 cb3 (by decide) mf_X3_38 (by rfl) rfl (by assumption) (by assumption) ?_
  refine r_iload_n dX3_append_17 rfl rfl ?_
  refine e_iast (t := 14) dX3_append_18 (by decide) (by decide) (by rfl) (by intro _; rfl) (by assumption) (by first | assumption | exact lv_as 3 (by assumption) (by rfl)) (by have e : ln 14 = 12 := rfl; omega) (fun g hh => ?_)
  refine r_aload_nO dX3_append_19 rfl rfl ?_
  refine r_dup dX3_append_20 (by first | rfl | exact cat_rf _) ?_
  refine e_getI (t := 3) (k := 5) 5 dX3_append_21 cb3 (by decide) mf_X3_38 (by rfl) rfl (by assumption) (by assumption) ?_
  refine e_iv (show _ = σ 3 k 5 from rfl) ?_
  refine e_iconst dX3_append_24 ?_
  first | refine e_iadd dX3_append_25 ?_ | refine r_iadd dX3_append_25 ?_
  refine e_putI (t := 3) (k := 5) 5 dX3_append_26 cb3 (by decide) mf_X3_38 (by rfl) (by rfl) (by rfl) (by rfl) (by rfl) rfl (by assumption) (by assumption) (fun g hh => ?_)
  exact q_vret dX3_append_29 rfl (by assumption)
theorem s_kind {κ : KK} {A : Nat → Int → Nat} {σ : ST} {k n : Int} (hk : Lv σ 3 k) (hn : 0 ≤ n ∧ n < 12) (h32 : TrOk (σ 15 k n)) : PU κ A MX3_kind 1 σ [vr A 3 k, .int (iI n)] (.int (iI (bI (¬ σ 15 k n = 0) + bI (isPr (σ 15 k n))))) := by
  intro g hh
  refine e_start rfl (by show (lg_sl _).length ≤ 2; simp [lg_sl, cat_rf, cat_i, cat_l, cat_r, cat_n]) (lv := [(0, vr A 3 k), (1, .int (iI n))]) (by simp [lv_args, cat_rf, cat_i, cat_l, cat_r, cat_n]) ?_
  refine r_aload_nO dX3_kind_0 rfl rfl ?_
  refine r_iload_n dX3_kind_1 rfl rfl ?_
  refine e_callVP (z := MX3_has) dX3_kind_2 ml_X3_52 cz_X3_has mk_X3_has ms_X3_has cb3 (by decide) (s_has hk hn h32) rfl rfl (by simp [cat_rf, cat_i, cat_l, cat_r, cat_n]) (by decide) (by assumption) (by assumption) (fun g hh => ?_)
  refine r_pc 5 rfl ?_
  refine e_ifne_b 10 dX3_kind_5 (by decide) (fun h5 => ?_) (fun h5 => ?_)
  · refine r_pc 10 rfl ?_
    refine r_aload_nO dX3_kind_10 rfl rfl ?_
    refine r_iload_n dX3_kind_11 rfl rfl ?_
    refine e_iconst dX3_kind_12 ?_
    refine e_callVP (z := MX3_is) dX3_kind_13 ml_X3_41 cz_X3_is mk_X3_is ms_X3_is cb3 (by decide) (s_is2 hk hn h32) rfl rfl (by simp [cat_rf, cat_i, cat_l, cat_r, cat_n]) (by decide) (by assumption) (by assumption) (fun g hh => ?_)
    refine r_pc 16 rfl ?_
    refine e_ifeq_b 23 dX3_kind_16 (by decide) (fun h16 => ?_) (fun h16 => ?_)
    · refine r_pc 23 rfl ?_
      refine e_iconst dX3_kind_23 ?_
      exact q_iret dX3_kind_24 rfl (by rw [bI_t h5, bI_f h16]; rfl) (by assumption)
    · refine r_pc 19 rfl ?_
      refine e_iconst dX3_kind_19 ?_
      refine r_goto 24 dX3_kind_20 (by decide) ?_
      exact q_iret dX3_kind_24 rfl (by rw [bI_t h5, bI_t h16]; rfl) (by assumption)
  · refine r_pc 8 rfl ?_
    refine e_iconst dX3_kind_8 ?_
    exact q_iret dX3_kind_9 rfl (by rw [bI_f h5, bI_f (by unfold isPr; omega)]; rfl) (by assumption)
theorem wt_sz {σ : ST} (h : WT σ) {k : Int} (hk : Lv σ 3 k) : 0 ≤ σ 3 k 5 ∧ σ 3 k 5 ≤ 12 := (h.2.2 k hk).2.2.2.2.2.2
theorem s_placeIn {κ : KK} {A : Nat → Int → Nat} {σ : ST} {k n : Int} (hk : Lv σ 3 k) (hn : 0 ≤ n ∧ n < 12) (hz : 0 ≤ σ 3 k 5 ∧ σ 3 k 5 ≤ 12) (ho : ∀ j, (0 ≤ j ∧ j < σ 3 k 5) → (0 ≤ σ 14 k j ∧ σ 14 k j < 12)) : ∃ v : Int, True ∧ PU κ A MX3_placeInOrder 0 σ [vr A 3 k, .int (iI n)] (.int (iI v)) := by
  have loop : ∀ m : Nat, ∀ j : Int, 0 ≤ j → j + (m : Int) = σ 3 k 5 → ∃ v : Int, True ∧ ∀ g, HR κ A g σ → Wp κ MX3_placeInOrder 0 0 0 2 [(0, vr A 3 k), (1, .int (iI n)), (2, .int (iI j))] [] g (PQ κ A σ (some (.int (iI v)))) := by
    intro m
    induction m with
    | zero =>
      intro j hj0 hjm
      refine ⟨-1, trivial, fun g hh => ?_⟩
      refine r_iload_n dX3_placeInOrder_2 rfl rfl ?_
      refine r_aload_nO dX3_placeInOrder_3 rfl rfl ?_
      refine e_getI (t := 3) (k := 5) 5 dX3_placeInOrder_4 cb3 (by decide) mf_X3_38 (by rfl) rfl (by assumption) (by assumption) ?_
      refine e_ic_ge 28 dX3_placeInOrder_7 (by decide) ⟨by omega, by omega⟩ ⟨by omega, by omega⟩ (fun h7 => ?_) (fun h7 => by exfalso; omega)
      refine r_pc 28 rfl ?_
      refine e_iconst dX3_placeInOrder_28 ?_
      exact q_iret dX3_placeInOrder_29 rfl (by rfl) (by assumption)
    | succ m ih =>
      intro j hj0 hjm
      have hoj := ho j (by omega)
      by_cases hc : σ 14 k j = n
      · refine ⟨j, trivial, fun g hh => ?_⟩
        refine r_iload_n dX3_placeInOrder_2 rfl rfl ?_
        refine r_aload_nO dX3_placeInOrder_3 rfl rfl ?_
        refine e_getI (t := 3) (k := 5) 5 dX3_placeInOrder_4 cb3 (by decide) mf_X3_38 (by rfl) rfl (by assumption) (by assumption) ?_
        refine e_ic_ge 28 dX3_placeInOrder_7 (by decide) ⟨by omega, by omega⟩ ⟨by omega, by omega⟩ (fun h7 => by exfalso; omega) (fun h7 => ?_)
        refine r_pc 10 rfl ?_
        refine r_aload_nO dX3_placeInOrder_10 rfl rfl ?_
        refine e_getF (t := 3) (k := 6) (t1 := 14) dX3_placeInOrder_11 cb3 (by decide) mf_X3_9 (by rfl) (by rfl) (by decide) (by assumption) (by assumption) ?_
        refine r_iload_n dX3_placeInOrder_14 rfl rfl ?_
        refine e_iald (t := 14) dX3_placeInOrder_15 (by decide) (by decide) (by rfl) (by intro _; rfl) (by assumption) (by first | assumption | exact lv_as 3 (by assumption) (by rfl)) (by have e : ln 14 = 12 := rfl; omega) ?_
        refine r_iload_n dX3_placeInOrder_16 rfl rfl ?_
        refine e_ic_ne 22 dX3_placeInOrder_17 (by decide) ⟨by omega, by omega⟩ ⟨by omega, by omega⟩ (fun h17 => by exfalso; omega) (fun h17 => ?_)
        refine r_pc 20 rfl ?_
        refine r_iload_n dX3_placeInOrder_20 rfl rfl ?_
        exact q_iret dX3_placeInOrder_21 rfl (by rfl) (by assumption)
      · obtain ⟨v, hv, hw⟩ := ih (j + 1) (by omega) (by omega)
        refine ⟨v, hv, fun g hh => ?_⟩
        refine r_iload_n dX3_placeInOrder_2 rfl rfl ?_
        refine r_aload_nO dX3_placeInOrder_3 rfl rfl ?_
        refine e_getI (t := 3) (k := 5) 5 dX3_placeInOrder_4 cb3 (by decide) mf_X3_38 (by rfl) rfl (by assumption) (by assumption) ?_
        refine e_ic_ge 28 dX3_placeInOrder_7 (by decide) ⟨by omega, by omega⟩ ⟨by omega, by omega⟩ (fun h7 => by exfalso; omega) (fun h7 => ?_)
        refine r_pc 10 rfl ?_
        refine r_aload_nO dX3_placeInOrder_10 rfl rfl ?_
        refine e_getF (t := 3) (k := 6) (t1 := 14) dX3_placeInOrder_11 cb3 (by decide) mf_X3_9 (by rfl) (by rfl) (by decide) (by assumption) (by assumption) ?_
        refine r_iload_n dX3_placeInOrder_14 rfl rfl ?_
        refine e_iald (t := 14) dX3_placeInOrder_15 (by decide) (by decide) (by rfl) (by intro _; rfl) (by assumption) (by first | assumption | exact lv_as 3 (by assumption) (by rfl)) (by have e : ln 14 = 12 := rfl; omega) ?_
        refine r_iload_n dX3_placeInOrder_16 rfl rfl ?_
        refine e_ic_ne 22 dX3_placeInOrder_17 (by decide) ⟨by omega, by omega⟩ ⟨by omega, by omega⟩ (fun h17 => ?_) (fun h17 => by exfalso; omega)
        refine r_pc 22 rfl ?_
        refine e_iinc dX3_placeInOrder_22 rfl (by decide) ?_
        refine r_goto 2 dX3_placeInOrder_25 (by decide) ?_
        refine r_lv [(0, vr A 3 k), (1, .int (iI n)), (2, .int (iI (j + 1)))] rfl ?_
        exact hw g hh
  obtain ⟨v, hv, hw⟩ := loop (σ 3 k 5).toNat 0 (by omega) (by omega)
  refine ⟨v, hv, ?_⟩
  intro g hh
  refine e_start rfl (by show (lg_sl _).length ≤ 3; simp [lg_sl, cat_rf, cat_i, cat_l, cat_r, cat_n]) (lv := [(0, vr A 3 k), (1, .int (iI n))]) (by simp [lv_args, cat_rf, cat_i, cat_l, cat_r, cat_n]) ?_
  refine e_iconst dX3_placeInOrder_0 ?_
  refine r_istore_n dX3_placeInOrder_1 rfl (by decide) ?_
  refine r_lv [(0, vr A 3 k), (1, .int (iI n)), (2, .int (iI 0))] rfl ?_
  exact hw g hh
