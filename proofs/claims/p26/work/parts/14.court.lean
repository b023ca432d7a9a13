def lo (L : Int → List Int) (v : Int) : List Int := if v < 0 then [] else L v
/-- the lines: L k is k with all above it -/
def WL (σ : ST) (L : Int → List Int) : Prop := ∀ k, Lv σ 3 k → L k = k :: lo L (σ 3 k 1) ∧ (L k).length ≤ 24
theorem lo_pos {L : Int → List Int} {v : Int} (h : 0 ≤ v) : lo L v = L v := if_neg (by omega)
theorem lo_neg {L : Int → List Int} {v : Int} (h : v < 0) : lo L v = [] := if_pos h
theorem lo_nil {σ : ST} {L : Int → List Int} (hL : WL σ L) {v : Int} (hv : -1 ≤ v ∧ v < σ 99 3 0) (h : lo L v = []) : v < 0 := by
  by_cases q : v < 0
  · exact q
  · rw [lo_pos (by omega), (hL v ⟨by omega, hv.2⟩).1] at h
    cases h
theorem lo_cons {σ : ST} {L : Int → List Int} (hL : WL σ L) {v a : Int} {l : List Int} (hv : -1 ≤ v ∧ v < σ 99 3 0) (h : lo L v = a :: l) : 0 ≤ v ∧ v = a ∧ lo L (σ 3 v 1) = l := by
  by_cases q : v < 0
  · rw [lo_neg q] at h
    cases h
  · rw [lo_pos (by omega), (hL v ⟨by omega, hv.2⟩).1] at h
    injection h with h1 h2
    exact ⟨by omega, h1, h2⟩
theorem lo_len {σ : ST} {L : Int → List Int} (hL : WL σ L) {v : Int} (hv : -1 ≤ v ∧ v < σ 99 3 0) : (lo L v).length ≤ 24 := by
  by_cases q : v < 0
  · rw [lo_neg q]; exact Nat.zero_le _
  · rw [lo_pos (by omega)]; exact (hL v ⟨by omega, hv.2⟩).2
/-- the first of a line that has a name; how far it is -/
def hF (σ : ST) (n : Int) : List Int → Int
  | [] => -1
  | a :: l => if σ 15 a n = 0 then hF σ n l else a
def wF (σ : ST) (n : Int) : List Int → Int
  | [] => -1
  | a :: l => if σ 15 a n = 0 then (if wF σ n l < 0 then -1 else wF σ n l + 1) else 0
theorem wF_r (σ : ST) (n : Int) (l : List Int) : -1 ≤ wF σ n l ∧ wF σ n l < (l.length : Int) + 0 ∨ wF σ n l = -1 := by
  induction l with
  | nil => exact Or.inr rfl
  | cons a l ih =>
    unfold wF
    rw [List.length_cons]
    split
    · split
      · exact Or.inr rfl
      · omega
    · omega
def lkF (σ : ST) (n : Int) (l : List Int) : Int := if wF σ n l = -1 then (l.length : Int) else wF σ n l + 1
def raI (v a : Int) : Int := if v < -999 then v else if 999 < v then v else if v + a < -999 then -999 else if 999 < v + a then 999 else v + a
theorem hF_in {σ : ST} {n : Int} {l : List Int} (h : 0 ≤ hF σ n l) : hF σ n l ∈ l ∧ ¬ σ 15 (hF σ n l) n = 0 := by
  induction l with
  | nil => exact absurd (show (0 : Int) ≤ -1 from h) (by decide)
  | cons a l ih =>
    unfold hF at h ⊢
    split
    · rename_i h0
      rw [if_pos h0] at h
      exact ⟨List.mem_cons_of_mem _ (ih h).1, (ih h).2⟩
    · rename_i h0
      exact ⟨List.mem_cons_self, h0⟩
theorem lo_mem {σ : ST} {L : Int → List Int} (hT : WT σ) (hL : WL σ L) : ∀ (l : List Int) (v : Int), lo L v = l → (-1 ≤ v ∧ v < σ 99 3 0) → ∀ k, k ∈ l → Lv σ 3 k := by
  intro l
  induction l with
  | nil => intro v h hv k hk; cases hk
  | cons a l ih =>
    intro v h hv k hk
    obtain ⟨h0, rfl, h2⟩ := lo_cons hL hv h
    rcases List.mem_cons.mp hk with e | hk
    · rw [e]; exact ⟨h0, hv.2⟩
    · exact ih _ h2 (hT.2.2 v ⟨h0, hv.2⟩).2.2.1 k hk
theorem hF_lv {σ : ST} {L : Int → List Int} (hT : WT σ) (hL : WL σ L) {v n : Int} (hv : -1 ≤ v ∧ v < σ 99 3 0) (h : 0 ≤ hF σ n (lo L v)) : Lv σ 3 (hF σ n (lo L v)) := lo_mem hT hL _ v rfl hv _ (hF_in h).1
theorem hF_dom {σ : ST} {L : Int → List Int} (hT : WT σ) (hL : WL σ L) {v n : Int} (hv : -1 ≤ v ∧ v < σ 99 3 0) : -1 ≤ hF σ n (lo L v) ∧ hF σ n (lo L v) < σ 99 3 0 := by
  by_cases h : 0 ≤ hF σ n (lo L v)
  · have h2 := hF_lv hT hL hv h
    exact ⟨by omega, h2.2⟩
  · have h3 : ∀ l : List Int, (∀ k, k ∈ l → Lv σ 3 k) → -1 ≤ hF σ n l := by
      intro l
      induction l with
      | nil => intro _; exact Int.le_refl _
      | cons a l ih =>
        intro hl
        unfold hF
        split
        · exact ih fun k hk => hl k (List.mem_cons_of_mem _ hk)
        · have := (hl a List.mem_cons_self).1
          omega
    have := h3 (lo L v) (lo_mem hT hL _ v rfl hv)
    have := hT.2.1.1
    exact ⟨by omega, by omega⟩
/-- what an object gives for a name, so many getters on -/
def rdv (σ : ST) (l : List Int) : Nat → Int → Int
  | 0, n => if hF σ n l < 0 then -1000 else σ 16 (hF σ n l) n
  | m + 1, n => if hF σ n l < 0 then -1000 else if σ 17 (hF σ n l) n = -1 then σ 16 (hF σ n l) n else raI (rdv σ l m (σ 17 (hF σ n l) n)) (σ 19 (hF σ n l) n)
theorem raI_r {v a : Int} (h : -1000 ≤ v ∧ v ≤ 2000) : -1000 ≤ raI v a ∧ raI v a ≤ 2000 := by
  unfold raI
  split
  · exact h
  · split
    · exact h
    · split
      · omega
      · split <;> omega
def fo (ad : Nat → Int) : Nat → Int → Int
  | 0, v => v
  | s + 1, v => fo ad s (raI v (ad s))
theorem fo_up (ad : Nat → Int) (x : Int) (m : Nat) : ∀ (s : Nat) (v : Int), s ≤ m → fo (fun i => if i = m then x else ad i) s v = fo ad s v := by
  intro s
  induction s with
  | zero => intro v h; rfl
  | succ s ih =>
    intro v h
    unfold fo
    rw [if_neg (by omega)]
    exact ih _ (by omega)
theorem s_isName {κ : KK} {A : Nat → Int → Nat} {σ : ST} {n : Int} (hn : 0 ≤ n ∧ n < 12) : PU κ A MX4_isName 0 σ [.int (iI n)] (.int (iI 1)) := by
  intro g hh
  refine e_start rfl (by show (lg_sl _).length ≤ 1; simp [lg_sl, cat_rf, cat_i, cat_l, cat_r, cat_n]) (lv := [(0, .int (iI n))]) (by simp [lv_args, cat_rf, cat_i, cat_l, cat_r, cat_n]) ?_
  refine r_iload_n dX4_isName_0 rfl rfl ?_
  refine e_if_lt 14 dX4_isName_1 (by decide) ⟨by omega, by omega⟩ (fun h1 => by exfalso; omega) (fun h1 => ?_)
  refine r_pc 4 rfl ?_
  refine r_iload_n dX4_isName_4 rfl rfl ?_
  refine e_bipush dX4_isName_5 (by decide +kernel) ?_
  refine e_ic_ge 14 dX4_isName_7 (by decide) ⟨by omega, by omega⟩ ⟨by omega, by omega⟩ (fun h7 => by exfalso; omega) (fun h7 => ?_)
  refine r_pc 10 rfl ?_
  refine e_iconst dX4_isName_10 ?_
  refine r_goto 15 dX4_isName_11 (by decide) ?_
  exact q_zret dX4_isName_15 rfl (by omega) (by rfl) (by assumption)
theorem s_needName {κ : KK} {A : Nat → Int → Nat} {σ : ST} {n : Int} (hn : 0 ≤ n ∧ n < 12) : PV κ A MX4_needName 1 σ [.int (iI n)] none σ := by
  intro g hh
  refine e_start rfl (by show (lg_sl _).length ≤ 1; simp [lg_sl, cat_rf, cat_i, cat_l, cat_r, cat_n]) (lv := [(0, .int (iI n))]) (by simp [lv_args, cat_rf, cat_i, cat_l, cat_r, cat_n]) ?_
  refine r_iload_n dX4_needName_0 rfl rfl ?_
  refine e_callSP (z := MX4_isName) dX4_needName_1 ml_X4_247 cz_X4_isName mk_X4_isName (s_isName hn) rfl rfl (by simp [cat_rf, cat_i, cat_l, cat_r, cat_n]) (by decide) (by assumption) (fun g hh => ?_)
  refine r_pc 4 rfl ?_
  refine e_if_ne 17 dX4_needName_4 (by decide) ⟨by omega, by omega⟩ (fun h4 => ?_) (fun h4 => by exfalso; omega)
  refine r_pc 17 rfl ?_
  exact q_vret dX4_needName_17 rfl (by assumption)
theorem s_needWhat {κ : KK} {A : Nat → Int → Nat} {σ : ST} {a b : Int} (h : 0 ≤ a ∧ a ≤ b ∧ b ≤ 20) : PV κ A MX4_needWhat 0 σ [.int (iI a), .int (iI b)] none σ := by
  intro g hh
  refine e_start rfl (by show (lg_sl _).length ≤ 2; simp [lg_sl, cat_rf, cat_i, cat_l, cat_r, cat_n]) (lv := [(0, .int (iI a)), (1, .int (iI b))]) (by simp [lv_args, cat_rf, cat_i, cat_l, cat_r, cat_n]) ?_
  refine r_iload_n dX4_needWhat_0 rfl rfl ?_
  refine e_if_lt 9 dX4_needWhat_1 (by decide) ⟨by omega, by omega⟩ (fun h1 => by exfalso; omega) (fun h1 => ?_)
  refine r_pc 4 rfl ?_
  refine r_iload_n dX4_needWhat_4 rfl rfl ?_
  refine r_iload_n dX4_needWhat_5 rfl rfl ?_
  refine e_ic_le 19 dX4_needWhat_6 (by decide) ⟨by omega, by omega⟩ ⟨by omega, by omega⟩ (fun h6 => ?_) (fun h6 => by exfalso; omega)
  refine r_pc 19 rfl ?_
  exact q_vret dX4_needWhat_19 rfl (by assumption)
theorem s_isNumber {κ : KK} {A : Nat → Int → Nat} {σ : ST} {v : Int} (hv : -1000 ≤ v ∧ v ≤ 2000) : PU κ A MX4_isNumber 0 σ [.int (iI v)] (.int (iI (bI (-999 ≤ v ∧ v ≤ 999)))) := by
  intro g hh
  refine e_start rfl (by show (lg_sl _).length ≤ 1; simp [lg_sl, cat_rf, cat_i, cat_l, cat_r, cat_n]) (lv := [(0, .int (iI v))]) (by simp [lv_args, cat_rf, cat_i, cat_l, cat_r, cat_n]) ?_
  refine r_iload_n dX4_isNumber_0 rfl rfl ?_
  refine e_sipush dX4_isNumber_1 (by decide +kernel) ?_
  refine e_ic_lt 18 dX4_isNumber_4 (by decide) ⟨by omega, by omega⟩ ⟨by omega, by omega⟩ (fun h4 => ?_) (fun h4 => ?_)
  · refine r_pc 18 rfl ?_
    refine e_iconst dX4_isNumber_18 ?_
    exact q_zret dX4_isNumber_19 rfl (by omega) (by exact (bI_f (by omega)).symm) (by assumption)
  · refine r_pc 7 rfl ?_
    refine r_iload_n dX4_isNumber_7 rfl rfl ?_
    refine e_sipush dX4_isNumber_8 (by decide +kernel) ?_
    refine e_ic_gt 18 dX4_isNumber_11 (by decide) ⟨by omega, by omega⟩ ⟨by omega, by omega⟩ (fun h11 => ?_) (fun h11 => ?_)
    · refine r_pc 18 rfl ?_
      refine e_iconst dX4_isNumber_18 ?_
      exact q_zret dX4_isNumber_19 rfl (by omega) (by exact (bI_f (by omega)).symm) (by assumption)
    · refine r_pc 14 rfl ?_
      refine e_iconst dX4_isNumber_14 ?_
      refine r_goto 19 dX4_isNumber_15 (by decide) ?_
      exact q_zret dX4_isNumber_19 rfl (by omega) (by exact (bI_t (by omega)).symm) (by assumption)
theorem s_isNumberg {κ : KK} {A : Nat → Int → Nat} {σ : ST} {v : Int} (hv : -1000 ≤ v ∧ v ≤ 2000) : PG κ A MX4_isNumber 0 σ [.int (iI v)] (.int (iI (bI (-999 ≤ v ∧ v ≤ 999)))) := by
  intro g hh
  refine e_start rfl (by show (lg_sl _).length ≤ 1; simp [lg_sl, cat_rf, cat_i, cat_l, cat_r, cat_n]) (lv := [(0, .int (iI v))]) (by simp [lv_args, cat_rf, cat_i, cat_l, cat_r, cat_n]) ?_
  refine r_iload_n dX4_isNumber_0 rfl rfl ?_
  refine e_sipush dX4_isNumber_1 (by decide +kernel) ?_
  refine e_ic_lt 18 dX4_isNumber_4 (by decide) ⟨by omega, by omega⟩ ⟨by omega, by omega⟩ (fun h4 => ?_) (fun h4 => ?_)
  · refine r_pc 18 rfl ?_
    refine e_iconst dX4_isNumber_18 ?_
    exact q_zretG dX4_isNumber_19 rfl (by omega) (by exact (bI_f (by omega)).symm)
  · refine r_pc 7 rfl ?_
    refine r_iload_n dX4_isNumber_7 rfl rfl ?_
    refine e_sipush dX4_isNumber_8 (by decide +kernel) ?_
    refine e_ic_gt 18 dX4_isNumber_11 (by decide) ⟨by omega, by omega⟩ ⟨by omega, by omega⟩ (fun h11 => ?_) (fun h11 => ?_)
    · refine r_pc 18 rfl ?_
      refine e_iconst dX4_isNumber_18 ?_
      exact q_zretG dX4_isNumber_19 rfl (by omega) (by exact (bI_f (by omega)).symm)
    · refine r_pc 14 rfl ?_
      refine e_iconst dX4_isNumber_14 ?_
      refine r_goto 19 dX4_isNumber_15 (by decide) ?_
      exact q_zretG dX4_isNumber_19 rfl (by omega) (by exact (bI_t (by omega)).symm)
theorem min_I {a b : Int} (ha : R32 a) (hb : R32 b) : (if iI b < iI a then iI b else iI a) = iI (if b < a then b else a) := by
  by_cases h : b < a
  · rw [if_pos h, if_pos ((iI_lt hb ha).mpr h)]
  · rw [if_neg h, if_neg (fun e => h ((iI_lt hb ha).mp e))]
theorem max_I {a b : Int} (ha : R32 a) (hb : R32 b) : (if iI a < iI b then iI b else iI a) = iI (if a < b then b else a) := by
  by_cases h : a < b
  · rw [if_pos h, if_pos ((iI_lt ha hb).mpr h)]
  · rw [if_neg h, if_neg (fun e => h ((iI_lt ha hb).mp e))]
theorem s_raised {κ : KK} {A : Nat → Int → Nat} {σ : ST} {v a : Int} (hv : -1000 ≤ v ∧ v ≤ 2000) (ha : -99 ≤ a ∧ a ≤ 99) : PU κ A MX4_raised 1 σ [.int (iI v), .int (iI a)] (.int (iI (raI v a))) := by
  intro g hh
  refine e_start rfl (by show (lg_sl _).length ≤ 2; simp [lg_sl, cat_rf, cat_i, cat_l, cat_r, cat_n]) (lv := [(0, .int (iI v)), (1, .int (iI a))]) (by simp [lv_args, cat_rf, cat_i, cat_l, cat_r, cat_n]) ?_
  refine r_iload_n dX4_raised_0 rfl rfl ?_
  refine e_callSP (z := MX4_isNumber) dX4_raised_1 ml_X4_257 cz_X4_isNumber mk_X4_isNumber (s_isNumber hv) rfl rfl (by simp [cat_rf, cat_i, cat_l, cat_r, cat_n]) (by decide) (by assumption) (fun g hh => ?_)
  refine r_pc 4 rfl ?_
  refine e_ifne_b 9 dX4_raised_4 (by decide) (fun h4 => ?_) (fun h4 => ?_)
  · refine r_pc 9 rfl ?_
    refine e_sipush dX4_raised_9 (by decide +kernel) ?_
    refine e_sipush dX4_raised_12 (by decide +kernel) ?_
    refine r_iload_n dX4_raised_15 rfl rfl ?_
    refine r_iload_n dX4_raised_16 rfl rfl ?_
    first | refine e_iadd dX4_raised_17 ?_ | refine r_iadd dX4_raised_17 ?_
    refine r_min dX4_raised_18 ml_X4_270 (by decide) (by simp [cat_rf, cat_i, cat_l, cat_r, cat_n]) ?_
    refine r_iv (min_I (a := 999) (b := v + a) ⟨by omega, by omega⟩ ⟨by omega, by omega⟩) ?_
    refine r_max dX4_raised_21 ml_X4_275 (by decide) (by simp [cat_rf, cat_i, cat_l, cat_r, cat_n]) ?_
    refine r_iv (max_I (a := -999) ⟨by omega, by omega⟩ ⟨by split <;> omega, by split <;> omega⟩) ?_
    exact q_iret dX4_raised_24 rfl (by unfold raI; repeat' split <;> omega) (by assumption)
  · refine r_pc 7 rfl ?_
    refine r_iload_n dX4_raised_7 rfl rfl ?_
    exact q_iret dX4_raised_8 rfl (by unfold raI; repeat' split <;> omega) (by assumption)
theorem s_raisedg {κ : KK} {A : Nat → Int → Nat} {σ : ST} {v a : Int} (hv : -1000 ≤ v ∧ v ≤ 2000) (ha : -99 ≤ a ∧ a ≤ 99) : PG κ A MX4_raised 1 σ [.int (iI v), .int (iI a)] (.int (iI (raI v a))) := by
  intro g hh
  refine e_start rfl (by show (lg_sl _).length ≤ 2; simp [lg_sl, cat_rf, cat_i, cat_l, cat_r, cat_n]) (lv := [(0, .int (iI v)), (1, .int (iI a))]) (by simp [lv_args, cat_rf, cat_i, cat_l, cat_r, cat_n]) ?_
  refine r_iload_n dX4_raised_0 rfl rfl ?_
  refine e_callSG (z := MX4_isNumber) dX4_raised_1 ml_X4_257 cz_X4_isNumber mk_X4_isNumber (s_isNumberg hv) rfl rfl (by simp [cat_rf, cat_i, cat_l, cat_r, cat_n]) (by decide) (by assumption) ?_
  refine r_pc 4 rfl ?_
  refine e_ifne_b 9 dX4_raised_4 (by decide) (fun h4 => ?_) (fun h4 => ?_)
  · refine r_pc 9 rfl ?_
    refine e_sipush dX4_raised_9 (by decide +kernel) ?_
    refine e_sipush dX4_raised_12 (by decide +kernel) ?_
    refine r_iload_n dX4_raised_15 rfl rfl ?_
    refine r_iload_n dX4_raised_16 rfl rfl ?_
    first | refine e_iadd dX4_raised_17 ?_ | refine r_iadd dX4_raised_17 ?_
    refine r_min dX4_raised_18 ml_X4_270 (by decide) (by simp [cat_rf, cat_i, cat_l, cat_r, cat_n]) ?_
    refine r_iv (min_I (a := 999) (b := v + a) ⟨by omega, by omega⟩ ⟨by omega, by omega⟩) ?_
    refine r_max dX4_raised_21 ml_X4_275 (by decide) (by simp [cat_rf, cat_i, cat_l, cat_r, cat_n]) ?_
    refine r_iv (max_I (a := -999) ⟨by omega, by omega⟩ ⟨by split <;> omega, by split <;> omega⟩) ?_
    exact q_iretG dX4_raised_24 rfl (by unfold raI; repeat' split <;> omega)
  · refine r_pc 7 rfl ?_
    refine r_iload_n dX4_raised_7 rfl rfl ?_
    exact q_iretG dX4_raised_8 rfl (by unfold raI; repeat' split <;> omega)
theorem s_thingAt {κ : KK} {A : Nat → Int → Nat} {σ : ST} {k : Int} (hk : Lv σ 3 k) (hT : WT σ) : PU κ A MX4_thingAt 0 σ [vr A 4 0, .int (iI k)] (vr A 3 k) := by
  intro g hh
  refine e_start rfl (by show (lg_sl _).length ≤ 2; simp [lg_sl, cat_rf, cat_i, cat_l, cat_r, cat_n]) (lv := [(0, vr A 4 0), (1, .int (iI k))]) (by simp [lv_args, cat_rf, cat_i, cat_l, cat_r, cat_n]) ?_
  have hk2 : 0 ≤ k ∧ k < σ 99 3 0 := hk
  have h1 := hT.1
  have h2 := hT.2.1
  refine r_iload_n dX4_thingAt_0 rfl rfl ?_
  refine e_if_lt 12 dX4_thingAt_1 (by decide) ⟨by omega, by omega⟩ (fun h1 => by exfalso; omega) (fun h1 => ?_)
  refine r_pc 4 rfl ?_
  refine r_iload_n dX4_thingAt_4 rfl rfl ?_
  refine r_aload_nO dX4_thingAt_5 rfl rfl ?_
  refine e_getI (t := 4) (k := 1) 1 dX4_thingAt_6 cb4 (by decide) mf_X4_40 (by rfl) rfl (by assumption) (lv1 _ 4 (fun _ => rfl)) ?_
  refine e_ic_lt 22 dX4_thingAt_9 (by decide) ⟨by omega, by omega⟩ ⟨by omega, by omega⟩ (fun h9 => ?_) (fun h9 => by exfalso; omega)
  refine r_pc 22 rfl ?_
  refine r_aload_nO dX4_thingAt_22 rfl rfl ?_
  refine e_getF (t := 4) (k := 0) (t1 := 6) dX4_thingAt_23 cb4 (by decide) mf_X4_11 (by rfl) (by rfl) (by decide) (by assumption) (lv1 _ 4 (fun _ => rfl)) ?_
  refine r_iload_n dX4_thingAt_26 rfl rfl ?_
  refine e_aald (t := 6) (t1 := 3) dX4_thingAt_27 (by decide) (by decide) (by decide) (by intro _; rfl) (by decide) (by assumption) (lv1 _ 6 (fun _ => rfl)) (by have e : ln 6 = 24 := rfl; omega) ?_
  refine e_rv (hT.2.2 k hk).1 ?_
  exact q_aret dX4_thingAt_28 rfl (Or.inl ⟨_, rfl⟩) (by rfl) (by assumption)
theorem s_parentAt {κ : KK} {A : Nat → Int → Nat} {σ : ST} {k : Int} (hk : -1 ≤ k ∧ k < σ 99 3 0) (hT : WT σ) : PU κ A MX4_parentAt 1 σ [vr A 4 0, .int (iI k)] (vr A 3 k) := by
  intro g hh
  refine e_start rfl (by show (lg_sl _).length ≤ 2; simp [lg_sl, cat_rf, cat_i, cat_l, cat_r, cat_n]) (lv := [(0, vr A 4 0), (1, .int (iI k))]) (by simp [lv_args, cat_rf, cat_i, cat_l, cat_r, cat_n]) ?_
  have h2 := hT.2.1
  refine r_iload_n dX4_parentAt_0 rfl rfl ?_
  refine e_iconst dX4_parentAt_1 ?_
  refine e_ic_ne 9 dX4_parentAt_2 (by decide) ⟨by omega, by omega⟩ ⟨by omega, by omega⟩ (fun h2 => ?_) (fun h2 => ?_)
  · refine r_pc 9 rfl ?_
    refine r_aload_nO dX4_parentAt_9 rfl rfl ?_
    refine r_iload_n dX4_parentAt_10 rfl rfl ?_
    refine e_callVP (z := MX4_thingAt) dX4_parentAt_11 ml_X4_69 cz_X4_thingAt mk_X4_thingAt ms_X4_thingAt cb4 (by decide) (s_thingAt ⟨by omega, hk.2⟩ hT) rfl rfl (by simp [cat_rf, cat_i, cat_l, cat_r, cat_n]) (by decide) (by assumption) (lv1 _ 4 (fun _ => rfl)) (fun g hh => ?_)
    refine r_pc 14 rfl ?_
    exact q_aret dX4_parentAt_14 rfl (Or.inl ⟨_, rfl⟩) (by rfl) (by assumption)
  · refine r_pc 5 rfl ?_
    subst h2
    refine e_null A 3 dX4_parentAt_5 ?_
    refine r_goto 14 dX4_parentAt_6 (by decide) ?_
    exact q_aret dX4_parentAt_14 rfl (Or.inl ⟨_, rfl⟩) (by rfl) (by assumption)
theorem s_placeAt {κ : KK} {A : Nat → Int → Nat} {σ : ST} {p : Int} (hp : Lv σ 0 p) : PU κ A MX4_placeAt 0 σ [vr A 4 0, .int (iI p)] (vr A 0 p) := by
  intro g hh
  refine e_start rfl (by show (lg_sl _).length ≤ 2; simp [lg_sl, cat_rf, cat_i, cat_l, cat_r, cat_n]) (lv := [(0, vr A 4 0), (1, .int (iI p))]) (by simp [lv_args, cat_rf, cat_i, cat_l, cat_r, cat_n]) ?_
  have hp2 : 0 ≤ p ∧ p < 6 := hp
  refine r_iload_n dX4_placeAt_0 rfl rfl ?_
  refine e_if_lt 10 dX4_placeAt_1 (by decide) ⟨by omega, by omega⟩ (fun h1 => by exfalso; omega) (fun h1 => ?_)
  refine r_pc 4 rfl ?_
  refine r_iload_n dX4_placeAt_4 rfl rfl ?_
  refine e_bipush dX4_placeAt_5 (by decide +kernel) ?_
  refine e_ic_lt 20 dX4_placeAt_7 (by decide) ⟨by omega, by omega⟩ ⟨by omega, by omega⟩ (fun h7 => ?_) (fun h7 => by exfalso; omega)
  refine r_pc 20 rfl ?_
  refine r_aload_nO dX4_placeAt_20 rfl rfl ?_
  refine e_getF (t := 4) (k := 3) (t1 := 7) dX4_placeAt_21 cb4 (by decide) mf_X4_24 (by rfl) (by rfl) (by decide) (by assumption) (lv1 _ 4 (fun _ => rfl)) ?_
  refine r_iload_n dX4_placeAt_24 rfl rfl ?_
  refine e_aald7 dX4_placeAt_25 (by assumption) (by have e : ln 7 = 6 := rfl; omega) ?_
  exact q_aret dX4_placeAt_26 rfl (Or.inl ⟨_, rfl⟩) (by rfl) (by assumption)
theorem s_isInLine {κ : KK} {A : Nat → Int → Nat} {σ : ST} {L : Int → List Int} {q0 t : Int} (hq0 : -1 ≤ q0 ∧ q0 < σ 99 3 0) (ht : Lv σ 3 t) (hT : WT σ) (hL : WL σ L) : PU κ A MX4_isInLine 0 σ [vr A 3 q0, vr A 3 t] (.int (iI (bI (t ∈ lo L q0)))) := by
  intro g hh
  refine e_start rfl (by show (lg_sl _).length ≤ 3; simp [lg_sl, cat_rf, cat_i, cat_l, cat_r, cat_n]) (lv := [(0, vr A 3 q0), (1, vr A 3 t)]) (by simp [lv_args, cat_rf, cat_i, cat_l, cat_r, cat_n]) ?_
  have loop : ∀ (l : List Int) (q : Int), lo L q = l → (-1 ≤ q ∧ q < σ 99 3 0) → (t ∈ lo L q0 ↔ t ∈ l) → ∀ g, HR κ A g σ → Wp κ MX4_isInLine 0 0 0 2 [(0, vr A 3 q0), (1, vr A 3 t), (2, vr A 3 q)] [] g (PQ κ A σ (some (.int (iI (bI (t ∈ lo L q0)))))) := by
    intro l
    induction l with
    | nil =>
      intro q hl hq hm g hh
      have hq0 := lo_nil hL hq hl
      refine r_aload_nO dX4_isInLine_2 rfl rfl ?_
      refine e_ifnull 21 dX4_isInLine_3 (by decide) (fun h3 => ?_) (fun h3 => by exfalso; omega)
      refine r_pc 21 rfl ?_
      refine e_iconst dX4_isInLine_21 ?_
      exact q_zret dX4_isInLine_22 rfl (by omega) (by exact (bI_f (by rw [hm]; exact List.not_mem_nil)).symm) (by assumption)
    | cons b l ih =>
      intro q hl hq hm g hh
      obtain ⟨hq0, rfl, hl'⟩ := lo_cons hL hq hl
      have hqk : Lv σ 3 q := ⟨hq0, hq.2⟩
      have hqp := (hT.2.2 q hqk).2.2.1
      refine r_aload_nO dX4_isInLine_2 rfl rfl ?_
      refine e_ifnull 21 dX4_isInLine_3 (by decide) (fun h3 => by exfalso; omega) (fun h3 => ?_)
      refine r_pc 6 rfl ?_
      refine r_aload_nO dX4_isInLine_6 rfl rfl ?_
      refine r_aload_nO dX4_isInLine_7 rfl rfl ?_
      refine e_ac_ne (t := 3) 13 dX4_isInLine_8 (by decide) (by assumption) (by decide) ⟨by omega, hq.2⟩ ⟨by have := ht.1; omega, ht.2⟩ (fun h8 => ?_) (fun h8 => ?_)
      · refine r_pc 13 rfl ?_
        refine r_aload_nO dX4_isInLine_13 rfl rfl ?_
        refine e_getR (t := 3) (k := 1) (t1 := 3) 1 dX4_isInLine_14 cb3 (by decide) mf_X4_129 (by rfl) (by rfl) (by decide) rfl (by assumption) (by assumption) ?_
        refine r_astore_nO dX4_isInLine_17 rfl (by decide) ?_
        refine r_stw (by repeat' first | exact True.intro | refine And.intro (fun h => by first | rfl | exact cat_rf _ | exact absurd h (by decide)) ?_) ?_
        refine r_goto 2 dX4_isInLine_18 (by decide) ?_
        refine r_lv [(0, vr A 3 q0), (1, vr A 3 t), (2, vr A 3 (σ 3 q 1))] rfl ?_
        exact ih _ hl' hqp (by rw [hm, List.mem_cons]; exact ⟨fun e => e.resolve_left (fun z => h8 z.symm), Or.inr⟩) g hh
      · refine r_pc 11 rfl ?_
        refine e_iconst dX4_isInLine_11 ?_
        exact q_zret dX4_isInLine_12 rfl (by omega) (by exact (bI_t (by rw [hm, h8]; exact List.mem_cons_self)).symm) (by assumption)
  refine r_aload_nO dX4_isInLine_0 rfl rfl ?_
  refine r_astore_nO dX4_isInLine_1 rfl (by decide) ?_
  refine r_stw (by repeat' first | exact True.intro | refine And.intro (fun h => by first | rfl | exact cat_rf _ | exact absurd h (by decide)) ?_) ?_
  refine r_lv [(0, vr A 3 q0), (1, vr A 3 t), (2, vr A 3 q0)] rfl ?_
  exact loop _ q0 rfl hq0 Iff.rfl g hh
theorem s_lineLength {κ : KK} {A : Nat → Int → Nat} {σ : ST} {L : Int → List Int} {q0 : Int} (hq0 : -1 ≤ q0 ∧ q0 < σ 99 3 0) (hT : WT σ) (hL : WL σ L) : PU κ A MX4_lineLength 0 σ [vr A 3 q0] (.int (iI ((lo L q0).length : Int))) := by
  intro g hh
  refine e_start rfl (by show (lg_sl _).length ≤ 3; simp [lg_sl, cat_rf, cat_i, cat_l, cat_r, cat_n]) (lv := [(0, vr A 3 q0)]) (by simp [lv_args, cat_rf, cat_i, cat_l, cat_r, cat_n]) ?_
  have loop : ∀ (l : List Int) (q : Int), ∀ c : Int, lo L q = l → (-1 ≤ q ∧ q < σ 99 3 0) → (c + (l.length : Int) = ((lo L q0).length : Int)) → ∀ g, HR κ A g σ → Wp κ MX4_lineLength 0 0 0 4 [(0, vr A 3 q0), (1, .int (iI c)), (2, vr A 3 q)] [] g (PQ κ A σ (some (.int (iI ((lo L q0).length : Int))))) := by
    intro l
    induction l with
    | nil =>
      intro q c hl hq hc g hh
      have hq0 := lo_nil hL hq hl
      refine r_aload_nO dX4_lineLength_4 rfl rfl ?_
      refine e_ifnull 19 dX4_lineLength_5 (by decide) (fun h5 => ?_) (fun h5 => by exfalso; omega)
      refine r_pc 19 rfl ?_
      refine r_iload_n dX4_lineLength_19 rfl rfl ?_
      exact q_iret dX4_lineLength_20 rfl (by simp at hc; omega) (by assumption)
    | cons b l ih =>
      intro q c hl hq hc g hh
      obtain ⟨hq0, rfl, hl'⟩ := lo_cons hL hq hl
      have hqk : Lv σ 3 q := ⟨hq0, hq.2⟩
      have hqp := (hT.2.2 q hqk).2.2.1
      refine r_aload_nO dX4_lineLength_4 rfl rfl ?_
      refine e_ifnull 19 dX4_lineLength_5 (by decide) (fun h5 => by exfalso; omega) (fun h5 => ?_)
      refine r_pc 8 rfl ?_
      refine e_iinc dX4_lineLength_8 rfl (by decide) ?_
      refine r_stw (by repeat' first | exact True.intro | refine And.intro (fun h => by first | rfl | exact cat_rf _ | exact absurd h (by decide)) ?_) ?_
      refine r_aload_nO dX4_lineLength_11 rfl rfl ?_
      refine e_getR (t := 3) (k := 1) (t1 := 3) 1 dX4_lineLength_12 cb3 (by decide) mf_X4_129 (by rfl) (by rfl) (by decide) rfl (by assumption) (by assumption) ?_
      refine r_astore_nO dX4_lineLength_15 rfl (by decide) ?_
      refine r_goto 4 dX4_lineLength_16 (by decide) ?_
      refine r_lv [(0, vr A 3 q0), (1, .int (iI (c + 1))), (2, vr A 3 (σ 3 q 1))] rfl ?_
      exact ih _ _ hl' hqp (by rw [List.length_cons] at hc; omega) g hh
  refine e_iconst dX4_lineLength_0 ?_
  refine r_istore_n dX4_lineLength_1 rfl (by decide) ?_
  refine r_stw (by repeat' first | exact True.intro | refine And.intro (fun h => by first | rfl | exact cat_rf _ | exact absurd h (by decide)) ?_) ?_
  refine r_aload_nO dX4_lineLength_2 rfl rfl ?_
  refine r_astore_nO dX4_lineLength_3 rfl (by decide) ?_
  refine r_lv [(0, vr A 3 q0), (1, .int (iI 0)), (2, vr A 3 q0)] rfl ?_
  exact loop _ q0 0 rfl hq0 (by omega) g hh
theorem s_holderOf {κ : KK} {A : Nat → Int → Nat} {σ : ST} {L : Int → List Int} {q0 n : Int} (hq0 : -1 ≤ q0 ∧ q0 < σ 99 3 0) (hn : 0 ≤ n ∧ n < 12) (hT : WT σ) (hL : WL σ L) (hF' : WF σ) : PU κ A MX4_holderOf 1 σ [vr A 3 q0, .int (iI n)] (vr A 3 (hF σ n (lo L q0))) := by
  intro g hh
  refine e_start rfl (by show (lg_sl _).length ≤ 3; simp [lg_sl, cat_rf, cat_i, cat_l, cat_r, cat_n]) (lv := [(0, vr A 3 q0), (1, .int (iI n))]) (by simp [lv_args, cat_rf, cat_i, cat_l, cat_r, cat_n]) ?_
  have loop : ∀ (l : List Int) (q : Int), lo L q = l → (-1 ≤ q ∧ q < σ 99 3 0) → (hF σ n l = hF σ n (lo L q0)) → ∀ g, HR κ A g σ → Wp κ MX4_holderOf 1 0 0 2 [(0, vr A 3 q0), (1, .int (iI n)), (2, vr A 3 q)] [] g (PQ κ A σ (some (vr A 3 (hF σ n (lo L q0))))) := by
    intro l
    induction l with
    | nil =>
      intro q hl hq hm g hh
      have hq0 := lo_nil hL hq hl
      refine r_aload_nO dX4_holderOf_2 rfl rfl ?_
      refine e_ifnull 24 dX4_holderOf_3 (by decide) (fun h3 => ?_) (fun h3 => by exfalso; omega)
      refine r_pc 24 rfl ?_
      refine e_null A 3 dX4_holderOf_24 ?_
      exact q_aret dX4_holderOf_25 rfl (Or.inl ⟨_, rfl⟩) (by rw [← hm]; rfl) (by assumption)
    | cons b l ih =>
      intro q hl hq hm g hh
      obtain ⟨hq0, rfl, hl'⟩ := lo_cons hL hq hl
      have hqk : Lv σ 3 q := ⟨hq0, hq.2⟩
      have hqp := (hT.2.2 q hqk).2.2.1
      refine r_aload_nO dX4_holderOf_2 rfl rfl ?_
      refine e_ifnull 24 dX4_holderOf_3 (by decide) (fun h3 => by exfalso; omega) (fun h3 => ?_)
      refine r_pc 6 rfl ?_
      refine r_aload_nO dX4_holderOf_6 rfl rfl ?_
      refine r_iload_n dX4_holderOf_7 rfl rfl ?_
      refine e_callVP (z := MX3_has) dX4_holderOf_8 ml_X4_118 cz_X3_has mk_X3_has ms_X3_has cb3 (by decide) (s_has hqk hn ((hF' q hqk).2.1 n hn).1) rfl rfl (by simp [cat_rf, cat_i, cat_l, cat_r, cat_n]) (by decide) (by assumption) (by assumption) (fun g hh => ?_)
      refine r_pc 11 rfl ?_
      refine e_ifeq_b 16 dX4_holderOf_11 (by decide) (fun h11 => ?_) (fun h11 => ?_)
      · refine r_pc 16 rfl ?_
        refine r_aload_nO dX4_holderOf_16 rfl rfl ?_
        refine e_getR (t := 3) (k := 1) (t1 := 3) 1 dX4_holderOf_17 cb3 (by decide) mf_X4_129 (by rfl) (by rfl) (by decide) rfl (by assumption) (by assumption) ?_
        refine r_astore_nO dX4_holderOf_20 rfl (by decide) ?_
        refine r_goto 2 dX4_holderOf_21 (by decide) ?_
        refine r_lv [(0, vr A 3 q0), (1, .int (iI n)), (2, vr A 3 (σ 3 q 1))] rfl ?_
        exact ih _ hl' hqp (by rw [← hm, hF, if_pos (by omega)]) g hh
      · refine r_pc 14 rfl ?_
        refine r_aload_nO dX4_holderOf_14 rfl rfl ?_
        exact q_aret dX4_holderOf_15 rfl (Or.inl ⟨_, rfl⟩) (by rw [← hm, hF, if_neg h11]) (by assumption)
  refine r_aload_nO dX4_holderOf_0 rfl rfl ?_
  refine r_astore_nO dX4_holderOf_1 rfl (by decide) ?_
  refine r_lv [(0, vr A 3 q0), (1, .int (iI n)), (2, vr A 3 q0)] rfl ?_
  exact loop _ q0 rfl hq0 rfl g hh
theorem s_holderOfg {κ : KK} {A : Nat → Int → Nat} {σ : ST} {L : Int → List Int} {q0 n : Int} (hq0 : -1 ≤ q0 ∧ q0 < σ 99 3 0) (hn : 0 ≤ n ∧ n < 12) (hT : WT σ) (hL : WL σ L) (hF' : WF σ) : PG κ A MX4_holderOf 1 σ [vr A 3 q0, .int (iI n)] (vr A 3 (hF σ n (lo L q0))) := by
  intro g hh
  refine e_start rfl (by show (lg_sl _).length ≤ 3; simp [lg_sl, cat_rf, cat_i, cat_l, cat_r, cat_n]) (lv := [(0, vr A 3 q0), (1, .int (iI n))]) (by simp [lv_args, cat_rf, cat_i, cat_l, cat_r, cat_n]) ?_
  have loop : ∀ (l : List Int) (q : Int), lo L q = l → (-1 ≤ q ∧ q < σ 99 3 0) → (hF σ n l = hF σ n (lo L q0)) → ∀ g, HR κ A g σ → Wp κ MX4_holderOf 1 0 0 2 [(0, vr A 3 q0), (1, .int (iI n)), (2, vr A 3 q)] [] g (PG0 g (some (vr A 3 (hF σ n (lo L q0))))) := by
    intro l
    induction l with
    | nil =>
      intro q hl hq hm g hh
      have hq0 := lo_nil hL hq hl
      refine r_aload_nO dX4_holderOf_2 rfl rfl ?_
      refine e_ifnull 24 dX4_holderOf_3 (by decide) (fun h3 => ?_) (fun h3 => by exfalso; omega)
      refine r_pc 24 rfl ?_
      refine e_null A 3 dX4_holderOf_24 ?_
      exact q_aretG dX4_holderOf_25 rfl (Or.inl ⟨_, rfl⟩) (by rw [← hm]; rfl)
    | cons b l ih =>
      intro q hl hq hm g hh
      obtain ⟨hq0, rfl, hl'⟩ := lo_cons hL hq hl
      have hqk : Lv σ 3 q := ⟨hq0, hq.2⟩
      have hqp := (hT.2.2 q hqk).2.2.1
      refine r_aload_nO dX4_holderOf_2 rfl rfl ?_
      refine e_ifnull 24 dX4_holderOf_3 (by decide) (fun h3 => by exfalso; omega) (fun h3 => ?_)
      refine r_pc 6 rfl ?_
      refine r_aload_nO dX4_holderOf_6 rfl rfl ?_
      refine r_iload_n dX4_holderOf_7 rfl rfl ?_
      refine e_callVG (z := MX3_has) dX4_holderOf_8 ml_X4_118 cz_X3_has mk_X3_has ms_X3_has cb3 (by decide) (s_hasg hqk hn ((hF' q hqk).2.1 n hn).1) rfl rfl (by simp [cat_rf, cat_i, cat_l, cat_r, cat_n]) (by decide) (by assumption) (by assumption) ?_
      refine r_pc 11 rfl ?_
      refine e_ifeq_b 16 dX4_holderOf_11 (by decide) (fun h11 => ?_) (fun h11 => ?_)
      · refine r_pc 16 rfl ?_
        refine r_aload_nO dX4_holderOf_16 rfl rfl ?_
        refine e_getR (t := 3) (k := 1) (t1 := 3) 1 dX4_holderOf_17 cb3 (by decide) mf_X4_129 (by rfl) (by rfl) (by decide) rfl (by assumption) (by assumption) ?_
        refine r_astore_nO dX4_holderOf_20 rfl (by decide) ?_
        refine r_goto 2 dX4_holderOf_21 (by decide) ?_
        refine r_lv [(0, vr A 3 q0), (1, .int (iI n)), (2, vr A 3 (σ 3 q 1))] rfl ?_
        exact ih _ hl' hqp (by rw [← hm, hF, if_pos (by omega)]) g hh
      · refine r_pc 14 rfl ?_
        refine r_aload_nO dX4_holderOf_14 rfl rfl ?_
        exact q_aretG dX4_holderOf_15 rfl (Or.inl ⟨_, rfl⟩) (by rw [← hm, hF, if_neg h11])
  refine r_aload_nO dX4_holderOf_0 rfl rfl ?_
  refine r_astore_nO dX4_holderOf_1 rfl (by decide) ?_
  refine r_lv [(0, vr A 3 q0), (1, .int (iI n)), (2, vr A 3 q0)] rfl ?_
  exact loop _ q0 rfl hq0 rfl g hh
theorem s_wayUp {κ : KK} {A : Nat → Int → Nat} {σ : ST} {L : Int → List Int} {q0 n : Int} (hq0 : -1 ≤ q0 ∧ q0 < σ 99 3 0) (hn : 0 ≤ n ∧ n < 12) (hT : WT σ) (hL : WL σ L) (hF' : WF σ) : PU κ A MX4_wayUp 1 σ [vr A 3 q0, .int (iI n)] (.int (iI (wF σ n (lo L q0)))) := by
  intro g hh
  refine e_start rfl (by show (lg_sl _).length ≤ 4; simp [lg_sl, cat_rf, cat_i, cat_l, cat_r, cat_n]) (lv := [(0, vr A 3 q0), (1, .int (iI n))]) (by simp [lv_args, cat_rf, cat_i, cat_l, cat_r, cat_n]) ?_
  have loop : ∀ (l : List Int) (q : Int), ∀ c : Int, lo L q = l → (-1 ≤ q ∧ q < σ 99 3 0) → ((if wF σ n l < 0 then -1 else c + wF σ n l) = wF σ n (lo L q0)) → ∀ g, HR κ A g σ → Wp κ MX4_wayUp 1 0 0 4 [(0, vr A 3 q0), (1, .int (iI n)), (2, .int (iI c)), (3, vr A 3 q)] [] g (PQ κ A σ (some (.int (iI (wF σ n (lo L q0)))))) := by
    intro l
    induction l with
    | nil =>
      intro q c hl hq hm g hh
      have hq0 := lo_nil hL hq hl
      refine r_aload_nO dX4_wayUp_4 rfl rfl ?_
      refine e_ifnull 29 dX4_wayUp_5 (by decide) (fun h5 => ?_) (fun h5 => by exfalso; omega)
      refine r_pc 29 rfl ?_
      refine e_iconst dX4_wayUp_29 ?_
      exact q_iret dX4_wayUp_30 rfl (by rw [← hm]; rfl) (by assumption)
    | cons b l ih =>
      intro q c hl hq hm g hh
      obtain ⟨hq0, rfl, hl'⟩ := lo_cons hL hq hl
      have hqk : Lv σ 3 q := ⟨hq0, hq.2⟩
      have hqp := (hT.2.2 q hqk).2.2.1
      refine r_aload_nO dX4_wayUp_4 rfl rfl ?_
      refine e_ifnull 29 dX4_wayUp_5 (by decide) (fun h5 => by exfalso; omega) (fun h5 => ?_)
      refine r_pc 8 rfl ?_
      refine r_aload_nO dX4_wayUp_8 rfl rfl ?_
      refine r_iload_n dX4_wayUp_9 rfl rfl ?_
      refine e_callVP (z := MX3_has) dX4_wayUp_10 ml_X4_118 cz_X3_has mk_X3_has ms_X3_has cb3 (by decide) (s_has hqk hn ((hF' q hqk).2.1 n hn).1) rfl rfl (by simp [cat_rf, cat_i, cat_l, cat_r, cat_n]) (by decide) (by assumption) (by assumption) (fun g hh => ?_)
      refine r_pc 13 rfl ?_
      refine e_ifeq_b 18 dX4_wayUp_13 (by decide) (fun h13 => ?_) (fun h13 => ?_)
      · refine r_pc 18 rfl ?_
        refine e_iinc dX4_wayUp_18 rfl (by decide) ?_
        refine r_aload_nO dX4_wayUp_21 rfl rfl ?_
        refine e_getR (t := 3) (k := 1) (t1 := 3) 1 dX4_wayUp_22 cb3 (by decide) mf_X4_129 (by rfl) (by rfl) (by decide) rfl (by assumption) (by assumption) ?_
        refine r_astore_nO dX4_wayUp_25 rfl (by decide) ?_
        refine r_goto 4 dX4_wayUp_26 (by decide) ?_
        refine r_lv [(0, vr A 3 q0), (1, .int (iI n)), (2, .int (iI (c + 1))), (3, vr A 3 (σ 3 q 1))] rfl ?_
        exact ih _ _ hl' hqp (by have e : wF σ n (q :: l) = if wF σ n l < 0 then -1 else wF σ n l + 1 := by { rw [wF, if_pos (by omega)] }; rw [← hm, e]; repeat' split <;> omega) g hh
      · refine r_pc 16 rfl ?_
        refine r_iload_n dX4_wayUp_16 rfl rfl ?_
        exact q_iret dX4_wayUp_17 rfl (by rw [← hm, wF, if_neg h13]; simp) (by assumption)
  refine e_iconst dX4_wayUp_0 ?_
  refine r_istore_n dX4_wayUp_1 rfl (by decide) ?_
  refine r_aload_nO dX4_wayUp_2 rfl rfl ?_
  refine r_astore_nO dX4_wayUp_3 rfl (by decide) ?_
  refine r_lv [(0, vr A 3 q0), (1, .int (iI n)), (2, .int (iI 0)), (3, vr A 3 q0)] rfl ?_
  exact loop _ q0 0 rfl hq0 (by have := wF_r σ n (lo L q0); split <;> omega) g hh
theorem s_lookedAt {κ : KK} {A : Nat → Int → Nat} {σ : ST} {L : Int → List Int} {q0 n : Int} (hq0 : -1 ≤ q0 ∧ q0 < σ 99 3 0) (hn : 0 ≤ n ∧ n < 12) (hT : WT σ) (hL : WL σ L) (hF' : WF σ) : PU κ A MX4_lookedAt 2 σ [vr A 3 q0, .int (iI n)] (.int (iI (lkF σ n (lo L q0)))) := by
  intro g hh
  refine e_start rfl (by show (lg_sl _).length ≤ 3; simp [lg_sl, cat_rf, cat_i, cat_l, cat_r, cat_n]) (lv := [(0, vr A 3 q0), (1, .int (iI n))]) (by simp [lv_args, cat_rf, cat_i, cat_l, cat_r, cat_n]) ?_
  have hw := wF_r σ n (lo L q0)
  have hlen := lo_len hL hq0
  refine r_aload_nO dX4_lookedAt_0 rfl rfl ?_
  refine r_iload_n dX4_lookedAt_1 rfl rfl ?_
  refine e_callSP (z := MX4_wayUp) dX4_lookedAt_2 ml_X4_171 cz_X4_wayUp mk_X4_wayUp (s_wayUp hq0 hn hT hL hF') rfl rfl (by simp [cat_rf, cat_i, cat_l, cat_r, cat_n]) (by decide) (by assumption) (fun g hh => ?_)
  refine r_pc 5 rfl ?_
  refine r_istore_n dX4_lookedAt_5 rfl (by decide) ?_
  refine r_iload_n dX4_lookedAt_6 rfl rfl ?_
  refine e_iconst dX4_lookedAt_7 ?_
  refine e_ic_ne 18 dX4_lookedAt_8 (by decide) ⟨by omega, by omega⟩ ⟨by omega, by omega⟩ (fun h8 => ?_) (fun h8 => ?_)
  · refine r_pc 18 rfl ?_
    refine r_iload_n dX4_lookedAt_18 rfl rfl ?_
    refine e_iconst dX4_lookedAt_19 ?_
    first | refine e_iadd dX4_lookedAt_20 ?_ | refine r_iadd dX4_lookedAt_20 ?_
    exact q_iret dX4_lookedAt_21 rfl (by unfold lkF; rw [if_neg h8]) (by assumption)
  · refine r_pc 11 rfl ?_
    refine r_aload_nO dX4_lookedAt_11 rfl rfl ?_
    refine e_callSP (z := MX4_lineLength) dX4_lookedAt_12 ml_X4_278 cz_X4_lineLength mk_X4_lineLength (s_lineLength hq0 hT hL) rfl rfl (by simp [cat_rf, cat_i, cat_l, cat_r, cat_n]) (by decide) (by assumption) (fun g hh => ?_)
    refine r_pc 15 rfl ?_
    refine r_goto 21 dX4_lookedAt_15 (by decide) ?_
    exact q_iret dX4_lookedAt_21 rfl (by unfold lkF; rw [if_pos h8]) (by assumption)
def gF (σ : ST) (n : Int) (l : List Int) : Int := if hF σ n l < 0 then -1 else σ 17 (hF σ n l) n
theorem s_getterOf {κ : KK} {A : Nat → Int → Nat} {σ : ST} {L : Int → List Int} {q0 n : Int} (hq0 : -1 ≤ q0 ∧ q0 < σ 99 3 0) (hn : 0 ≤ n ∧ n < 12) (hT : WT σ) (hL : WL σ L) (hF' : WF σ) : PU κ A MX4_getterOf 2 σ [vr A 3 q0, .int (iI n)] (.int (iI (gF σ n (lo L q0)))) := by
  intro g hh
  refine e_start rfl (by show (lg_sl _).length ≤ 3; simp [lg_sl, cat_rf, cat_i, cat_l, cat_r, cat_n]) (lv := [(0, vr A 3 q0), (1, .int (iI n))]) (by simp [lv_args, cat_rf, cat_i, cat_l, cat_r, cat_n]) ?_
  refine r_aload_nO dX4_getterOf_0 rfl rfl ?_
  refine r_iload_n dX4_getterOf_1 rfl rfl ?_
  refine e_callSP (z := MX4_holderOf) dX4_getterOf_2 ml_X4_82 cz_X4_holderOf mk_X4_holderOf (s_holderOf hq0 hn hT hL hF') rfl rfl (by simp [cat_rf, cat_i, cat_l, cat_r, cat_n]) (by decide) (by assumption) (fun g hh => ?_)
  refine r_pc 5 rfl ?_
  refine r_astore_nO dX4_getterOf_5 rfl (by decide) ?_
  refine r_aload_nO dX4_getterOf_6 rfl rfl ?_
  refine e_ifnonnull 14 dX4_getterOf_7 (by decide) (fun h7 => ?_) (fun h7 => ?_)
  · refine r_pc 14 rfl ?_
    have hk := hF_lv hT hL hq0 h7
    refine r_aload_nO dX4_getterOf_14 rfl rfl ?_
    refine e_getF (t := 3) (k := 9) (t1 := 17) dX4_getterOf_15 cb3 (by decide) mf_X4_281 (by rfl) (by rfl) (by decide) (by assumption) (by assumption) ?_
    refine r_iload_n dX4_getterOf_18 rfl rfl ?_
    refine e_iald (t := 17) dX4_getterOf_19 (by decide) (by decide) (by rfl) (by intro _; rfl) (by assumption) (by first | assumption | exact lv_as 3 (by assumption) (by rfl)) (by have e : ln 17 = 12 := rfl; omega) ?_
    exact q_iret dX4_getterOf_20 rfl (by unfold gF; rw [if_neg (by omega)]) (by assumption)
  · refine r_pc 10 rfl ?_
    refine e_iconst dX4_getterOf_10 ?_
    refine r_goto 20 dX4_getterOf_11 (by decide) ?_
    exact q_iret dX4_getterOf_20 rfl (by unfold gF; rw [if_pos h7]) (by assumption)
