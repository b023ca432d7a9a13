/-! what draws numbers -/
def blw (v : Int32) (n : Nat) : Int := ((v.toBitVec.toNat % 2 ^ 31 % n : Nat) : Int)
theorem blw_r (v : Int32) {n : Nat} (h : 0 < n) : 0 ≤ blw v n ∧ blw v n < (n : Int) := by
  unfold blw
  have := Nat.mod_lt (v.toBitVec.toNat % 2 ^ 31) h
  omega
theorem blw_e (v : Int32) {n : Nat} (h : 0 < n) (h2 : n < 2 ^ 31) : (v &&& 2147483647) - (v &&& 2147483647) / nI n * nI n = iI (blw v n) := by
  rw [pk_and v (m := 2147483647) 31 (by decide), pk_rem (Nat.mod_lt _ (by decide)) h h2]
  unfold blw
  rw [iI_nI (by omega)]
  rfl
/-! one more Thing, with its six rows -/
def inT (t : Nat) : Prop := t = 3 ∨ (14 ≤ t ∧ t ≤ 19)
noncomputable def gT (A : Nat → Int → Nat) (N : Int) (B : Nat → Nat) : Nat → Int → Nat := fun t r => cI (inT t ∧ r = N) (B t) (A t r)
noncomputable def gU (σ : ST) (F : Nat → Int → Int) : ST := fun t r c => cI (t = 99 ∧ c = 0 ∧ r = 3) (σ 99 3 0 + 1) (cI (inT t ∧ r = σ 99 3 0) (F t c) (σ t r c))
theorem gU_n {σ : ST} {F : Nat → Int → Int} {t : Nat} (h : inT t) (c : Int) : gU σ F t (σ 99 3 0) c = F t c := by
  unfold gU
  rw [cI_f (by unfold inT at h; omega), cI_t ⟨h, rfl⟩]
theorem gU_c (σ : ST) (F : Nat → Int → Int) : gU σ F 99 3 0 = σ 99 3 0 + 1 := cI_t ⟨rfl, rfl, rfl⟩
theorem gU_o {σ : ST} {F : Nat → Int → Int} {t : Nat} {r c : Int} (h : ¬ (t = 99 ∧ r = 3)) (h2 : ¬ (inT t ∧ r = σ 99 3 0)) : gU σ F t r c = σ t r c := by
  unfold gU
  rw [cI_f (fun y => h ⟨y.1, y.2.2⟩), cI_f h2]
theorem gT_n {A : Nat → Int → Nat} {N : Int} {B : Nat → Nat} {t : Nat} (h : inT t) : gT A N B t N = B t := cI_t ⟨h, rfl⟩
theorem gT_o {A : Nat → Int → Nat} {N : Int} {B : Nat → Nat} {t : Nat} {r : Int} (h : ¬ (inT t ∧ r = N)) : gT A N B t r = A t r := cI_f h
theorem cnt_T {σ : ST} {t : Nat} (h : inT t) : cnt σ t = σ 99 3 0 := by
  have e : t = 3 ∨ t = 14 ∨ t = 15 ∨ t = 16 ∨ t = 17 ∨ t = 18 ∨ t = 19 := by unfold inT at h; omega
  rcases e with rfl | rfl | rfl | rfl | rfl | rfl | rfl <;> rfl
theorem dt_T {t c t' : Nat} (h : inT t) (hd : dt t c = t') (h2 : t' < 27) : t = 3 ∧ (c = 1 ∧ t' = 3 ∨ c = 2 ∧ t' = 1) := by
  have e : t = 3 ∨ t = 14 ∨ t = 15 ∨ t = 16 ∨ t = 17 ∨ t = 18 ∨ t = 19 := by unfold inT at h; omega
  rcases e with rfl | rfl | rfl | rfl | rfl | rfl | rfl
  · refine ⟨rfl, ?_⟩
    unfold dt at hd
    split at hd <;> omega
  all_goals
    unfold dt at hd
    split at hd <;> omega
theorem fx_T {t c t' : Nat} (h : inT t) (hd : fx t c = t') (h2 : t' < 27) : t = 3 ∧ t' = 8 + c ∧ 6 ≤ c ∧ c ≤ 11 := by
  have e : t = 3 ∨ t = 14 ∨ t = 15 ∨ t = 16 ∨ t = 17 ∨ t = 18 ∨ t = 19 := by unfold inT at h; omega
  rcases e with rfl | rfl | rfl | rfl | rfl | rfl | rfl
  · refine ⟨rfl, ?_⟩
    unfold fx at hd
    split at hd <;> omega
  all_goals
    unfold fx at hd
    split at hd <;> omega
theorem fx_to {t c : Nat} (ht : ¬ inT t) : ¬ inT (fx t c) := by
  unfold inT at ht ⊢
  unfold fx
  split <;> omega
theorem hr_growT {κ : KK} {A : Nat → Int → Nat} {g : GG} {σ : ST} {B : Nat → Nat} {F : Nat → Int → Int} (h : HR κ A g σ) (h0 : 0 ≤ σ 99 3 0) (hb : ∀ t, inT t → lab κ g (B t) (kd t) ∧ (6 ≤ t → gl g (B t) = ln t)) (hoff : ∀ t r t', t < 27 → Lv σ t r → inT t' → A t r ≠ B t') (hinj : ∀ t t', inT t → inT t' → B t = B t' → t = t')
    (hi : ∀ t c, inT t → isI t c = true → gi g (B t) c = iI (F t (c : Int))) (hd : ∀ c, c = 1 ∨ c = 2 → gr g (B 3) c = none ∧ F 3 (c : Int) = -1) (hf : ∀ c, 6 ≤ c → c ≤ 11 → gr g (B 3) c = some (B (8 + c))) : HR κ (gT A (σ 99 3 0) B) g (gU σ F) := by
  obtain ⟨h1, h2, h3, h4, h5, h6, h7, h8⟩ := h
  have hcnt : ∀ t, t < 27 → (inT t ∧ cnt (gU σ F) t = σ 99 3 0 + 1) ∨ (¬ inT t ∧ cnt (gU σ F) t = cnt σ t) := by
    intro t ht
    have e1 : gU σ F 99 1 0 = σ 99 1 0 := gU_o (by omega) (by unfold inT; omega)
    have e2 : gU σ F 99 25 0 = σ 99 25 0 := gU_o (by omega) (by unfold inT; omega)
    have e3 : gU σ F 99 26 0 = σ 99 26 0 := gU_o (by omega) (by unfold inT; omega)
    by_cases e : inT t
    · exact Or.inl ⟨e, by rw [cnt_T e, gU_c]⟩
    · refine Or.inr ⟨e, ?_⟩
      unfold inT at e
      unfold cnt
      split <;> first | rfl | exact e1 | exact e2 | exact e3 | omega
  have old : ∀ t r, t < 27 → Lv (gU σ F) t r → (Lv σ t r ∧ ¬ (inT t ∧ r = σ 99 3 0)) ∨ (inT t ∧ r = σ 99 3 0) := by
    intro t r ht hr
    obtain ⟨ha, hb'⟩ := hr
    rcases hcnt t ht with ⟨e, c⟩ | ⟨e, c⟩
    · rw [c] at hb'
      by_cases q : r = σ 99 3 0
      · exact Or.inr ⟨e, q⟩
      · exact Or.inl ⟨⟨ha, by rw [cnt_T e]; omega⟩, fun z => q z.2⟩
    · rw [c] at hb'
      exact Or.inl ⟨⟨ha, hb'⟩, fun z => e z.1⟩
  have sold : ∀ t r c, t < 27 → ¬ (inT t ∧ r = σ 99 3 0) → gU σ F t r c = σ t r c := fun t r c ht hn => gU_o (by omega) hn
  have rfg : ∀ t' v, t' < 27 → (-1 ≤ v ∧ v < cnt σ t') → rf (gT A (σ 99 3 0) B) t' v = rf A t' v := by
    intro t' v ht hv
    unfold rf
    rw [gT_o (fun z => by rw [cnt_T z.1] at hv; omega)]
  refine ⟨fun t r a b' => ?_, fun t r t' r' a a' b1 b2 e => ?_, fun t r c a b' e => ?_, fun t r c t' a b' e f' => ?_, fun t r c t' a b' e f' => ?_, fun c hc => ?_, fun c hc => ?_, fun t r c t' a b' e f' => ?_⟩
  · rcases old t r a b' with ⟨q, n⟩ | ⟨z, rfl⟩
    · rw [gT_o n]
      exact h1 t r a q
    · rw [gT_n z]
      exact hb t z
  · rcases old t r a b1 with ⟨q, n⟩ | ⟨z, rfl⟩
    · rcases old t' r' a' b2 with ⟨q', n'⟩ | ⟨z', rfl⟩
      · rw [gT_o n, gT_o n'] at e
        exact h2 t r t' r' a a' q q' e
      · rw [gT_o n, gT_n z'] at e
        exact absurd e (hoff t r t' a q z')
    · rcases old t' r' a' b2 with ⟨q', n'⟩ | ⟨z', rfl⟩
      · rw [gT_n z, gT_o n'] at e
        exact absurd e.symm (hoff t' r' t a' q' z)
      · rw [gT_n z, gT_n z'] at e
        exact ⟨hinj t t' z z' e, rfl⟩
  · rcases old t r a b' with ⟨q, n⟩ | ⟨z, rfl⟩
    · rw [gT_o n, sold t r c a n]
      exact h3 t r c a q e
    · rw [gT_n z, gU_n z]
      exact hi t c z e
  · rcases old t r a b' with ⟨q, n⟩ | ⟨z, rfl⟩
    · rw [gT_o n, sold t r c a n, rfg t' _ f' (h8 t r c t' a q e f')]
      exact h4 t r c t' a q e f'
    · obtain ⟨rfl, hc⟩ := dt_T z e f'
      rw [gT_n z, gU_n z]
      have hc2 : c = 1 ∨ c = 2 := by omega
      rw [(hd c hc2).1, (hd c hc2).2, rf_none (by decide)]
  · rcases old t r a b' with ⟨q, n⟩ | ⟨z, rfl⟩
    · have n2 : ¬ (inT t' ∧ r = σ 99 3 0) := by
        rintro ⟨y1, y2⟩
        by_cases y : inT t
        · exact n ⟨y, y2⟩
        · exact fx_to y (by rw [e]; exact y1)
      rw [gT_o n, gT_o n2]
      exact h5 t r c t' a q e f'
    · obtain ⟨rfl, hc, c1, c2⟩ := fx_T z e f'
      rw [gT_n z, gT_n (by unfold inT; omega), hf c c1 c2, hc]
  · rw [gT_o (by unfold inT; omega), gT_o (by unfold inT; omega)]
    exact h6 c hc
  · rw [gT_o (by unfold inT; omega), gT_o (by unfold inT; omega)]
    exact h7 c hc
  · rcases old t r a b' with ⟨q, n⟩ | ⟨z, rfl⟩
    · rw [sold t r c a n]
      have w := h8 t r c t' a q e f'
      rcases hcnt t' f' with ⟨y, y2⟩ | ⟨y, y2⟩
      · rw [y2]
        rw [cnt_T y] at w
        omega
      · rw [y2]
        exact w
    · obtain ⟨rfl, hc⟩ := dt_T z e f'
      rw [gU_n z, (hd c (by omega)).2]
      refine ⟨by omega, ?_⟩
      rcases hcnt t' f' with ⟨y, y2⟩ | ⟨y, y2⟩
      · rw [y2]
        omega
      · rw [y2]
        have : t' = 1 := by unfold inT at y; omega
        subst this
        -- the book's count isn't below 0
        have w := h8 10 0 0 1 (by decide) ⟨Int.le_refl 0, by show (0 : Int) < 1; omega⟩ rfl (by decide)
        omega
/-- a Thing under its constructor: m of its rows are there -/
def TI (κ : KK) (A : Nat → Int → Nat) (g : GG) (σ : ST) (b m : Nat) (B : Nat → Nat) : Prop := HR κ A g σ ∧ lab κ g b 3 ∧ (∀ t r, t < 27 → Lv σ t r → A t r ≠ b) ∧ (∀ c, gi g b c = 0) ∧ (∀ c, gr g b c = if 6 ≤ c ∧ c < 6 + m then some (B c) else none) ∧ (∀ i, 6 ≤ i → i < 6 + m → lab κ g (B i) 6 ∧ gl g (B i) = 12 ∧ (∀ t r, t < 27 → Lv σ t r → A t r ≠ B i) ∧ B i ≠ b ∧ ∀ c, gi g (B i) c = 0) ∧ (∀ i j, 6 ≤ i → i < 6 + m → 6 ≤ j → j < 6 + m → B i = B j → i = j)
def TA (κ : KK) (A : Nat → Int → Nat) (g : GG) (σ : ST) (b m : Nat) (B : Nat → Nat) (a : Nat) : Prop := TI κ A g σ b m B ∧ lab κ g a 6 ∧ gl g a = 12 ∧ (∀ t r, t < 27 → Lv σ t r → A t r ≠ a) ∧ a ≠ b ∧ (∀ c, gi g a c = 0) ∧ ∀ i, 6 ≤ i → i < 6 + m → B i ≠ a
section TIR
variable {κ : KK} {y : MY} {d kc ks pc : Nat} {lv : List (Nat × Value)} {st : List Value} {g : GG} {Q : Option Value → GG → Prop} {A : Nat → Int → Nat} {σ : ST}
theorem e_tinew {b m kc' ks' : Nat} {B : Nat → Nat} (hd : decode y.2.1 pc = .ok (.newarray .int, 2)) (hN : TI κ A g σ b m B) (hmc : 1 + kc' ≤ kc) (hms : 12 + ks' ≤ ks) (kk : ∀ (g' : GG) (a : Nat), TA κ A g' σ b m B a → Wp κ y d kc' ks' (pc + 2) lv (.ref a :: st) g' Q) : Wp κ y d kc ks pc lv (.int (iI 12) :: st) g Q := by
  obtain ⟨h1, h2, h3, h4, h5, h6, h7⟩ := hN
  refine r_newI (n := 12) (x := iI 12) 6 hd rfl (by decide) rfl hmc hms ?_
  have hbn : b ≠ gn g := by have := h2.2.1; omega
  have hgn := (hr_lab h1 (t := 2) (r := 0) (by decide) (lv1 _ 2 (fun _ => rfl)))
  refine kk _ (gn g) ⟨⟨hr_new h1 6 12, lab_new h2, h3, fun c => by rw [gi_nw hbn]; exact h4 c, fun c => by rw [gr_nw hbn]; exact h5 c, fun i a1 a2 => ?_, h7⟩, lab_new_at (by have := hgn.1; have := hgn.2.1; omega) rfl, gl_new_at g 6 12, fun t r a e => by have := (hr_lab h1 a e).2.1; omega, Ne.symm hbn, fun c => by rw [gi_new_at], fun i a1 a2 => by have := (h6 i a1 a2).1.2.1; omega⟩
  obtain ⟨q1, q2, q3, q4, q5⟩ := h6 i a1 a2
  have hin : B i ≠ gn g := by have := q1.2.1; omega
  exact ⟨lab_new q1, by rw [gl_nw hin]; exact q2, q3, q4, fun c => by rw [gi_nw hin]; exact q5 c⟩
theorem ti_put {b m a : Nat} {B : Nat → Nat} (hN : TA κ A g σ b m B a) : TI κ A (setR g b (6 + m) (some a)) σ b (m + 1) (fun i => if i = 6 + m then a else B i) := by
  obtain ⟨⟨h1, h2, h3, h4, h5, h6, h7⟩, k1, k2, k3, k4, k5, k6⟩ := hN
  refine ⟨hr_offR h1 h3 _, h2, h3, h4, fun c => ?_, fun i a1 a2 => ?_, fun i j a1 a2 b1 b2 => ?_⟩
  · rw [gr_setR_at, h5 c]
    by_cases z : c = 6 + m
    · rw [if_pos z, if_pos (by omega)]
      exact congrArg some (if_pos z).symm
    · rw [if_neg z]
      by_cases y : 6 ≤ c ∧ c < 6 + m
      · rw [if_pos y, if_pos (by omega)]
        exact congrArg some (if_neg z).symm
      · rw [if_neg y, if_neg (by omega)]
  · by_cases z : i = 6 + m
    · simp only [if_pos z]
      exact ⟨k1, k2, k3, k4, k5⟩
    · simp only [if_neg z]
      exact h6 i a1 (by omega)
  · by_cases z : i = 6 + m
    · by_cases y : j = 6 + m
      · intro _; omega
      · simp only [if_pos z, if_neg y]
        exact fun e => absurd e.symm (k6 j b1 (by omega))
    · by_cases y : j = 6 + m
      · simp only [if_neg z, if_pos y]
        exact fun e => absurd e (k6 i a1 (by omega))
      · simp only [if_neg z, if_neg y]
        exact h7 i j a1 (by omega) b1 (by omega)
theorem e_tiput {b m a t k idx N : Nat} {B : Nat → Nat} {C : String} {T : u_T} {ty0 : Nat → FieldType} {ty : FieldType} (hd : decode y.2.1 pc = .ok (.putfield idx, 3)) (hb : CB t C T N ty0) (hk : k < N) (hm : Cond.fieldLink y.1.cls idx (T k).1 (T k).2.1 (T k).2.2.1 ∈ AL) (hfin : (T k).2.2.2 = true) (hyn : y.1.name = "<init>") (hdecl : (T k).1 = y.1.cls) (hte : ty0 k = ty) (hn : ∀ z, narrow ty (va_rf z) = va_rf z) (hfit : ∀ z, fits ty (va_rf z) = true) (hi : isRf t k = true) (ht3 : t = 3) (hkm : k = 6 + m) (hN : TA κ A g σ b m B a)
    (kk : ∀ (g' : GG) (B' : Nat → Nat), TI κ A g' σ b (m + 1) B' → Wp κ y d kc ks (pc + 3) lv st g' Q) : Wp κ y d kc ks pc lv (.ref a :: .ref b :: st) g Q := by
  subst ht3
  subst hkm
  exact e_putXFR (x := some a) hd hb hk hm hfin hyn hdecl hte hn hfit hi hN.1.2.1 hN.1.2.2.1 hN.1.1 (fun _ => kk _ _ (ti_put hN))
end TIR
theorem s_below {κ : KK} {A : Nat → Int → Nat} {σ : ST} {v : Int32} {n : Nat} (hn : 0 < n) (hn2 : n ≤ 16384) : PU κ A ML_below 0 σ [.int v, .int (iI (n : Int))] (.int (iI (blw v n))) := by
  intro g hh
  refine e_start rfl (by show (lg_sl _).length ≤ 2; simp [lg_sl, cat_rf, cat_i, cat_l, cat_r, cat_n]) (lv := [(0, .int v), (1, .int (iI (n : Int)))]) (by simp [lv_args, cat_rf, cat_i, cat_l, cat_r, cat_n]) ?_
  have hz : ¬ iI (n : Int) = 0 := fun e => by
    have h2 := (iI_eq (a := (n : Int)) (b := 0) ⟨by omega, by omega⟩ ⟨by omega, by omega⟩).mp e
    omega
  refine r_iload_n dL_below_0 rfl rfl ?_
  refine r_ldc dL_below_1 md_L_7 ?_
  refine r_iand dL_below_3 ?_
  refine r_iload_n dL_below_4 rfl rfl ?_
  refine r_irem dL_below_5 (by assumption) ?_
  refine r_iv (show _ = iI (blw v n) by rw [iI_nI (v := (n : Int)) (by omega)]; exact blw_e v hn (by omega)) ?_
  exact q_iret dL_below_6 rfl (by rfl) (by assumption)
theorem s_belowg {κ : KK} {A : Nat → Int → Nat} {σ : ST} {v : Int32} {n : Nat} (hn : 0 < n) (hn2 : n ≤ 16384) : PG κ A ML_below 0 σ [.int v, .int (iI (n : Int))] (.int (iI (blw v n))) := by
  intro g hh
  refine e_start rfl (by show (lg_sl _).length ≤ 2; simp [lg_sl, cat_rf, cat_i, cat_l, cat_r, cat_n]) (lv := [(0, .int v), (1, .int (iI (n : Int)))]) (by simp [lv_args, cat_rf, cat_i, cat_l, cat_r, cat_n]) ?_
  have hz : ¬ iI (n : Int) = 0 := fun e => by
    have h2 := (iI_eq (a := (n : Int)) (b := 0) ⟨by omega, by omega⟩ ⟨by omega, by omega⟩).mp e
    omega
  refine r_iload_n dL_below_0 rfl rfl ?_
  refine r_ldc dL_below_1 md_L_7 ?_
  refine r_iand dL_below_3 ?_
  refine r_iload_n dL_below_4 rfl rfl ?_
  refine r_irem dL_below_5 (by assumption) ?_
  refine r_iv (show _ = iI (blw v n) by rw [iI_nI (v := (n : Int)) (by omega)]; exact blw_e v hn (by omega)) ?_
  exact q_iretG dL_below_6 rfl (by rfl)
