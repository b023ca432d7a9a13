/-! THE TYPED HEAP: a table t, a row r of it, a column c: an int. References are rows of a table that the column names, -1 is null. Tables: 0 Places, 1 Shapes, 2 the book, 3 Things, 4 the court, 5 the law's own; 6 things[], 7 places[], 8 addends, 9 list, 10 shapes[] of the book, 11 shapes[] 12 names[] 13 ways[] of a Place, 14 order 15 traits 16 values 17 getters 18 setters 19 addends of a Thing, 20 parents 21 fields (outer) 22 fields (inner) 23 sizes 24 areShut 25 the rows of fields, 26 the rows in which the law counts. Table 99 holds how many rows the tables 1, 3, 25, 26 have. -/
abbrev ST : Type := Nat → Int → Int → Int
def iI (v : Int) : Int32 := Int32.ofInt v
abbrev R32 (v : Int) : Prop := -2147483648 ≤ v ∧ v < 2147483648
theorem iI_toInt {v : Int} (h : R32 v) : (iI v).toInt = v := Int32.toInt_ofInt_of_le h.1 h.2
theorem iI_add (a b : Int) : iI a + iI b = iI (a + b) := (Int32.ofInt_add a b).symm
theorem iI_sub (a b : Int) : iI a - iI b = iI (a - b) := (Int32.ofInt_sub a b).symm
theorem iI_mul (a b : Int) : iI a * iI b = iI (a * b) := (Int32.ofInt_mul a b).symm
theorem iI_lt {a b : Int} (ha : R32 a) (hb : R32 b) : iI a < iI b ↔ a < b := by rw [Int32.lt_iff_toInt_lt, iI_toInt ha, iI_toInt hb]
theorem iI_le {a b : Int} (ha : R32 a) (hb : R32 b) : iI a ≤ iI b ↔ a ≤ b := by rw [Int32.le_iff_toInt_le, iI_toInt ha, iI_toInt hb]
theorem iI_eq {a b : Int} (ha : R32 a) (hb : R32 b) : iI a = iI b ↔ a = b := by rw [← Int32.toInt_inj, iI_toInt ha, iI_toInt hb]
theorem iI_nI {v : Int} (h : 0 ≤ v) : iI v = nI v.toNat := by
  obtain ⟨n, rfl⟩ := Int.eq_ofNat_of_zero_le h
  exact Int32.ofInt_eq_ofNat
theorem iI_of (x : Int32) : ∃ v : Int, R32 v ∧ x = iI v := ⟨x.toInt, ⟨Int32.le_toInt x, Int32.toInt_lt x⟩, (Int32.ofInt_toInt x).symm⟩
/-- a truth value as an int -/
noncomputable def bI (p : Prop) : Int := @ite Int p (Classical.propDecidable p) 1 0
theorem bI_t {p : Prop} (h : p) : bI p = 1 := if_pos h
theorem bI_f {p : Prop} (h : ¬ p) : bI p = 0 := if_neg h
theorem bI_01 (p : Prop) : bI p = 0 ∨ bI p = 1 := by
  by_cases h : p
  · exact Or.inr (bI_t h)
  · exact Or.inl (bI_f h)
theorem bI_eq {p q : Prop} (h : p ↔ q) : bI p = bI q := by rw [propext h]
theorem narrow_01 {v : Int} (h : v = 0 ∨ v = 1) : narrow .boolean (.int (iI v)) = .int (iI v) := by
  rcases h with rfl | rfl <;> decide +kernel
def up (σ : ST) (t : Nat) (r c v : Int) : ST := fun t' r' c' => if t' = t ∧ c' = c ∧ r' = r then v else σ t' r' c'
def rf (A : Nat → Int → Nat) (t : Nat) (v : Int) : Option Nat := if v < 0 then none else some (A t v)
abbrev vr (A : Nat → Int → Nat) (t : Nat) (v : Int) : Value := va_rf (rf A t v)
theorem rf_some {A : Nat → Int → Nat} {t : Nat} {v : Int} (h : 0 ≤ v) : rf A t v = some (A t v) := if_neg (by omega)
theorem rf_none {A : Nat → Int → Nat} {t : Nat} {v : Int} (h : v < 0) : rf A t v = none := if_pos h
theorem vr_some {A : Nat → Int → Nat} {t : Nat} {v : Int} (h : 0 ≤ v) : vr A t v = .ref (A t v) := by rw [vr, rf_some h]; rfl
theorem vr_none {A : Nat → Int → Nat} {t : Nat} {v : Int} (h : v < 0) : vr A t v = .null := by rw [vr, rf_none h]; rfl
/-- the kinds of the tables' cells -/
def kd : Nat → Nat
  | 0 => 0
  | 1 => 1
  | 2 => 2
  | 3 => 3
  | 4 => 4
  | 5 => 5
  | 6 => 10
  | 7 => 8
  | 8 => 6
  | 9 => 6
  | 10 => 9
  | 11 => 9
  | 12 => 6
  | 13 => 6
  | 14 => 6
  | 15 => 6
  | 16 => 6
  | 17 => 6
  | 18 => 6
  | 19 => 6
  | 20 => 6
  | 21 => 12
  | 22 => 11
  | 23 => 6
  | 24 => 7
  | _ => 6
/-- the lengths of the tables' arrays -/
def ln : Nat → Nat
  | 6 => 24
  | 7 => 6
  | 8 => 6
  | 9 => 12
  | 10 => 80
  | 11 => 3
  | 12 => 3
  | 13 => 3
  | 20 => 24
  | 21 => 24
  | 23 => 24
  | 24 => 24
  | 25 => 7
  | 26 => 80
  | _ => 12
/-- how many rows a table has -/
def cnt (σ : ST) : Nat → Int
  | 0 => 6
  | 1 => σ 99 1 0
  | 2 => 1
  | 3 => σ 99 3 0
  | 4 => 1
  | 5 => 1
  | 6 => 1
  | 7 => 1
  | 8 => 1
  | 9 => 1
  | 10 => 1
  | 11 => 6
  | 12 => 6
  | 13 => 6
  | 14 => σ 99 3 0
  | 15 => σ 99 3 0
  | 16 => σ 99 3 0
  | 17 => σ 99 3 0
  | 18 => σ 99 3 0
  | 19 => σ 99 3 0
  | 20 => 1
  | 21 => 1
  | 22 => 24
  | 23 => 1
  | 24 => 1
  | 25 => σ 99 25 0
  | _ => σ 99 26 0
/-- int columns -/
def isI (t c : Nat) : Bool := match t with
  | 0 => isIf 0 c
  | 1 => isIf 1 c
  | 2 => isIf 2 c
  | 3 => isIf 3 c
  | 4 => isIf 4 c
  | 5 => isIf 5 c
  | 12 => true
  | 13 => true
  | 14 => true
  | 15 => true
  | 16 => true
  | 17 => true
  | 18 => true
  | 19 => true
  | 20 => true
  | 23 => true
  | 24 => true
  | 25 => true
  | 26 => true
  | _ => false
/-- columns of references: to which table (99: not one) -/
def dt : Nat → Nat → Nat
  | 1, 1 => 1
  | 1, 2 => 3
  | 3, 1 => 3
  | 3, 2 => 1
  | 6, _ => 3
  | 10, _ => 1
  | 11, _ => 1
  | 22, _ => 25
  | _, _ => 99
/-- columns that hold the same row of another table, for good -/
def fx : Nat → Nat → Nat
  | 0, 1 => 11
  | 0, 2 => 12
  | 0, 3 => 13
  | 2, 0 => 10
  | 3, 6 => 14
  | 3, 7 => 15
  | 3, 8 => 16
  | 3, 9 => 17
  | 3, 10 => 18
  | 3, 11 => 19
  | 4, 0 => 6
  | 4, 2 => 2
  | 4, 3 => 7
  | 4, 4 => 8
  | 4, 5 => 9
  | 5, 0 => 20
  | 5, 1 => 21
  | 5, 2 => 23
  | 5, 3 => 24
  | _, _ => 99
def Lv (σ : ST) (t : Nat) (r : Int) : Prop := 0 ≤ r ∧ r < cnt σ t
def HR (κ : KK) (A : Nat → Int → Nat) (g : GG) (σ : ST) : Prop :=
  (∀ t r, t < 27 → Lv σ t r → lab κ g (A t r) (kd t) ∧ (6 ≤ t → gl g (A t r) = ln t)) ∧
  (∀ t r t' r', t < 27 → t' < 27 → Lv σ t r → Lv σ t' r' → A t r = A t' r' → t = t' ∧ r = r') ∧
  (∀ (t : Nat) (r : Int) (c : Nat), t < 27 → Lv σ t r → isI t c = true → gi g (A t r) c = iI (σ t r c)) ∧
  (∀ (t : Nat) (r : Int) (c t' : Nat), t < 27 → Lv σ t r → dt t c = t' → t' < 27 → gr g (A t r) c = rf A t' (σ t r c)) ∧
  (∀ (t : Nat) (r : Int) (c t' : Nat), t < 27 → Lv σ t r → fx t c = t' → t' < 27 → gr g (A t r) c = some (A t' r)) ∧
  (∀ c : Nat, c < 6 → gr g (A 7 0) c = some (A 0 c)) ∧ (∀ c : Nat, c < 24 → gr g (A 21 0) c = some (A 22 c)) ∧
  (∀ (t : Nat) (r : Int) (c t' : Nat), t < 27 → Lv σ t r → dt t c = t' → t' < 27 → -1 ≤ σ t r c ∧ σ t r c < cnt σ t')
theorem cnt_up {σ : ST} {t : Nat} {r c v : Int} (h : t < 27) (t' : Nat) : cnt (up σ t r c v) t' = cnt σ t' := by
  have e1 : up σ t r c v 99 1 0 = σ 99 1 0 := if_neg (by omega)
  have e2 : up σ t r c v 99 3 0 = σ 99 3 0 := if_neg (by omega)
  have e3 : up σ t r c v 99 25 0 = σ 99 25 0 := if_neg (by omega)
  have e4 : up σ t r c v 99 26 0 = σ 99 26 0 := if_neg (by omega)
  unfold cnt
  rw [e1, e2, e3, e4]
theorem Lv_up {σ : ST} {t : Nat} {r c v : Int} (h : t < 27) {t' : Nat} {r' : Int} : Lv (up σ t r c v) t' r' ↔ Lv σ t' r' := by
  unfold Lv; rw [cnt_up h]
section HRS
variable {κ : KK} {A : Nat → Int → Nat} {g : GG} {σ : ST}
theorem gi_setI_ne {a k b : Nat} {v : Int32} (h : b ≠ a) : gi (setI g a k v) b = gi g b := up2_ne h
theorem gr_setR_ne {a k b : Nat} {v : Option Nat} (h : b ≠ a) : gr (setR g a k v) b = gr g b := up2_ne h
theorem gi_setI_at (a k j : Nat) (v : Int32) : gi (setI g a k v) a j = if j = k then v else gi g a j := by
  show up2 (gi g) a k v a j = _
  simp [up2]
theorem gr_setR_at (a k j : Nat) (v : Option Nat) : gr (setR g a k v) a j = if j = k then v else gr g a j := by
  show up2 (gr g) a k v a j = _
  simp [up2]
theorem isI_dt {t c : Nat} (h : isI t c = true) : dt t c = 99 := by
  unfold isI at h
  split at h
  all_goals first
    | rfl
    | (unfold isIf at h
       split at h
       all_goals first | rfl | omega | cases h)
    | cases h
theorem up_at (σ : ST) (t : Nat) (r c v : Int) : up σ t r c v t r c = v := if_pos ⟨rfl, rfl, rfl⟩
theorem up_ne {t t' : Nat} {r c v r' c' : Int} (h : ¬ (t' = t ∧ r' = r ∧ c' = c)) : up σ t r c v t' r' c' = σ t' r' c' := if_neg fun q => h ⟨q.1, q.2.2, q.2.1⟩
theorem hr_setI (h : HR κ A g σ) {t : Nat} {r : Int} {c : Nat} (ht : t < 27) (hr : Lv σ t r) (hi : isI t c = true) (v : Int) : HR κ A (setI g (A t r) c (iI v)) (up σ t r c v) := by
  obtain ⟨h1, h2, h3, h4, h5, h6, h7, h8⟩ := h
  refine ⟨fun t' r' a b => h1 t' r' a ((Lv_up ht).mp b), fun t' r' t2 r2 a1 a2 b1 b2 => h2 t' r' t2 r2 a1 a2 ((Lv_up ht).mp b1) ((Lv_up ht).mp b2), fun t' r' c' a b e => ?_, fun t' r' c' t2 a b e f => ?_, fun t' r' c' t2 a b e f => h5 t' r' c' t2 a ((Lv_up ht).mp b) e f, h6, h7, fun t' r' c' t2 a b e f => ?_⟩
  · have b' := (Lv_up ht).mp b
    by_cases hq : A t' r' = A t r
    · obtain ⟨rfl, rfl⟩ := h2 _ _ _ _ a ht b' hr hq
      rw [gi_setI_at]
      by_cases hc : c' = c
      · subst hc
        rw [if_pos rfl, up_at]
      · rw [if_neg hc, h3 _ _ _ a b' e, up_ne (by omega)]
    · rw [gi_setI_ne hq, h3 _ _ _ a b' e, up_ne]
      rintro ⟨rfl, rfl, -⟩
      exact hq rfl
  · have b' := (Lv_up ht).mp b
    have e1 : gr (setI g (A t r) c (iI v)) (A t' r') c' = gr g (A t' r') c' := rfl
    rw [e1, h4 _ _ _ _ a b' e f, up_ne]
    rintro ⟨rfl, rfl, hc⟩
    have : c' = c := by omega
    subst this
    rw [isI_dt hi] at e
    omega
  · have b' := (Lv_up ht).mp b
    rw [cnt_up ht, up_ne]
    · exact h8 t' r' c' t2 a b' e f
    · rintro ⟨rfl, rfl, hc⟩
      have : c' = c := by omega
      subst this
      rw [isI_dt hi] at e
      omega
theorem hr_setR (h : HR κ A g σ) {t t1 : Nat} {r : Int} {c : Nat} (ht : t < 27) (hr : Lv σ t r) (hd : dt t c = t1) (h1t : t1 < 27) (hn : isI t c = false) (hx : fx t c = 99) (hx7 : t ≠ 7) (hx21 : t ≠ 21) (v : Int) (hv : -1 ≤ v ∧ v < cnt σ t1) : HR κ A (setR g (A t r) c (rf A t1 v)) (up σ t r c v) := by
  have hh := h
  obtain ⟨h1, h2, h3, h4, h5, h6, h7, h8⟩ := h
  have one (s : ST) : Lv s 7 0 := ⟨Int.le_refl 0, by show (0 : Int) < 1; omega⟩
  have one2 (s : ST) : Lv s 21 0 := ⟨Int.le_refl 0, by show (0 : Int) < 1; omega⟩
  refine ⟨fun t' r' a b => h1 t' r' a ((Lv_up ht).mp b), fun t' r' t2 r2 a1 a2 b1 b2 => h2 t' r' t2 r2 a1 a2 ((Lv_up ht).mp b1) ((Lv_up ht).mp b2), fun t' r' c' a b e => ?_, fun t' r' c' t2 a b e f => ?_, fun t' r' c' t2 a b e f => ?_, fun c' hc => ?_, fun c' hc => ?_, fun t' r' c' t2 a b e f => ?_⟩
  · have b' := (Lv_up ht).mp b
    have e1 : gi (setR g (A t r) c (rf A t1 v)) (A t' r') c' = gi g (A t' r') c' := rfl
    rw [e1, h3 _ _ _ a b' e, up_ne]
    rintro ⟨rfl, rfl, hc⟩
    have : c' = c := by omega
    subst this
    rw [hn] at e
    cases e
  · have b' := (Lv_up ht).mp b
    by_cases hq : A t' r' = A t r
    · obtain ⟨rfl, rfl⟩ := h2 _ _ _ _ a ht b' hr hq
      rw [gr_setR_at]
      by_cases hc : c' = c
      · subst hc
        rw [if_pos rfl, up_at, ← e, ← hd]
      · rw [if_neg hc, h4 _ _ _ _ a b' e f, up_ne (by omega)]
    · rw [gr_setR_ne hq, h4 _ _ _ _ a b' e f, up_ne]
      rintro ⟨rfl, rfl, -⟩
      exact hq rfl
  · have b' := (Lv_up ht).mp b
    by_cases hq : A t' r' = A t r
    · obtain ⟨rfl, rfl⟩ := h2 _ _ _ _ a ht b' hr hq
      rw [gr_setR_at, if_neg, h5 _ _ _ _ a b' e f]
      rintro rfl
      omega
    · rw [gr_setR_ne hq, h5 _ _ _ _ a b' e f]
  · have hq : A 7 0 ≠ A t r := fun hq => hx7 (h2 7 0 t r (by decide) ht (one σ) hr hq).1.symm
    rw [gr_setR_ne hq, h6 c' hc]
  · have hq : A 21 0 ≠ A t r := fun hq => hx21 (h2 21 0 t r (by decide) ht (one2 σ) hr hq).1.symm
    rw [gr_setR_ne hq, h7 c' hc]
  · have b' := (Lv_up ht).mp b
    rw [cnt_up ht]
    by_cases hq : t' = t ∧ r' = r ∧ (c' : Int) = c
    · obtain ⟨rfl, rfl, hc⟩ := hq
      have : c' = c := by omega
      subst this
      rw [up_at, ← e, hd]
      exact hv
    · rw [up_ne hq]
      exact h8 t' r' c' t2 a b' e f
/-- a store into a scratch row -/
theorem hr_scr (h : HR κ A g σ) {t : Nat} {r : Int} {c : Nat} (ht : t < 27) (hr : Lv σ t r) (hi : ∀ c, isI t c = false) (x : Int32) : HR κ A (setI g (A t r) c x) σ := by
  obtain ⟨h1, h2, h3, h4, h5, h6, h7, h8⟩ := h
  refine ⟨h1, h2, fun t' r' c' a b e => ?_, h4, h5, h6, h7, h8⟩
  by_cases hq : A t' r' = A t r
  · obtain ⟨rfl, rfl⟩ := h2 _ _ _ _ a ht b hr hq
    rw [hi] at e
    cases e
  · rw [gi_setI_ne hq, h3 _ _ _ a b e]
/-- a store into a cell that is no table's -/
theorem hr_offI (h : HR κ A g σ) {a k : Nat} (ha : ∀ t r, t < 27 → Lv σ t r → A t r ≠ a) (x : Int32) : HR κ A (setI g a k x) σ := by
  obtain ⟨h1, h2, h3, h4, h5, h6, h7, h8⟩ := h
  refine ⟨h1, h2, fun t' r' c' a b e => ?_, h4, h5, h6, h7, h8⟩
  rw [gi_setI_ne (ha _ _ a b), h3 _ _ _ a b e]
theorem hr_offR (h : HR κ A g σ) {a k : Nat} (ha : ∀ t r, t < 27 → Lv σ t r → A t r ≠ a) (x : Option Nat) : HR κ A (setR g a k x) σ := by
  obtain ⟨h1, h2, h3, h4, h5, h6, h7, h8⟩ := h
  have one (s : ST) : Lv s 7 0 := ⟨Int.le_refl 0, by show (0 : Int) < 1; omega⟩
  have one2 (s : ST) : Lv s 21 0 := ⟨Int.le_refl 0, by show (0 : Int) < 1; omega⟩
  refine ⟨h1, h2, h3, fun t' r' c' t2 a b e f => ?_, fun t' r' c' t2 a b e f => ?_, fun c' hc => ?_, fun c' hc => ?_, h8⟩
  · rw [gr_setR_ne (ha _ _ a b), h4 _ _ _ _ a b e f]
  · rw [gr_setR_ne (ha _ _ a b), h5 _ _ _ _ a b e f]
  · rw [gr_setR_ne (ha 7 0 (by decide) (one σ)), h6 c' hc]
  · rw [gr_setR_ne (ha 21 0 (by decide) (one2 σ)), h7 c' hc]
theorem hr_new (h : HR κ A g σ) (lb len : Nat) : HR κ A (newG g lb len) σ := by
  obtain ⟨h1, h2, h3, h4, h5, h6, h7, h8⟩ := h
  have one (s : ST) : Lv s 7 0 := ⟨Int.le_refl 0, by show (0 : Int) < 1; omega⟩
  have one2 (s : ST) : Lv s 21 0 := ⟨Int.le_refl 0, by show (0 : Int) < 1; omega⟩
  have off : ∀ t r, t < 27 → Lv σ t r → A t r ≠ gn g := fun t r a b e => by
    have := (h1 t r a b).1.2.1
    omega
  refine ⟨fun t r a b => ⟨lab_new (h1 t r a b).1, fun h6 => by rw [gl_nw (off t r a b)]; exact (h1 t r a b).2 h6⟩, h2, fun t' r' c' a b e => ?_, fun t' r' c' t2 a b e f => ?_, fun t' r' c' t2 a b e f => ?_, fun c' hc => ?_, fun c' hc => ?_, h8⟩
  · rw [gi_nw (off _ _ a b), h3 _ _ _ a b e]
  · rw [gr_nw (off _ _ a b), h4 _ _ _ _ a b e f]
  · rw [gr_nw (off _ _ a b), h5 _ _ _ _ a b e f]
  · rw [gr_nw (off 7 0 (by decide) (one σ)), h6 c' hc]
  · rw [gr_nw (off 21 0 (by decide) (one2 σ)), h7 c' hc]
theorem hr_lab (h : HR κ A g σ) {t : Nat} {r : Int} (ht : t < 27) (hr : Lv σ t r) : lab κ g (A t r) (kd t) := (h.1 t r ht hr).1
theorem hr_len (h : HR κ A g σ) {t : Nat} {r : Int} (ht : t < 27) (hr : Lv σ t r) (h6 : 6 ≤ t) : gl g (A t r) = ln t := (h.1 t r ht hr).2 h6
theorem rf_inj (h : HR κ A g σ) {t : Nat} {v w : Int} (ht : t < 27) (hv : -1 ≤ v ∧ v < cnt σ t) (hw : -1 ≤ w ∧ w < cnt σ t) : rf A t v = rf A t w ↔ v = w := by
  by_cases h1 : v < 0
  · by_cases h2 : w < 0
    · rw [rf_none h1, rf_none h2]
      exact ⟨fun _ => by omega, fun _ => rfl⟩
    · rw [rf_none h1, rf_some (by omega)]
      exact ⟨fun e => (by cases e), fun e => (by omega)⟩
  · by_cases h2 : w < 0
    · rw [rf_none h2, rf_some (by omega)]
      exact ⟨fun e => (by cases e), fun e => (by omega)⟩
    · rw [rf_some (by omega), rf_some (by omega)]
      exact ⟨fun e => (h.2.1 _ _ _ _ ht ht ⟨by omega, hv.2⟩ ⟨by omega, hw.2⟩ (Option.some.inj e)).2, fun e => by rw [e]⟩
end HRS
