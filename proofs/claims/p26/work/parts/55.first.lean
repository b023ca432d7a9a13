/-! the tables at the law's first step -/
def sg0 : ST := fun t _ _ => if t = 6 ∨ t = 10 ∨ t = 11 ∨ t = 22 then -1 else 0
def cnN : Nat → Nat
  | 0 => 6
  | 1 => 0
  | 3 => 0
  | 11 => 6
  | 12 => 6
  | 13 => 6
  | 14 => 0
  | 15 => 0
  | 16 => 0
  | 17 => 0
  | 18 => 0
  | 19 => 0
  | 22 => 24
  | 25 => 0
  | 26 => 0
  | _ => 1
def oO (t r : Nat) : Nat := match t with
  | 0 => 7 + 4 * r
  | 2 => 2
  | 4 => 0
  | 5 => 31
  | 6 => 1
  | 7 => 4
  | 8 => 5
  | 9 => 6
  | 10 => 3
  | 11 => 7 + 4 * r + 1
  | 12 => 7 + 4 * r + 2
  | 13 => 7 + 4 * r + 3
  | 20 => 32
  | 21 => 33
  | 22 => 34 + r
  | 23 => 58
  | 24 => 59
  | _ => 0
def iO (o : Nat) : Nat × Nat :=
  if o < 7 then (match o with | 0 => (4, 0) | 1 => (6, 0) | 2 => (2, 0) | 3 => (10, 0) | 4 => (7, 0) | 5 => (8, 0) | _ => (9, 0))
  else if o < 31 then ((match (o - 7) % 4 with | 0 => 0 | 1 => 11 | 2 => 12 | _ => 13), (o - 7) / 4)
  else if o = 31 then (5, 0) else if o = 32 then (20, 0) else if o = 33 then (21, 0) else if o < 58 then (22, o - 34) else if o = 58 then (23, 0) else (24, 0)
theorem sg_cnt : ∀ t, t < 27 → cnt sg0 t = (cnN t : Int) := by decide +kernel
theorem sg_tab : ∀ t, t < 27 → ∀ r, r < 24 → r < cnN t → oO t r < 60 ∧ lbO (oO t r) % 32 = kd t ∧ (6 ≤ t → lnO (oO t r) = ln t) ∧ iO (oO t r) = (t, r) := by decide +kernel
theorem sg_24 : ∀ t, t < 27 → cnN t ≤ 24 := by decide +kernel
theorem sg_lv {t : Nat} {r : Int} (ht : t < 27) (h : Lv sg0 t r) : ∃ n : Nat, r = (n : Int) ∧ n < cnN t ∧ n < 24 := by
  obtain ⟨h1, h2⟩ := h
  rw [sg_cnt t ht] at h2
  have := sg_24 t ht
  exact ⟨r.toNat, by omega, by omega, by omega⟩
def A0 (b : Nat) : Nat → Int → Nat := fun t r => b + oO t r.toNat
theorem A0_n (b t n : Nat) : A0 b t (n : Int) = b + oO t n := rfl
theorem sg_ref {t c t' : Nat} {r : Int} (ht : t < 27) (hr : Lv sg0 t r) (h : dt t c = t') (h' : t' < 27) : t = 6 ∨ t = 10 ∨ t = 11 ∨ t = 22 := by
  obtain ⟨n, -, h2, -⟩ := sg_lv ht hr
  have h1 : t ≠ 1 := fun e => by subst e; exact absurd h2 (Nat.not_lt_zero _)
  have h3 : t ≠ 3 := fun e => by subst e; exact absurd h2 (Nat.not_lt_zero _)
  unfold dt at h
  split at h <;> omega
theorem sg_no {b t n c : Nat} (h : t = 6 ∨ t = 10 ∨ t = 11 ∨ t = 22) (hn : n < cnN t) : fO b (oO t n) c = none := by
  rcases h with rfl | rfl | rfl | rfl
  · rfl
  · rfl
  · have h6 : n < 6 := hn
    show fO b (7 + 4 * n + 1) c = none
    unfold fO
    rw [if_neg (by omega), if_neg (by omega), if_neg (by omega), if_neg (by omega), if_neg (by omega), if_neg (by omega)]
  · have h6 : n < 24 := hn
    show fO b (34 + n) c = none
    unfold fO
    rw [if_neg (by omega), if_neg (by omega), if_neg (by omega), if_neg (by omega), if_neg (by omega), if_neg (by omega)]
theorem sg_m {t : Nat} (h : t = 6 ∨ t = 10 ∨ t = 11 ∨ t = 22) (r c : Int) : sg0 t r c = -1 := if_pos h
theorem sg_z {t : Nat} (h : ¬ (t = 6 ∨ t = 10 ∨ t = 11 ∨ t = 22)) (r c : Int) : sg0 t r c = 0 := if_neg h
theorem sg_fx {b t c t' n : Nat} (ht : t < 27) (hn : n < cnN t) (h : fx t c = t') (h' : t' < 27) : fO b (oO t n) c = some (b + oO t' n) := by
  have h3 : t ≠ 3 := fun e => by subst e; exact absurd hn (Nat.not_lt_zero _)
  unfold fx at h
  split at h
  all_goals first
    | omega
    | (subst h; rfl)
    | (subst h
       have h6 : n < 6 := hn
       show fO b (7 + 4 * n) _ = _
       unfold fO
       rw [if_neg (by omega), if_neg (by omega), if_neg (by omega), if_pos (by omega), if_pos (by omega)]
       rfl)
theorem hr_first {κ : KK} {g : GG} (hg : RB (bs κ) 60 (fO (bs κ)) g) : HR κ (A0 (bs κ)) g sg0 := by
  obtain ⟨b, hb⟩ : ∃ b, b = bs κ := ⟨_, rfl⟩
  have hbs : bs κ ≤ b := by omega
  rw [← hb] at hg ⊢
  refine ⟨fun t r ht hr => ?_, fun t r t' r' ht ht' hr hr' e => ?_, fun t r c ht hr e => ?_, fun t r c t' ht hr e ht' => ?_, fun t r c t' ht hr e ht' => ?_, fun c hc => ?_, fun c hc => ?_, fun t r c t' ht hr e ht' => ?_⟩
  · obtain ⟨n, rfl, h1, h2⟩ := sg_lv ht hr
    obtain ⟨q1, q2, q3, -⟩ := sg_tab t ht n h2 h1
    rw [A0_n]
    exact ⟨rb_lab hg hbs q1 q2, fun h6 => by rw [(hg.2 _ q1).2.1, q3 h6]⟩
  · obtain ⟨n, rfl, h1, h2⟩ := sg_lv ht hr
    obtain ⟨n', rfl, h1', h2'⟩ := sg_lv ht' hr'
    obtain ⟨-, -, -, q⟩ := sg_tab t ht n h2 h1
    obtain ⟨-, -, -, q'⟩ := sg_tab t' ht' n' h2' h1'
    rw [A0_n, A0_n] at e
    have e2 : oO t n = oO t' n' := by omega
    rw [e2, q'] at q
    cases q
    exact ⟨rfl, rfl⟩
  · obtain ⟨n, rfl, h1, h2⟩ := sg_lv ht hr
    obtain ⟨q1, -⟩ := sg_tab t ht n h2 h1
    rw [A0_n, (hg.2 _ q1).2.2.1 c, sg_z (fun z => by rcases z with rfl | rfl | rfl | rfl <;> cases e)]
    rfl
  · have h := sg_ref ht hr e ht'
    obtain ⟨n, rfl, h1, h2⟩ := sg_lv ht hr
    obtain ⟨q1, -⟩ := sg_tab t ht n h2 h1
    rw [A0_n, (hg.2 _ q1).2.2.2 c, sg_no h h1, sg_m h, rf_none (by decide)]
  · obtain ⟨n, rfl, h1, h2⟩ := sg_lv ht hr
    obtain ⟨q1, -⟩ := sg_tab t ht n h2 h1
    rw [A0_n, A0_n, (hg.2 _ q1).2.2.2 c, sg_fx ht h1 e ht']
  · show gr g (b + 4) c = some (A0 b 0 ((c : Nat) : Int))
    rw [A0_n, (hg.2 4 (by omega)).2.2.2 c]
    show (if c < 6 then some (b + (7 + 4 * c)) else none) = _
    rw [if_pos hc]
    rfl
  · show gr g (b + 33) c = some (A0 b 22 ((c : Nat) : Int))
    rw [A0_n, (hg.2 33 (by omega)).2.2.2 c]
    show (if c < 24 then some (b + 34 + c) else none) = some (b + (34 + c))
    rw [if_pos hc, Nat.add_assoc]
  · have h := sg_ref ht hr e ht'
    rw [sg_m h, sg_cnt t' ht']
    omega
theorem co_first : CO sg0 (fun _ => []) (fun _ => []) 0 := by
  have n3 : ∀ k, ¬ Lv sg0 3 k := fun k h => by have h2 : k < 0 := h.2; have := h.1; omega
  have n1 : ∀ k, ¬ Lv sg0 1 k := fun k h => by have h2 : k < 0 := h.2; have := h.1; omega
  have z0 : ∀ p, sg0 0 p 0 = 0 := fun p => rfl
  refine ⟨⟨rfl, by decide, fun k h => absurd h (n3 k)⟩, fun k h => absurd h (n3 k), ⟨rfl, by decide, fun k h => absurd h (n1 k)⟩, fun p _ => ⟨by rw [z0]; omega, fun e he => ?_⟩, ?_, fun p i j _ h1 h2 h3 => ?_, fun p _ => ?_, ⟨fun k h => absurd h (n3 k), fun k h => absurd h (n1 k)⟩, fun k h => absurd h (n3 k), fun k h => absurd h (n3 k), fun k h => absurd h (n3 k), fun p e _ he => ?_⟩
  · rw [z0] at he
    omega
  · exact fun k h => absurd h (n1 k)
  · rw [z0] at h3
    omega
  · show (0 : Int) ≤ 0 ∧ (0 : Int) + 0 ≤ 0 ∧ (0 : Int) ≤ 0
    omega
  · rw [z0] at he
    omega
theorem own_first : OWN sg0 sg0 := by
  have n3 : ∀ k, ¬ Lv sg0 3 k := fun k h => by have h2 : k < 0 := h.2; have := h.1; omega
  exact ⟨rfl, fun k h => absurd h (n3 k), fun k j h => absurd h (n3 k), fun k j k' j' h => absurd h (n3 k), fun k _ _ => ⟨rfl, rfl⟩, by decide⟩
theorem s_law {κ : KK} {g : GG} (hsl : sl κ ≤ 260) (hg : gn g = bs κ) : Wp κ ML_law 11 1892 18993 0 [(0, .ref (sb κ))] [] g (fun w _ => w = some (.int (iI 1))) := by
  refine s_begin ⟨by rw [hg]; rfl, fun o ho => absurd ho (Nat.not_lt_zero _)⟩ fun h hh => ?_
  have H := s_law16 (A := A0 (bs κ)) (σ := sg0) (g := h) hsl co_first own_first (by decide) (hr_first hh)
  rw [vr_some (by decide), vr_some (by decide)] at H
  exact H
