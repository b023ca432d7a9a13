section OM
variable {τ σ : ST} {k n q : Int}
def rm22 (σ : ST) (k q z : Int) : ST := fun t r c => if t = 22 ∧ r = k ∧ q ≤ c ∧ c < z then σ 22 k (c + 1) else σ t r c
theorem rm22_0 (σ : ST) (k q : Int) : rm22 σ k q q = σ := by
  funext t r c
  exact if_neg (by omega)
theorem rm22_at (σ : ST) (k q z i : Int) (h : z ≤ i) : rm22 σ k q z 22 k i = σ 22 k i := if_neg (by omega)
theorem rm22_s {z : Int} (h : q ≤ z) : up (rm22 σ k q z) 22 k z (σ 22 k (z + 1)) = rm22 σ k q (z + 1) := by
  funext t r c
  unfold up rm22
  by_cases h1 : t = 22 ∧ r = k
  · obtain ⟨rfl, rfl⟩ := h1
    by_cases h2 : c = z
    · subst h2
      rw [if_pos ⟨rfl, rfl, rfl⟩, if_pos ⟨rfl, rfl, h, by omega⟩]
    · rw [if_neg (fun y => h2 y.2.1)]
      by_cases h3 : q ≤ c ∧ c < z
      · rw [if_pos ⟨rfl, rfl, h3⟩, if_pos ⟨rfl, rfl, by omega, by omega⟩]
      · rw [if_neg (fun y => h3 y.2.2), if_neg (by omega)]
  · rw [if_neg (fun y => h1 ⟨y.1, y.2.2⟩), if_neg (fun y => h1 ⟨y.1, y.2.1⟩), if_neg (fun y => h1 ⟨y.1, y.2.1⟩)]
theorem OWN.rem (hO : OWN τ σ) (hF : ∀ k, Lv τ 3 k → WFk τ k) (hk : Lv τ 3 k) (hn : 0 ≤ n ∧ n < 12) (hq : (0 ≤ q ∧ q < τ 3 k 5) ∧ τ 14 k q = n) : OWN (tkF τ k q n) (rm22 (up σ 23 0 k (τ 3 k 5 - 1)) k q (τ 3 k 5 - 1)) := by
  have hx := tk_rx τ k q n
  have eN : tkF τ k q n 99 3 0 = τ 99 3 0 := hx _ _ _ (by omega)
  have l3 : ∀ r, Lv (tkF τ k q n) 3 r ↔ Lv τ 3 r := fun r => by unfold Lv; rw [show cnt (tkF τ k q n) 3 = tkF τ k q n 99 3 0 from rfl, eN]; exact Iff.rfl
  have e3 : ∀ k' c, ¬ (k' = k ∧ (c = 2 ∨ c = 5)) → tkF τ k q n 3 k' c = τ 3 k' c := fun k' c h => hx 3 k' c (by omega)
  have ek : ∀ t k' c, k' ≠ k → tkF τ k q n t k' c = τ t k' c := fun t k' c h => hx t k' c (fun y => h y.1)
  have e22 : ∀ k' j', rm22 (up σ 23 0 k (τ 3 k 5 - 1)) k q (τ 3 k 5 - 1) 22 k' j' = if k' = k ∧ q ≤ j' ∧ j' < τ 3 k 5 - 1 then σ 22 k (j' + 1) else σ 22 k' j' := by
    intro k' j'
    unfold rm22
    by_cases h : k' = k ∧ q ≤ j' ∧ j' < τ 3 k 5 - 1
    · rw [if_pos ⟨rfl, h⟩, if_pos h]
      rfl
    · rw [if_neg (fun y => h y.2), if_neg h]
      rfl
  have e23 : ∀ k', rm22 (up σ 23 0 k (τ 3 k 5 - 1)) k q (τ 3 k 5 - 1) 23 0 k' = if k' = k then τ 3 k 5 - 1 else σ 23 0 k' := by
    intro k'
    show up σ 23 0 k (τ 3 k 5 - 1) 23 0 k' = _
    by_cases h : k' = k
    · rw [if_pos h, h, up_at]
    · rw [if_neg h, up_ne (fun z => h z.2.2)]
  -- where a place was before
  have was : ∀ k' j', (0 ≤ j' ∧ j' < tkF τ k q n 3 k' 5) → ∃ i, (0 ≤ i ∧ i < τ 3 k' 5) ∧ ¬ (k' = k ∧ i = q) ∧ tkF τ k q n 14 k' j' = τ 14 k' i ∧ rm22 (up σ 23 0 k (τ 3 k 5 - 1)) k q (τ 3 k 5 - 1) 22 k' j' = σ 22 k' i ∧ (k' = k → i = if q ≤ j' then j' + 1 else j') ∧ (¬ k' = k → i = j') := by
    intro k' j' hj
    rw [e22]
    by_cases h : k' = k
    · subst h
      rw [tk_5] at hj
      rw [tk_14]
      by_cases h2 : q ≤ j'
      · refine ⟨j' + 1, by omega, by omega, ?_, ?_, fun _ => ?_, fun z => absurd rfl z⟩
        · rw [if_pos ⟨h2, hj.2⟩]
        · rw [if_pos ⟨rfl, h2, hj.2⟩]
        · rw [if_pos h2]
      · refine ⟨j', by omega, by omega, ?_, ?_, fun _ => ?_, fun z => absurd rfl z⟩
        · rw [if_neg (fun y => h2 y.1)]
        · rw [if_neg (fun y => h2 y.2.1)]
        · rw [if_neg h2]
    · rw [ek 3 k' 5 h] at hj
      refine ⟨j', hj, fun y => h y.1, ek 14 k' j' h, ?_, fun z => absurd z h, fun _ => rfl⟩
      rw [if_neg (fun y => h y.1)]
  refine ⟨by rw [eN]; exact hO.1, fun k' hk' => ?_, fun k' j hk' hj => ?_, fun k1 j1 k2 j2 hk1 hj1 hk2 hj2 => ?_, fun k' hk' h24 => ?_, hO.2.2.2.2.2⟩
  · have w := hO.2.1 k' ((l3 k').mp hk')
    rw [e3 k' 1 (by omega), e3 k' 3 (by omega), e23]
    refine ⟨w.1, ?_, w.2.2⟩
    by_cases z : k' = k
    · rw [if_pos z, z, tk_5]
    · rw [if_neg z, ek 3 k' 5 z]
      exact w.2.1
  · obtain ⟨i, i1, i2, i3, i4, -⟩ := was k' j hj
    have hk0 := (l3 k').mp hk'
    have w := hO.2.2.1 k' i hk0 i1
    have hne : ¬ (k' = k ∧ τ 14 k' i = n) := by
      rintro ⟨rfl, e⟩
      exact i2 ⟨rfl, (hF k' hk).2.2 i q i1 hq.1 (e.trans hq.2.symm)⟩
    have e : ∀ t, t = 15 ∨ t = 16 ∨ t = 17 ∨ t = 18 ∨ t = 19 → tkF τ k q n t k' (τ 14 k' i) = τ t k' (τ 14 k' i) := by
      intro t ht
      unfold tkF
      rw [up_ne (fun y => hne y.2), up_ne (fun y => hne y.2), up_ne (fun y => hne y.2), up_ne (fun y => hne y.2), up_ne (fun y => hne y.2), up_ne (by omega)]
      exact if_neg (by omega)
    unfold OR
    rw [i3, i4, e 15 (by omega), e 16 (by omega), e 17 (by omega), e 18 (by omega), e 19 (by omega)]
    exact ⟨w.1, rw_at w.2 fun _ => rfl⟩
  · obtain ⟨i, i1, i2, i3, i4, i5, i6⟩ := was k1 j1 hj1
    obtain ⟨j, g1, g2, g3, g4, g5, g6⟩ := was k2 j2 hj2
    rw [i4, g4]
    intro e
    obtain ⟨rfl, rfl⟩ := hO.2.2.2.1 k1 i k2 j ((l3 k1).mp hk1) i1 ((l3 k2).mp hk2) g1 e
    refine ⟨rfl, ?_⟩
    by_cases z : k1 = k
    · have a := i5 z
      have b := g5 z
      by_cases z1 : q ≤ j1 <;> by_cases z2 : q ≤ j2 <;> simp only [z1, z2, if_true, if_false] at a b <;> omega
    · have a := i6 z
      have b := g6 z
      omega
  · rw [eN] at hk'
    have : ¬ k' = k := fun y => by have := hk.2; have e : cnt τ 3 = τ 99 3 0 := rfl; omega
    rw [e23, if_neg this]
    exact hO.2.2.2.2.1 k' hk' h24
theorem OWN.par (hO : OWN τ σ) (hk : Lv τ 3 k) : OWN (up τ 3 k 1 q) (up σ 20 0 k q) := by
  refine ⟨hO.1, fun k' hk' => ?_, fun k' j hk' hj => hO.2.2.1 k' j hk' hj, fun k1 j1 k2 j2 a b c d => hO.2.2.2.1 k1 j1 k2 j2 a b c d, fun k' a b => hO.2.2.2.2.1 k' a b, hO.2.2.2.2.2⟩
  have w := hO.2.1 k' hk'
  show up σ 20 0 k q 20 0 k' = up τ 3 k 1 q 3 k' 1 ∧ σ 23 0 k' = τ 3 k' 5 ∧ σ 24 0 k' = τ 3 k' 3
  refine ⟨?_, w.2⟩
  by_cases z : k' = k
  · rw [z, up_at, up_at]
  · rw [up_ne (fun y => z y.2.2), up_ne (fun y => z y.2.1)]
    exact w.1
theorem OWN.shu (hO : OWN τ σ) (hk : Lv τ 3 k) : OWN (up τ 3 k 3 1) (up σ 24 0 k 1) := by
  refine ⟨hO.1, fun k' hk' => ?_, fun k' j hk' hj => hO.2.2.1 k' j hk' hj, fun k1 j1 k2 j2 a b c d => hO.2.2.2.1 k1 j1 k2 j2 a b c d, fun k' a b => ?_, hO.2.2.2.2.2⟩
  · have w := hO.2.1 k' hk'
    show σ 20 0 k' = τ 3 k' 1 ∧ σ 23 0 k' = τ 3 k' 5 ∧ up σ 24 0 k 1 24 0 k' = up τ 3 k 3 1 3 k' 3
    refine ⟨w.1, w.2.1, ?_⟩
    by_cases z : k' = k
    · rw [z, up_at, up_at]
    · rw [up_ne (fun y => z y.2.2), up_ne (fun y => z y.2.1)]
      exact w.2.2
  · have w := hO.2.2.2.2.1 k' a b
    have : ¬ k' = k := fun y => by have := hk.2; have e : cnt τ 3 = τ 99 3 0 := rfl; have e2 : up τ 3 k 3 1 99 3 0 = τ 99 3 0 := rfl; omega
    show σ 23 0 k' = 0 ∧ up σ 24 0 k 1 24 0 k' = 0
    rw [up_ne (fun y => this y.2.2)]
    exact w
/-- a plain one is fixed -/
theorem OWN.fz {j : Int} (hO : OWN τ σ) (hF : ∀ k, Lv τ 3 k → WFk τ k) (hk : Lv τ 3 k) (hj : 0 ≤ j ∧ j < τ 3 k 5) (hp : ¬ isPr (τ 15 k (τ 14 k j))) : OWN (up τ 15 k (τ 14 k j) (frT (τ 15 k (τ 14 k j)))) (up σ 25 (σ 22 k j) 3 1) := by
  have hw := hO.2.2.1 k j hk hj
  have h12 := ((hF k hk).1 j hj)
  have htr := ((hF k hk).2.1 _ h12.1).1
  have ht : frT (τ 15 k (τ 14 k j)) = 5 ∨ frT (τ 15 k (τ 14 k j)) = 13 := by
    have h0 := h12.2
    unfold TrOk at htr
    unfold isPr at hp
    unfold frT
    repeat' split <;> omega
  refine ⟨hO.1, fun k' hk' => hO.2.1 k' hk', fun k' i hk' hi => ?_, fun k1 j1 k2 j2 a b c d => hO.2.2.2.1 k1 j1 k2 j2 a b c d, fun k' a b => hO.2.2.2.2.1 k' a b, hO.2.2.2.2.2⟩
  have w := hO.2.2.1 k' i hk' hi
  unfold OR at w ⊢
  show Lv σ 25 (σ 22 k' i) ∧ RW (up σ 25 (σ 22 k j) 3 1) (σ 22 k' i) (τ 14 k' i) (up τ 15 k (τ 14 k j) (frT (τ 15 k (τ 14 k j))) 15 k' (τ 14 k' i)) (τ 16 k' (τ 14 k' i)) (τ 17 k' (τ 14 k' i)) (τ 18 k' (τ 14 k' i)) (τ 19 k' (τ 14 k' i))
  refine ⟨w.1, ?_⟩
  by_cases z : k' = k ∧ i = j
  · obtain ⟨rfl, rfl⟩ := z
    rw [up_at]
    obtain ⟨a1, a2, a3, a4⟩ := w.2
    refine ⟨?_, ?_, fun y => ?_, fun y => ?_⟩
    · rw [up_ne (by omega)]
      exact a1
    · rw [up_at, bI_t]
      unfold isFx
      exact ht
    · unfold isPr at y
      omega
    · rw [up_ne (by omega), up_ne (by omega)]
      exact a4 hp
  · have hr : ¬ σ 22 k' i = σ 22 k j := fun e => z (hO.2.2.2.1 k' i k j hk' hi hk hj e)
    have hm : ¬ (k' = k ∧ τ 14 k' i = τ 14 k j) := by
      rintro ⟨rfl, e⟩
      exact z ⟨rfl, (hF k' hk).2.2 i j hi hj e⟩
    rw [up_15, if_neg (fun y => hm ⟨y.2, y.1⟩)]
    exact rw_at w.2 fun c => up_ne (fun y => hr y.2.1)
def rowF (n kd v fx hd st ad : Int) : Int → Int := fun c => if c = 0 then n else if c = 1 then kd else if c = 2 then v else if c = 3 then fx else if c = 4 then hd else if c = 5 then st else if c = 6 then ad else 0
/-! a row of seven is made -/
def NB (κ : KK) (A : Nat → Int → Nat) (g : GG) (σ : ST) (b : Nat) (f : Int → Int) (m : Nat) : Prop := HR κ A g σ ∧ lab κ g b 6 ∧ gl g b = 7 ∧ (∀ t r, t < 27 → Lv σ t r → A t r ≠ b) ∧ ∀ c, gi g b c = if c < m then iI (f (c : Int)) else 0
section NBR
variable {κ : KK} {y : MY} {d kc ks pc : Nat} {lv : List (Nat × Value)} {st : List Value} {g : GG} {Q : Option Value → GG → Prop} {A : Nat → Int → Nat}
theorem e_nb {kc' ks' : Nat} (f : Int → Int) (hd : decode y.2.1 pc = .ok (.newarray .int, 2)) (hh : HR κ A g σ) (hmc : 1 + kc' ≤ kc) (hms : 7 + ks' ≤ ks) (kk : ∀ (g' : GG) (b : Nat), NB κ A g' σ b f 0 → Wp κ y d kc' ks' (pc + 2) lv (.ref b :: st) g' Q) : Wp κ y d kc ks pc lv (.int (iI 7) :: st) g Q := by
  refine r_newI (n := 7) (x := iI 7) 6 hd rfl (by decide) rfl hmc hms ?_
  have hgn := (hr_lab hh (t := 2) (r := 0) (by decide) (lv1 _ 2 (fun _ => rfl)))
  exact kk _ (gn g) ⟨hr_new hh 6 7, lab_new_at (by have := hgn.1; have := hgn.2.1; omega) rfl, gl_new_at g 6 7, fun t r a e => by have := (hr_lab hh a e).2.1; omega, fun c => by rw [gi_new_at, if_neg (Nat.not_lt_zero c)]⟩
theorem e_ist7 {b m : Nat} {f : Int → Int} {v i : Int} (hd : decode y.2.1 pc = .ok (.iastore, 1)) (hN : NB κ A g σ b f m) (hi : i = (m : Int)) (hm : m < 7) (hv : f (m : Int) = v) (kk : ∀ g', NB κ A g' σ b f (m + 1) → Wp κ y d kc ks (pc + 1) lv st g' Q) : Wp κ y d kc ks pc lv (.int (iI v) :: .int (iI i) :: .ref b :: st) g Q := by
  obtain ⟨h1, h2, h3, h4, h5⟩ := hN
  subst hi
  refine r_iast (j := m) hd h2 (by rw [iI_nI (by omega)]; rfl) (by rw [h3]; exact hm) (by rw [h3]; decide) ?_
  refine kk _ ⟨hr_offI h1 h4 (iI v), h2, h3, h4, fun c => ?_⟩
  rw [gi_setI_at]
  by_cases z : c = m
  · rw [if_pos z, if_pos (by omega), z, hv]
  · rw [if_neg z, h5 c]
    by_cases y : c < m
    · rw [if_pos y, if_pos (by omega)]
    · rw [if_neg y, if_neg (by omega)]
end NBR
theorem dt25 (c : Nat) : dt 25 c = 99 := rfl
theorem nb_end {κ : KK} {A : Nat → Int → Nat} {g : GG} {b : Nat} {f : Int → Int} (hN : NB κ A g σ b f 7) (h0 : 0 ≤ σ 99 25 0) (hf : ∀ c : Nat, 7 ≤ c → f (c : Int) = 0) : HR κ (gA A 25 (σ 99 25 0) b) g (gS σ 25 f) := by
  obtain ⟨h1, h2, h3, h4, h5⟩ := hN
  exact hr_grow h1 (t0 := 25) (b := b) (f := f) (Or.inr (Or.inl rfl)) h0 h2 (fun _ => h3) h4 (fun c _ => by
    rw [h5 c]
    by_cases z : c < 7
    · rw [if_pos z]
    · rw [if_neg z, hf c (by omega)]
      rfl) (fun c t' e e2 => by rw [dt25] at e; omega) (fun c t' e e2 => by rw [dt25] at e; omega)
end OM
