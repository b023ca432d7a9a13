/-! own's side changes alone, the court's side changes alone -/
def vo : Nat → Bool
  | 5 => true
  | 20 => true
  | 21 => true
  | 22 => true
  | 23 => true
  | 24 => true
  | 25 => true
  | _ => false
def OF (σ σ' : ST) : Prop := (∀ t r c, vo t = false → t ≠ 99 → σ' t r c = σ t r c) ∧ σ' 99 1 0 = σ 99 1 0 ∧ σ' 99 3 0 = σ 99 3 0
theorem OF.rf' (σ : ST) : OF σ σ := ⟨fun _ _ _ _ _ => rfl, rfl, rfl⟩
theorem OF.tr {σ σ1 σ2 : ST} (h : OF σ σ1) (k : OF σ1 σ2) : OF σ σ2 := ⟨fun t r c a b => (k.1 t r c a b).trans (h.1 t r c a b), k.2.1.trans h.2.1, k.2.2.trans h.2.2⟩
theorem OF.u {σ σ1 : ST} (h : OF σ σ1) (t : Nat) (r c v : Int) (ht : vo t = true) : OF σ (up σ1 t r c v) := by
  refine ⟨fun t' r' c' a b => ?_, ?_, ?_⟩
  · rw [up_ne (by rintro ⟨rfl, -⟩; rw [ht] at a; cases a)]
    exact h.1 t' r' c' a b
  · rw [up_ne (by rintro ⟨rfl, -⟩; cases ht)]
    exact h.2.1
  · rw [up_ne (by rintro ⟨rfl, -⟩; cases ht)]
    exact h.2.2
theorem OF.ag {σ σ' : ST} (h : OF σ σ') {t : Nat} (r c : Int) (a : vo t = false) (b : t ≠ 99) : σ' t r c = σ t r c := h.1 t r c a b
theorem CO.of {σ σ' : ST} {L Sc : Int → List Int} {T : Int} (h : CO σ L Sc T) (hf : OF σ σ') : CO σ' L Sc T := by
  have e : ∀ t r c, vo t = false → t ≠ 99 → σ' t r c = σ t r c := hf.1
  have e0 : ∀ r c, σ' 0 r c = σ 0 r c := fun r c => e 0 r c rfl (by decide)
  have e1 : ∀ r c, σ' 1 r c = σ 1 r c := fun r c => e 1 r c rfl (by decide)
  have e3 : ∀ r c, σ' 3 r c = σ 3 r c := fun r c => e 3 r c rfl (by decide)
  have e11 : ∀ r c, σ' 11 r c = σ 11 r c := fun r c => e 11 r c rfl (by decide)
  have e12 : ∀ r c, σ' 12 r c = σ 12 r c := fun r c => e 12 r c rfl (by decide)
  have e13 : ∀ r c, σ' 13 r c = σ 13 r c := fun r c => e 13 r c rfl (by decide)
  have l0 : ∀ r, Lv σ' 0 r ↔ Lv σ 0 r := fun r => Iff.rfl
  have l1 : ∀ r, Lv σ' 1 r ↔ Lv σ 1 r := fun r => by unfold Lv; rw [show cnt σ' 1 = σ' 99 1 0 from rfl, hf.2.1]; exact Iff.rfl
  have l3 : ∀ r, Lv σ' 3 r ↔ Lv σ 3 r := fun r => by unfold Lv; rw [show cnt σ' 3 = σ' 99 3 0 from rfl, hf.2.2]; exact Iff.rfl
  refine ⟨⟨by rw [e 4 _ _ rfl (by decide), hf.2.2]; exact h.wt.1, by rw [hf.2.2]; exact h.wt.2.1, fun x hx => ?_⟩, fun x hx => ?_, ⟨by rw [e 2 _ _ rfl (by decide), hf.2.1]; exact h.ws.1, by rw [hf.2.1]; exact h.ws.2.1, fun s hs => ?_⟩, fun q hq => ?_, fun s hs => ?_, fun q i j hq a b c => ?_, fun q hq => ?_, ⟨fun x hx => ?_, fun s hs => ?_⟩, fun x hx hn => ?_, fun x hx hn => ?_, fun x hx hn => ?_, fun q x hq hx hX => ?_⟩
  · simp only [e3, e 6 _ _ rfl (by decide), hf.2.1, hf.2.2]
    exact h.wt.2.2 x ((l3 _).mp hx)
  · rw [e3]
    exact h.wl x ((l3 _).mp hx)
  · simp only [e1, e 10 _ _ rfl (by decide), hf.2.2]
    exact h.ws.2.2 s ((l1 _).mp hs)
  · have w := h.wp q ((l0 _).mp hq)
    simp only [e0, e11, e12, e13, l1]
    exact w
  · simp only [e1]
    exact CX.wc h s ((l1 _).mp hs)
  · rw [e0] at c
    simp only [e11, e12]
    exact CX.wd h q i j ((l0 _).mp hq) a b c
  · simp only [e0]
    exact CX.wm h q ((l0 _).mp hq)
  · simp only [e3]
    exact (CX.ww h).1 x ((l3 _).mp hx)
  · simp only [e3, e1]
    exact (CX.ww h).2 s ((l1 _).mp hs)
  · exact wfk_cg (e3 x 5) (fun j => e 14 x j rfl (by decide)) (fun j => e 15 x j rfl (by decide)) (CX.wfk h x ((l3 _).mp hx) hn)
  · exact fun m hm => wvn_cg (e 15 x m rfl (by decide)) (e 16 x m rfl (by decide)) (e 17 x m rfl (by decide)) (e 18 x m rfl (by decide)) (e 19 x m rfl (by decide)) (CX.wvk h x ((l3 _).mp hx) hn m hm)
  · exact wkk_cg (fun c _ => e3 x c) (fun j => e 14 x j rfl (by decide)) (fun c => e1 _ c) (CX.wkk h x ((l3 _).mp hx) hn)
  · rw [e0] at hx
    rw [e11, e12, e13, h.we q x ((l0 _).mp hq) hx]
    exact (eW_cg (e1 _ _) (fun k _ => e 15 k _ rfl (by decide))).symm
theorem OWN.tau {τ τ' σ : ST} (h : OWN τ σ) (ha : AgV τ τ') : OWN τ' σ := by
  have e3 : ∀ k c, c ≠ 2 → c ≠ 4 → τ' 3 k c = τ 3 k c := ha.2.1
  have l3 : ∀ r, Lv τ' 3 r ↔ Lv τ 3 r := fun r => by unfold Lv; rw [show cnt τ' 3 = τ' 99 3 0 from rfl, ha.2.2.1]; exact Iff.rfl
  refine ⟨by rw [ha.2.2.1]; exact h.1, fun k hk => ?_, fun k j hk hj => ?_, fun k j k' j' hk hj hk' hj' => ?_, fun k hk => ?_, h.2.2.2.2.2⟩
  · rw [e3 k 1 (by decide) (by decide), e3 k 5 (by decide) (by decide), e3 k 3 (by decide) (by decide)]
    exact h.2.1 k ((l3 k).mp hk)
  · rw [e3 k 5 (by decide) (by decide)] at hj
    have w := h.2.2.1 k j ((l3 k).mp hk) hj
    unfold OR at w ⊢
    rw [ha.1 14 k j rfl, ha.1 15 k _ rfl, ha.1 16 k _ rfl, ha.1 17 k _ rfl, ha.1 18 k _ rfl, ha.1 19 k _ rfl]
    exact w
  · rw [e3 k 5 (by decide) (by decide)] at hj
    rw [e3 k' 5 (by decide) (by decide)] at hj'
    exact h.2.2.2.1 k j k' j' ((l3 k).mp hk) hj ((l3 k').mp hk') hj'
  · rw [ha.2.2.1] at hk
    exact h.2.2.2.2.1 k hk
/-- own's tables are the same -/
theorem OWN.sg {τ σ σ' : ST} (h : OWN τ σ) (e : ∀ t r c, vo t = true → σ' t r c = σ t r c) (e25 : σ' 99 25 0 = σ 99 25 0) : OWN τ σ' := by
  have l25 : ∀ r, Lv σ' 25 r ↔ Lv σ 25 r := fun r => by unfold Lv; rw [show cnt σ' 25 = σ' 99 25 0 from rfl, e25]; exact Iff.rfl
  refine ⟨by rw [e 5 0 4 rfl]; exact h.1, fun k hk => ?_, fun k j hk hj => ?_, fun k j k' j' hk hj hk' hj' => ?_, fun k hk hk2 => ?_, by rw [e25]; exact h.2.2.2.2.2⟩
  · rw [e 20 0 k rfl, e 23 0 k rfl, e 24 0 k rfl]
    exact h.2.1 k hk
  · have w := h.2.2.1 k j hk hj
    unfold OR RW at w ⊢
    rw [e 22 k j rfl, l25]
    simp only [e 25 _ _ rfl]
    exact w
  · rw [e 22 k j rfl, e 22 k' j' rfl]
    exact h.2.2.2.1 k j k' j' hk hj hk' hj'
  · rw [e 23 0 k rfl, e 24 0 k rfl]
    exact h.2.2.2.2.1 k hk hk2
theorem vt_of {t : Nat} (h : vo t = true) : vt t = true := by
  unfold vo at h
  split at h <;> first | rfl | cases h
theorem OWN.ag {τ σ σ' : ST} (h : OWN τ σ) (ha : AgV σ σ') : OWN τ σ' := h.sg (fun t r c a => ha.1 t r c (vt_of a)) ha.2.2.2
theorem vt_vo {t : Nat} (h : vt t = true) (h2 : vo t = false) (τ : Prop) : True := trivial
/-- own's tables went on, the court's went on before -/
theorem own_both {τ σ σ' : ST} (h : OWN τ σ') (ha : AgV τ σ) (hf : OF σ σ') : OWN σ' σ' := by
  have e3 : ∀ k c, σ' 3 k c = σ 3 k c := fun k c => hf.1 3 k c rfl (by decide)
  have l3 : ∀ r, Lv σ' 3 r ↔ Lv τ 3 r := fun r => by unfold Lv; rw [show cnt σ' 3 = σ' 99 3 0 from rfl, hf.2.2, ha.2.2.1]; exact Iff.rfl
  have f3 : ∀ k c, c ≠ 2 → c ≠ 4 → σ' 3 k c = τ 3 k c := fun k c a b => (e3 k c).trans (ha.2.1 k c a b)
  have ft : ∀ t, vo t = false → t ≠ 99 → vt t = true → ∀ k j, σ' t k j = τ t k j := fun t a b c k j => (hf.1 t k j a b).trans (ha.1 t k j c)
  refine ⟨by rw [hf.2.2, ha.2.2.1]; exact h.1, fun k hk => ?_, fun k j hk hj => ?_, fun k j k' j' hk hj hk' hj' => ?_, fun k hk => ?_, h.2.2.2.2.2⟩
  · rw [f3 k 1 (by decide) (by decide), f3 k 5 (by decide) (by decide), f3 k 3 (by decide) (by decide)]
    exact h.2.1 k ((l3 k).mp hk)
  · rw [f3 k 5 (by decide) (by decide)] at hj
    have w := h.2.2.1 k j ((l3 k).mp hk) hj
    unfold OR at w ⊢
    rw [ft 14 rfl (by decide) rfl, ft 15 rfl (by decide) rfl, ft 16 rfl (by decide) rfl, ft 17 rfl (by decide) rfl, ft 18 rfl (by decide) rfl, ft 19 rfl (by decide) rfl]
    exact w
  · rw [f3 k 5 (by decide) (by decide)] at hj
    rw [f3 k' 5 (by decide) (by decide)] at hj'
    exact h.2.2.2.1 k j k' j' ((l3 k).mp hk) hj ((l3 k').mp hk') hj'
  · rw [hf.2.2, ha.2.2.1] at hk
    exact h.2.2.2.2.1 k hk
/-! own's moves -/
section OM
variable {τ σ : ST} {k n q ρ t a b c d : Int}
theorem putM_ne {t' : Nat} {k' m : Int} (ht : t' = 15 ∨ t' = 16 ∨ t' = 17 ∨ t' = 18 ∨ t' = 19) (h : ¬ (k' = k ∧ m = n)) : putM τ k n t a b c d t' k' m = τ t' k' m := by
  unfold putM fil putT
  rw [up_ne (fun y => h y.2), up_ne (fun y => h y.2), up_ne (fun y => h y.2), up_ne (fun y => h y.2), up_ne (fun y => h y.2)]
  split
  · unfold apS
    rw [up_ne (by omega), up_ne (by omega)]
  · rfl
theorem putM_at : putM τ k n t a b c d 15 k n = t ∧ putM τ k n t a b c d 16 k n = a ∧ putM τ k n t a b c d 17 k n = b ∧ putM τ k n t a b c d 18 k n = c ∧ putM τ k n t a b c d 19 k n = d :=
  ⟨putT_15 τ k n t, fil_at (putT τ k n t) k n a b c d⟩
theorem putM_14h (h : ¬ τ 15 k n = 0) (k' j : Int) : putM τ k n t a b c d 14 k' j = τ 14 k' j := by
  show putT τ k n t 14 k' j = _
  rw [putT_h h]
  rfl
theorem putM_3h (h : ¬ τ 15 k n = 0) (k' j : Int) : putM τ k n t a b c d 3 k' j = τ 3 k' j := by
  show putT τ k n t 3 k' j = _
  rw [putT_h h]
  rfl
theorem putM_14c (h : τ 15 k n = 0) (k' j : Int) : putM τ k n t a b c d 14 k' j = if j = τ 3 k 5 ∧ k' = k then n else τ 14 k' j := by
  show putT τ k n t 14 k' j = _
  rw [putT_c h]
  show up τ 14 k (τ 3 k 5) n 14 k' j = _
  rw [up_14]
theorem putM_3c (h : τ 15 k n = 0) (k' j : Int) : putM τ k n t a b c d 3 k' j = if j = 5 ∧ k' = k then τ 3 k 5 + 1 else τ 3 k' j := by
  show putT τ k n t 3 k' j = _
  rw [putT_c h]
  show up (up τ 14 k (τ 3 k 5) n) 3 k 5 (τ 3 k 5 + 1) 3 k' j = _
  rw [up_3]
  rfl
theorem putM_N : putM τ k n t a b c d 99 3 0 = τ 99 3 0 := by
  show putT τ k n t 99 3 0 = _
  unfold putT
  split <;> rfl
theorem rw_at (hr : RW σ ρ n t a b c d) {σ' : ST} (e : ∀ c, σ' 25 ρ c = σ 25 ρ c) : RW σ' ρ n t a b c d := by
  unfold RW
  simp only [e]
  exact hr
/-- a row is put where there was one -/
theorem OWN.puth (hO : OWN τ σ) (hF : ∀ k, Lv τ 3 k → WFk τ k) (hk : Lv τ 3 k) (hn : 0 ≤ n ∧ n < 12) (hq : (0 ≤ q ∧ q < τ 3 k 5) ∧ τ 14 k q = n) (hρ : Lv σ 25 ρ) (hfr : ∀ k' j', Lv τ 3 k' → (0 ≤ j' ∧ j' < τ 3 k' 5) → σ 22 k' j' ≠ ρ) (hrw : RW σ ρ n t a b c d) : OWN (putM τ k n t a b c d) (up σ 22 k q ρ) := by
  have h15 : ¬ τ 15 k n = 0 := by
    have := ((hF k hk).1 q hq.1).2
    rw [hq.2] at this
    exact this
  have l3 : ∀ r, Lv (putM τ k n t a b c d) 3 r ↔ Lv τ 3 r := fun r => by unfold Lv; rw [show cnt (putM τ k n t a b c d) 3 = putM τ k n t a b c d 99 3 0 from rfl, putM_N]; exact Iff.rfl
  have e22 : ∀ k' j', up σ 22 k q ρ 22 k' j' = if j' = q ∧ k' = k then ρ else σ 22 k' j' := by
    intro k' j'
    by_cases h : j' = q ∧ k' = k
    · rw [if_pos h, h.1, h.2, up_at]
    · rw [if_neg h, up_ne (fun z => h ⟨z.2.2, z.2.1⟩)]
  refine ⟨by rw [putM_N]; exact hO.1, fun k' hk' => ?_, fun k' j hk' hj => ?_, fun k1 j1 k2 j2 hk1 hj1 hk2 hj2 => ?_, fun k' hk' => ?_, hO.2.2.2.2.2⟩
  · simp only [putM_3h h15]
    exact hO.2.1 k' ((l3 k').mp hk')
  · have hk0 := (l3 k').mp hk'
    rw [putM_3h h15] at hj
    unfold OR
    rw [putM_14h h15, e22]
    by_cases z : j = q ∧ k' = k
    · obtain ⟨rfl, rfl⟩ := z
      rw [if_pos ⟨rfl, rfl⟩, hq.2]
      obtain ⟨p1, p2, p3, p4, p5⟩ := putM_at (τ := τ) (k := k') (n := n) (t := t) (a := a) (b := b) (c := c) (d := d)
      rw [p1, p2, p3, p4, p5]
      exact ⟨hρ, rw_at hrw fun _ => rfl⟩
    · have hne : ¬ (k' = k ∧ τ 14 k' j = n) := by
        rintro ⟨rfl, e⟩
        exact z ⟨(hF k' hk).2.2 j q hj hq.1 (e.trans hq.2.symm), rfl⟩
      rw [if_neg z, putM_ne (by omega) hne, putM_ne (by omega) hne, putM_ne (by omega) hne, putM_ne (by omega) hne, putM_ne (by omega) hne]
      have w := hO.2.2.1 k' j hk0 hj
      exact ⟨w.1, rw_at w.2 fun _ => rfl⟩
  · rw [putM_3h h15] at hj1 hj2
    rw [e22, e22]
    have f1 := hfr k1 j1 ((l3 k1).mp hk1) hj1
    have f2 := hfr k2 j2 ((l3 k2).mp hk2) hj2
    by_cases z1 : j1 = q ∧ k1 = k
    · by_cases z2 : j2 = q ∧ k2 = k
      · intro _
        exact ⟨by omega, by omega⟩
      · rw [if_pos z1, if_neg z2]
        exact fun e => absurd e.symm f2
    · by_cases z2 : j2 = q ∧ k2 = k
      · rw [if_neg z1, if_pos z2]
        exact fun e => absurd e f1
      · rw [if_neg z1, if_neg z2]
        exact hO.2.2.2.1 k1 j1 k2 j2 ((l3 k1).mp hk1) hj1 ((l3 k2).mp hk2) hj2
  · rw [putM_N] at hk'
    exact hO.2.2.2.2.1 k' hk'
theorem OWN.putc (hO : OWN τ σ) (hF : ∀ k, Lv τ 3 k → WFk τ k) (hk : Lv τ 3 k) (hz : 0 ≤ τ 3 k 5) (h15 : τ 15 k n = 0) (hρ : Lv σ 25 ρ) (hfr : ∀ k' j', Lv τ 3 k' → (0 ≤ j' ∧ j' < τ 3 k' 5) → σ 22 k' j' ≠ ρ) (hrw : RW σ ρ n t a b c d) : OWN (putM τ k n t a b c d) (up (up σ 23 0 k (τ 3 k 5 + 1)) 22 k (τ 3 k 5) ρ) := by
  have l3 : ∀ r, Lv (putM τ k n t a b c d) 3 r ↔ Lv τ 3 r := fun r => by unfold Lv; rw [show cnt (putM τ k n t a b c d) 3 = putM τ k n t a b c d 99 3 0 from rfl, putM_N]; exact Iff.rfl
  have e22 : ∀ k' j', up (up σ 23 0 k (τ 3 k 5 + 1)) 22 k (τ 3 k 5) ρ 22 k' j' = if j' = τ 3 k 5 ∧ k' = k then ρ else σ 22 k' j' := by
    intro k' j'
    by_cases h : j' = τ 3 k 5 ∧ k' = k
    · rw [if_pos h, h.1, h.2, up_at]
    · rw [if_neg h, up_ne (fun z => h ⟨z.2.2, z.2.1⟩)]
      rfl
  have e23 : ∀ k', up (up σ 23 0 k (τ 3 k 5 + 1)) 22 k (τ 3 k 5) ρ 23 0 k' = if k' = k then τ 3 k 5 + 1 else σ 23 0 k' := by
    intro k'
    show up σ 23 0 k (τ 3 k 5 + 1) 23 0 k' = _
    by_cases h : k' = k
    · rw [if_pos h, h, up_at]
    · rw [if_neg h, up_ne (fun z => h z.2.2)]
  refine ⟨by rw [putM_N]; exact hO.1, fun k' hk' => ?_, fun k' j hk' hj => ?_, fun k1 j1 k2 j2 hk1 hj1 hk2 hj2 => ?_, fun k' hk' h24 => ?_, hO.2.2.2.2.2⟩
  · have w := hO.2.1 k' ((l3 k').mp hk')
    rw [putM_3c h15, putM_3c h15, putM_3c h15, if_neg (by omega), if_neg (show ¬ ((3 : Int) = 5 ∧ k' = k) by omega), e23]
    refine ⟨w.1, ?_, w.2.2⟩
    by_cases z : k' = k
    · rw [if_pos z, if_pos ⟨rfl, z⟩]
    · rw [if_neg z, if_neg (fun y => z y.2)]
      exact w.2.1
  · have hk0 := (l3 k').mp hk'
    rw [putM_3c h15] at hj
    unfold OR
    rw [putM_14c h15, e22]
    by_cases z : j = τ 3 k 5 ∧ k' = k
    · obtain ⟨z1, rfl⟩ := z
      rw [if_pos ⟨z1, rfl⟩, if_pos ⟨z1, rfl⟩]
      obtain ⟨p1, p2, p3, p4, p5⟩ := putM_at (τ := τ) (k := k') (n := n) (t := t) (a := a) (b := b) (c := c) (d := d)
      rw [p1, p2, p3, p4, p5]
      exact ⟨hρ, rw_at hrw fun _ => rfl⟩
    · have hj2 : 0 ≤ j ∧ j < τ 3 k' 5 := by
        by_cases y : k' = k
        · rw [if_pos ⟨rfl, y⟩] at hj
          rw [y]
          rw [y] at z
          have : ¬ j = τ 3 k 5 := fun x => z ⟨x, rfl⟩
          omega
        · rw [if_neg (fun x => y x.2)] at hj
          exact hj
      have hne : ¬ (k' = k ∧ τ 14 k' j = n) := by
        rintro ⟨rfl, e⟩
        have := ((hF k' hk).1 j hj2).2
        rw [e] at this
        exact this h15
      rw [if_neg z, if_neg z, putM_ne (by omega) hne, putM_ne (by omega) hne, putM_ne (by omega) hne, putM_ne (by omega) hne, putM_ne (by omega) hne]
      have w := hO.2.2.1 k' j hk0 hj2
      exact ⟨w.1, rw_at w.2 fun _ => rfl⟩
  · have hold : ∀ k1 j1, (0 ≤ j1 ∧ j1 < putM τ k n t a b c d 3 k1 5) → ¬ (j1 = τ 3 k 5 ∧ k1 = k) → (0 ≤ j1 ∧ j1 < τ 3 k1 5) := by
      intro k1 j1 hj z
      rw [putM_3c h15] at hj
      by_cases y : k1 = k
      · rw [if_pos ⟨rfl, y⟩] at hj
        rw [y]
        rw [y] at z
        have : ¬ j1 = τ 3 k 5 := fun x => z ⟨x, rfl⟩
        omega
      · rw [if_neg (fun x => y x.2)] at hj
        exact hj
    rw [e22, e22]
    by_cases z1 : j1 = τ 3 k 5 ∧ k1 = k
    · by_cases z2 : j2 = τ 3 k 5 ∧ k2 = k
      · intro _
        exact ⟨by omega, by omega⟩
      · rw [if_pos z1, if_neg z2]
        exact fun e => absurd e.symm (hfr k2 j2 ((l3 k2).mp hk2) (hold k2 j2 hj2 z2))
    · by_cases z2 : j2 = τ 3 k 5 ∧ k2 = k
      · rw [if_neg z1, if_pos z2]
        exact fun e => absurd e (hfr k1 j1 ((l3 k1).mp hk1) (hold k1 j1 hj1 z1))
      · rw [if_neg z1, if_neg z2]
        exact hO.2.2.2.1 k1 j1 k2 j2 ((l3 k1).mp hk1) (hold k1 j1 hj1 z1) ((l3 k2).mp hk2) (hold k2 j2 hj2 z2)
  · rw [putM_N] at hk'
    have : ¬ k' = k := fun y => by have := hk.2; have e : cnt τ 3 = τ 99 3 0 := rfl; omega
    rw [e23, if_neg this]
    exact hO.2.2.2.2.1 k' hk' h24
end OM
