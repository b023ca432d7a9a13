def mo : Nat → Bool
  | 0 => true
  | 1 => true
  | 2 => true
  | 5 => true
  | 10 => true
  | 11 => true
  | 12 => true
  | 13 => true
  | 20 => true
  | 21 => true
  | 22 => true
  | 23 => true
  | 24 => true
  | 25 => true
  | _ => false
/-- what is told of the court with one more Thing, ahead of its Shape -/
def MF (σ σ4 : ST) (q : Int) : Prop := (σ4 99 3 0 = σ 99 3 0 + 1 ∧ σ4 99 1 0 = σ 99 1 0 ∧ σ4 99 25 0 = σ 99 25 0 ∧ σ4 4 0 1 = σ 99 3 0 + 1) ∧ (∀ c, σ4 6 0 c = if c = σ 99 3 0 then σ 99 3 0 else σ 6 0 c) ∧ (∀ k c, k ≠ σ 99 3 0 → c ≠ 4 → σ4 3 k c = σ 3 k c) ∧ (∀ k, k ≠ σ 99 3 0 → σ4 3 k 4 = σ 3 k 4 ∨ σ4 3 k 4 = 1) ∧ (0 ≤ q → ¬ σ4 3 q 4 = 0) ∧
  (σ4 3 (σ 99 3 0) 0 = σ 99 3 0 ∧ σ4 3 (σ 99 3 0) 1 = q ∧ σ4 3 (σ 99 3 0) 2 = -1 ∧ σ4 3 (σ 99 3 0) 3 = 0 ∧ σ4 3 (σ 99 3 0) 4 = 0 ∧ σ4 3 (σ 99 3 0) 5 = 0) ∧ (∀ t k c, 14 ≤ t → t ≤ 19 → k ≠ σ 99 3 0 → σ4 t k c = σ t k c) ∧ (∀ c, σ4 15 (σ 99 3 0) c = 0) ∧ (∀ c, (0 ≤ c ∧ c < 12) → σ4 16 (σ 99 3 0) c = -1000 ∧ σ4 17 (σ 99 3 0) c = -1 ∧ σ4 18 (σ 99 3 0) c = -1 ∧ σ4 19 (σ 99 3 0) c = 0) ∧ (∀ t r c, mo t = true → σ4 t r c = σ t r c)
noncomputable def mk3 (σ : ST) : ST := up (up (nwJ σ 12) 6 0 (σ 99 3 0) (σ 99 3 0)) 4 0 1 (σ 99 3 0 + 1)
theorem mo_T {t : Nat} (h : mo t = true) : t ≠ 3 ∧ t ≠ 4 ∧ t ≠ 6 ∧ t ≠ 99 ∧ ¬ inT t := by
  unfold mo at h
  unfold inT
  split at h <;> first | omega | cases h
theorem nwJ_o {σ : ST} {t : Nat} {r c : Int} (h : ¬ (t = 99 ∧ r = 3)) (h2 : ¬ (inT t ∧ r = σ 99 3 0)) : nwJ σ 12 t r c = σ t r c := gU_o h h2
theorem nwJ_n {σ : ST} {t : Nat} (h : inT t) (c : Int) : nwJ σ 12 t (σ 99 3 0) c = Fj (σ 99 3 0) 12 t c := gU_n h c
theorem mk3_o {σ : ST} {t : Nat} {r c : Int} (h6 : t ≠ 6) (h4 : t ≠ 4) : mk3 σ t r c = nwJ σ 12 t r c := by
  unfold mk3
  rw [up_ne (fun y => h4 y.1), up_ne (fun y => h6 y.1)]
theorem mk3_mf {σ σ4 : ST} {q : Int} (h0 : 0 ≤ σ 99 3 0) (hq : -1 ≤ q ∧ q < σ 99 3 0) (e : q < 0 ∧ σ4 = up (mk3 σ) 3 (σ 99 3 0) 1 q ∨ 0 ≤ q ∧ σ4 = up (up (mk3 σ) 3 (σ 99 3 0) 1 q) 3 q 4 1) : MF σ σ4 q := by
  -- both at once
  have e3 : ∀ t r c, t ≠ 3 → σ4 t r c = mk3 σ t r c := by
    intro t r c ht
    rcases e with ⟨-, rfl⟩ | ⟨-, rfl⟩
    · rw [up_ne (fun y => ht y.1)]
    · rw [up_ne (fun y => ht y.1), up_ne (fun y => ht y.1)]
  have e1 : ∀ r c, ¬ (r = σ 99 3 0 ∧ c = 1) → c ≠ 4 → σ4 3 r c = mk3 σ 3 r c := by
    intro r c h h4
    rcases e with ⟨-, rfl⟩ | ⟨-, rfl⟩
    · rw [up_ne (fun y => h ⟨y.2.1, y.2.2⟩)]
    · rw [up_ne (fun y => h4 y.2.2), up_ne (fun y => h ⟨y.2.1, y.2.2⟩)]
  have e11 : σ4 3 (σ 99 3 0) 1 = q := by
    rcases e with ⟨-, rfl⟩ | ⟨-, rfl⟩
    · exact up_at _ _ _ _ _
    · rw [up_ne (by omega)]
      exact up_at _ _ _ _ _
  have e4 : ∀ r, (0 ≤ q ∧ r = q ∧ σ4 3 r 4 = 1) ∨ (¬ (0 ≤ q ∧ r = q) ∧ σ4 3 r 4 = mk3 σ 3 r 4) := by
    intro r
    rcases e with ⟨z, rfl⟩ | ⟨z, rfl⟩
    · exact Or.inr ⟨by omega, by rw [up_ne (by omega)]⟩
    · by_cases y : r = q
      · refine Or.inl ⟨z, y, ?_⟩
        rw [y]
        exact up_at _ _ _ _ _
      · exact Or.inr ⟨fun w => y w.2, by rw [up_ne (fun w => y w.2.1), up_ne (by omega)]⟩
  have m3o : ∀ r c, r ≠ σ 99 3 0 → mk3 σ 3 r c = σ 3 r c := fun r c h => by
    rw [mk3_o (by decide) (by decide), nwJ_o (by omega) (fun y => h y.2)]
  have m3n : ∀ c, mk3 σ 3 (σ 99 3 0) c = Fj (σ 99 3 0) 12 3 c := fun c => by
    rw [mk3_o (by decide) (by decide), nwJ_n (Or.inl rfl)]
  have hj : ∀ t, inT t → t ≠ 3 → ∀ c, σ4 t (σ 99 3 0) c = Fj (σ 99 3 0) 12 t c := fun t h h3 c => by
    rw [e3 t _ _ h3, mk3_o (by unfold inT at h; omega) (by unfold inT at h; omega), nwJ_n h]
  refine ⟨⟨?_, ?_, ?_, ?_⟩, fun c => ?_, fun k c hk hc => ?_, fun k hk => ?_, fun h => ?_, ⟨?_, e11, ?_, ?_, ?_, ?_⟩, fun t k c t1 t2 hk => ?_, fun c => ?_, fun c hc => ⟨?_, ?_, ?_, ?_⟩, fun t r c ht => ?_⟩
  · rw [e3 99 _ _ (by decide), mk3_o (by decide) (by decide)]
    exact gU_c _ _
  · rw [e3 99 _ _ (by decide), mk3_o (by decide) (by decide)]
    exact nwJ_o (by omega) (by unfold inT; omega)
  · rw [e3 99 _ _ (by decide), mk3_o (by decide) (by decide)]
    exact nwJ_o (by omega) (by unfold inT; omega)
  · rw [e3 4 _ _ (by decide)]
    exact up_at _ _ _ _ _
  · rw [e3 6 _ _ (by decide)]
    unfold mk3
    rw [up_ne (by omega)]
    by_cases z : c = σ 99 3 0
    · rw [if_pos z, z, up_at]
    · rw [if_neg z, up_ne (fun y => z y.2.2)]
      exact nwJ_o (by omega) (by unfold inT; omega)
  · rw [e1 k c (fun y => hk y.1) hc, m3o k c hk]
  · rcases e4 k with ⟨-, -, z⟩ | ⟨-, z⟩
    · exact Or.inr z
    · exact Or.inl (z.trans (m3o k 4 hk))
  · rcases e4 q with ⟨-, -, z⟩ | ⟨y, -⟩
    · rw [z]; decide
    · exact absurd ⟨h, rfl⟩ y
  · rw [e1 _ 0 (by omega) (by decide), m3n]; rfl
  · rw [e1 _ 2 (by omega) (by decide), m3n]; rfl
  · rw [e1 _ 3 (by omega) (by decide), m3n]; rfl
  · rcases e4 (σ 99 3 0) with ⟨y, z, -⟩ | ⟨-, z⟩
    · omega
    · rw [z, m3n]; rfl
  · rw [e1 _ 5 (by omega) (by decide), m3n]; rfl
  · rw [e3 t k c (by omega), mk3_o (by omega) (by omega), nwJ_o (by omega) (fun y => hk y.2)]
  · rw [hj 15 (by unfold inT; omega) (by decide)]; rfl
  · rw [hj 16 (by unfold inT; omega) (by decide)]
    unfold Fj
    rw [if_neg (by decide), if_pos rfl, if_pos hc]
  · rw [hj 17 (by unfold inT; omega) (by decide)]
    unfold Fj
    rw [if_neg (by decide), if_neg (by decide), if_pos (Or.inl rfl), if_pos hc]
  · rw [hj 18 (by unfold inT; omega) (by decide)]
    unfold Fj
    rw [if_neg (by decide), if_neg (by decide), if_pos (Or.inr rfl), if_pos hc]
  · rw [hj 19 (by unfold inT; omega) (by decide)]; rfl
  · obtain ⟨a1, a2, a3, a4, a5⟩ := mo_T ht
    rw [e3 t r c a1, mk3_o a3 a2, nwJ_o (fun y => a4 y.1) (fun y => a5 y.1)]
def mkL (L : Int → List Int) (N q : Int) : Int → List Int := fun x => if x = N then N :: lo L q else L x
theorem lo_mkL {L : Int → List Int} {N q v : Int} (h : v < N) : lo (mkL L N q) v = lo L v := by
  by_cases z : v < 0
  · rw [lo_neg z, lo_neg z]
  · rw [lo_pos (by omega), lo_pos (by omega)]
    exact if_neg (by omega)
theorem mk_cx {σ σ4 : ST} {L Sc : Int → List Int} {T q : Int} (h : CO σ L Sc T) (hN : σ 99 3 0 < 24) (hq : -1 ≤ q ∧ q < σ 99 3 0) (hm : MF σ σ4 q) : CX σ4 (mkL L (σ 99 3 0) q) Sc T (σ 99 3 0) ∧ WFk σ4 (σ 99 3 0) ∧ WVk σ4 (σ 99 3 0) ∧ WEk σ4 (mkL L (σ 99 3 0) q) Sc (σ 99 3 0) := by
  obtain ⟨⟨c3, c1, c25, c4⟩, m6, m3, m34, mw, ⟨n0, n1, n2, n3, n4, n5⟩, mt, n15, nv, mo'⟩ := hm
  have hN0 := h.wt.2.1
  have hs2 := h.ws.2.1
  have e0 : ∀ r c, σ4 0 r c = σ 0 r c := fun r c => mo' 0 r c rfl
  have e1 : ∀ r c, σ4 1 r c = σ 1 r c := fun r c => mo' 1 r c rfl
  have e11 : ∀ r c, σ4 11 r c = σ 11 r c := fun r c => mo' 11 r c rfl
  have e12 : ∀ r c, σ4 12 r c = σ 12 r c := fun r c => mo' 12 r c rfl
  have e13 : ∀ r c, σ4 13 r c = σ 13 r c := fun r c => mo' 13 r c rfl
  have l1 : ∀ r, Lv σ4 1 r ↔ Lv σ 1 r := fun r => by unfold Lv; rw [show cnt σ4 1 = σ4 99 1 0 from rfl, c1]; exact Iff.rfl
  have l3 : ∀ r, Lv σ4 3 r → Lv σ 3 r ∨ r = σ 99 3 0 := fun r hr => by
    have a := hr.1
    have b : r < σ4 99 3 0 := hr.2
    by_cases z : r = σ 99 3 0
    · exact Or.inr z
    · exact Or.inl ⟨a, by show r < σ 99 3 0; omega⟩
  have ne : ∀ r, Lv σ 3 r → r ≠ σ 99 3 0 := fun r hr => by have : r < σ 99 3 0 := hr.2; omega
  have hall : ∀ p e, Lv σ 0 p → (0 ≤ e ∧ e < σ 0 p 0) → σ4 13 p e = eW σ4 (mkL L (σ 99 3 0) q) Sc (σ4 11 p e) (σ4 12 p e) := by
    intro p e hp he
    have hd := rp_dom h.ws h.wp hp he
    rw [e11, e12, e13, h.we p e hp he]
    unfold eW
    rw [e1, lo_mkL hd.2, wF_cg (σ := σ) (σ' := σ4) _ (fun k hk => mt 15 k _ (by decide) (by decide) (ne k (lo_mem h.wt h.wl _ _ rfl hd k hk)))]
  have hWT : WT σ4 := by
    refine ⟨by rw [c4, c3], by rw [c3]; omega, fun k hk => ?_⟩
    rw [m6, c1, c3]
    rcases l3 k hk with hk' | rfl
    · obtain ⟨a1, a2, a3, a4, a5, a6, a7⟩ := h.wt.2.2 k hk'
      have hn := ne k hk'
      rw [if_neg hn, m3 k 0 hn (by decide), m3 k 1 hn (by decide), m3 k 2 hn (by decide), m3 k 3 hn (by decide), m3 k 5 hn (by decide)]
      refine ⟨a1, a2, by omega, a4, a5, ?_, a7⟩
      rcases m34 k hn with z | z
      · rw [z]; exact a6
      · exact Or.inr z
    · rw [if_pos rfl, n0, n1, n2, n3, n4, n5]
      exact ⟨rfl, rfl, by omega, by omega, Or.inl rfl, Or.inl rfl, by omega⟩
  refine ⟨⟨hWT, ?_, ⟨by rw [mo' 2 0 1 rfl, c1]; exact h.ws.1, by rw [c1]; exact hs2, fun s hs => ?_⟩, fun p hp => ?_, fun s hs => ?_, fun p i j hp a b c => ?_, fun p hp => ?_, ⟨fun k hk => ?_, fun s hs => ?_⟩, fun k hk hx => ?_, fun k hk hx => ?_, fun k hk hx => ?_, fun p e hp he _ => ?_⟩, ?_, fun m hm => ?_, fun p e hp he _ => ?_⟩
  · refine wl_of (by rw [c3]; omega) (fun x hx => ?_) (fun x hx => (hWT.2.2 x hx).2.2.1)
    rcases l3 x hx with hx' | rfl
    · have hn := ne x hx'
      rw [m3 x 1 hn (by decide), lo_mkL (h.wt.2.2 x hx').2.2.1.2]
      show (if x = σ 99 3 0 then _ else L x) = _
      rw [if_neg hn]
      exact (h.wl x hx').1
    · rw [n1, lo_mkL hq.2]
      exact if_pos rfl
  · have w := h.ws.2.2 s ((l1 s).mp hs)
    simp only [e1, mo' 10 _ _ rfl, c3]
    exact ⟨w.1, w.2.1, w.2.2.1, by omega, w.2.2.2.2⟩
  · have w := h.wp p hp
    simp only [e0, e11, e12, e13, l1]
    exact w
  · simp only [e1]
    exact CX.wc h s ((l1 s).mp hs)
  · rw [e0] at c
    simp only [e11, e12]
    exact CX.wd h p i j hp a b c
  · simp only [e0]
    exact CX.wm h p hp
  · rcases l3 k hk with hk' | rfl
    · have hn := ne k hk'
      rw [m3 k 1 hn (by decide)]
      intro z
      have w := (CX.ww h).1 k hk' z
      have hp := (h.wt.2.2 k hk').2.2.1
      rcases m34 (σ 3 k 1) (by omega) with y | y
      · rw [y]; exact w
      · rw [y]; decide
    · rw [n1]
      exact mw
  · rw [e1]
    intro z
    have w := (CX.ww h).2 s ((l1 s).mp hs) z
    have hp := (h.ws.2.2 s ((l1 s).mp hs)).2.2.2.1
    rcases m34 (σ 1 s 2) (by omega) with y | y
    · rw [y]; exact w
    · rw [y]; decide
  · have hk' := (l3 k hk).resolve_right hx
    exact wfk_cg (m3 k 5 hx (by decide)) (fun j => mt 14 k j (by decide) (by decide) hx) (fun j => mt 15 k j (by decide) (by decide) hx) (h.wf k hk')
  · have hk' := (l3 k hk).resolve_right hx
    exact fun m hm => wvn_cg (mt 15 k m (by decide) (by decide) hx) (mt 16 k m (by decide) (by decide) hx) (mt 17 k m (by decide) (by decide) hx) (mt 18 k m (by decide) (by decide) hx) (mt 19 k m (by decide) (by decide) hx) (CX.wvk h k hk' (lv_m1 hk') m hm)
  · have hk' := (l3 k hk).resolve_right hx
    exact wkk_cg (fun c hc => m3 k c hx (by omega)) (fun j => mt 14 k j (by decide) (by decide) hx) (fun c => e1 _ c) (h.wk k hk')
  · rw [e0] at he
    exact hall p e hp he
  · refine ⟨fun j hj => by omega, fun n hn => ⟨by rw [n15]; exact Or.inl rfl, fun z => absurd (n15 n) z⟩, fun i j hi => by omega⟩
  · obtain ⟨v1, v2, v3, v4⟩ := nv m hm
    unfold WVn
    rw [v1, v2, v3, v4, n15]
    exact ⟨by omega, by omega, by omega, by omega, fun _ => rfl, fun z => absurd rfl z⟩
  · rw [e0] at he
    exact hall p e hp he
/-- .. and what own sees of it -/
def MK (σ σ' : ST) (q : Int) : Prop := (σ' 99 3 0 = σ 99 3 0 + 1 ∧ σ' 99 25 0 = σ 99 25 0) ∧ (∀ t r c, vo t = true → σ' t r c = σ t r c) ∧ (∀ k c, k ≠ σ 99 3 0 → c ≠ 2 → c ≠ 4 → σ' 3 k c = σ 3 k c) ∧ (σ' 3 (σ 99 3 0) 1 = q ∧ σ' 3 (σ 99 3 0) 3 = 0 ∧ σ' 3 (σ 99 3 0) 5 = 0) ∧ (∀ t k c, 14 ≤ t → t ≤ 19 → k ≠ σ 99 3 0 → σ' t k c = σ t k c) ∧ σ 99 1 0 ≤ σ' 99 1 0
theorem mf_mk {σ σ4 σ' : ST} {q : Int} (h : MF σ σ4 q) (ha : AgV σ4 σ') (hle : σ4 99 1 0 ≤ σ' 99 1 0) : MK σ σ' q := by
  obtain ⟨⟨c3, c1, c25, c4⟩, m6, m3, m34, mw, ⟨n0, n1, n2, n3, n4, n5⟩, mt, n15, nv, mo'⟩ := h
  refine ⟨⟨by rw [ha.2.2.1, c3], by rw [ha.2.2.2, c25]⟩, fun t r c ht => ?_, fun k c hk h2 h4 => by rw [ha.2.1 k c h2 h4]; exact m3 k c hk h4, ⟨by rw [ha.2.1 _ 1 (by decide) (by decide)]; exact n1, by rw [ha.2.1 _ 3 (by decide) (by decide)]; exact n3, by rw [ha.2.1 _ 5 (by decide) (by decide)]; exact n5⟩, fun t k c t1 t2 hk => ?_, by rw [← c1]; exact hle⟩
  · rw [ha.1 t r c (vt_of ht)]
    refine mo' t r c ?_
    unfold vo at ht
    split at ht <;> first | rfl | cases ht
  · have e : vt t = true := by
      have e : t = 14 ∨ t = 15 ∨ t = 16 ∨ t = 17 ∨ t = 18 ∨ t = 19 := by omega
      rcases e with rfl | rfl | rfl | rfl | rfl | rfl <;> rfl
    rw [ha.1 t k c e]
    exact mt t k c t1 t2 hk
theorem s_make {κ : KK} {A : Nat → Int → Nat} {σ : ST} {g : GG} {L Sc : Int → List Int} {T : Int} {q : Int} (hc : CO σ L Sc T) (hN24 : σ 99 3 0 < 24) (hq : -1 ≤ q ∧ q < σ 99 3 0) (hh : HR κ A g σ) : Spec κ MX4_make 4 8 90 [vr A 4 0, .int (iI q)] g (fun w h => ∃ (A' : Nat → Int → Nat) (σ' : ST) (L' Sc' : Int → List Int), HR κ A' h σ' ∧ w = some (.int (iI (σ 99 3 0))) ∧ (∀ t, t ≠ 1 → ¬ inT t → A' t = A t) ∧ CO σ' L' Sc' T ∧ MK σ σ' q) := by
  have hT := hc.wt
  have hS := hc.ws
  have h1 := hT.1
  have h2 := hT.2.1
  have hs2 := hS.2.1
  have h02 : 0 ≤ σ 99 3 0 ∧ σ 99 3 0 < 24 := ⟨h2.1, hN24⟩
  refine e_start rfl (by show (lg_sl _).length ≤ 4; simp [lg_sl, cat_rf, cat_i, cat_l, cat_r, cat_n]) (lv := [(0, vr A 4 0), (1, .int (iI q))]) (by simp [lv_args, cat_rf, cat_i, cat_l, cat_r, cat_n]) ?_
  refine r_aload_nO dX4_make_0 rfl rfl ?_
  refine r_iload_n dX4_make_1 rfl rfl ?_
  refine e_callVP (z := MX4_parentAt) dX4_make_2 ml_X4_36 cz_X4_parentAt mk_X4_parentAt ms_X4_parentAt cb4 (by decide) (s_parentAt hq hT) rfl rfl (by simp [cat_rf, cat_i, cat_l, cat_r, cat_n]) (by decide) (by assumption) (lv1 _ 4 (fun _ => rfl)) (fun g hh => ?_)
  refine r_pc 5 rfl ?_
  refine r_astore_nO dX4_make_5 rfl (by decide) ?_
  refine r_aload_nO dX4_make_6 rfl rfl ?_
  refine e_getI (t := 4) (k := 1) 1 dX4_make_7 cb4 (by decide) mf_X4_40 (by rfl) rfl (by assumption) (lv1 _ 4 (fun _ => rfl)) ?_
  refine e_bipush dX4_make_10 (by decide +kernel) ?_
  refine e_ic_lt 25 dX4_make_12 (by decide) ⟨by omega, by omega⟩ ⟨by omega, by omega⟩ (fun h12 => ?_) (fun h12 => by exfalso; omega)
  refine r_pc 25 rfl ?_
  refine r_new (cx := 3) (kc' := 7) (ks' := 78) 3 dX4_make_25 rfl inA3 tyX3_ok mc_X4_9 mn_X3 mi_X3 (by decide) (by decide) (by intro j hj; have e : j = 0 ∨ j = 1 ∨ j = 2 ∨ j = 3 ∨ j = 4 ∨ j = 5 ∨ j = 6 ∨ j = 7 ∨ j = 8 ∨ j = 9 ∨ j = 10 ∨ j = 11 := (by omega); rcases e with rfl | rfl | rfl | rfl | rfl | rfl | rfl | rfl | rfl | rfl | rfl | rfl <;> rfl) (by decide) (by decide) ?_
  have hgn := (hr_lab hh (t := 2) (r := 0) (by decide) (lv1 _ 2 (fun _ => rfl)))
  have hTI : TI κ A (newG g 3 0) σ (gn g) 0 (fun _ => 0) := ⟨hr_new hh 3 0, lab_new_at (by have := hgn.1; have := hgn.2.1; omega) rfl, fun t r a e => by have := (hr_lab hh a e).2.1; omega, fun c => by rw [gi_new_at], fun c => by rw [gr_new_at, if_neg (by omega)], fun i a b => by omega, fun i j a b => by omega⟩
  have hh := hTI.1
  generalize gn g = b at *
  generalize newG g 3 0 = g1 at *
  refine r_dup dX4_make_28 (by first | rfl | exact cat_rf _) ?_
  refine r_aload_nO dX4_make_29 rfl rfl ?_
  refine e_getI (t := 4) (k := 1) 1 dX4_make_30 cb4 (by decide) mf_X4_40 (by rfl) rfl (by assumption) (lv1 _ 4 (fun _ => rfl)) ?_
  refine e_iv h1 ?_
  refine r_callI (zn := yX3_init) (zc := cX3_init) (zl := 3) (kc' := 1) (ks' := 6) dX4_make_33 ml_X4_51 cz_X3_init mk_X3_init (by rfl) (s_initT (σ := σ) h02 hTI) (by rfl) (by rfl) (by simp [cat_rf, cat_i, cat_l, cat_r, cat_n]) (by decide) (by decide) (by decide) (fun w g hq => ?_)
  obtain ⟨A', hh, rfl, hAb, hAo⟩ := hq
  have hAe : ∀ t, ¬ inT t → A' t = A t := fun t z => funext fun r => hAo t r (fun y => z y.1)
  have e5 : Value.ref b = vr A' 3 (σ 99 3 0) := by rw [vr_some h2.1, hAb]
  have e0 : vr A 4 0 = vr A' 4 0 := by unfold vr rf; rw [hAe 4 (by unfold inT; omega)]
  have eq2 : vr A 3 q = vr A' 3 q := by unfold vr rf; rw [hAo 3 q (fun y => by omega)]
  have eq3 : va_rf (rf A 3 q) = vr A' 3 q := eq2
  rw [e5, e0]
  first | rw [eq2] | rw [eq3]
  have hNv := nwJ_lv (σ := σ) h2.1 12
  have e4 : nwJ σ 12 4 0 1 = σ 99 3 0 := (nwJ_o (by omega) (by unfold inT; omega)).trans h1
  refine r_pc 36 rfl ?_
  refine r_astore_nO dX4_make_36 rfl (by decide) ?_
  refine r_stw (by repeat' first | exact True.intro | refine And.intro (fun h => by first | rfl | exact cat_rf _ | exact absurd h (by decide)) ?_) ?_
  refine r_aload_nO dX4_make_37 rfl rfl ?_
  refine e_getF (t := 4) (k := 0) (t1 := 6) dX4_make_38 cb4 (by decide) mf_X4_11 (by rfl) (by rfl) (by decide) (by assumption) (lv1 _ 4 (fun _ => rfl)) ?_
  refine r_aload_nO dX4_make_41 rfl rfl ?_
  refine e_getI (t := 4) (k := 1) 1 dX4_make_42 cb4 (by decide) mf_X4_40 (by rfl) rfl (by assumption) (lv1 _ 4 (fun _ => rfl)) ?_
  refine e_iv e4 ?_
  refine r_aload_nO dX4_make_45 rfl rfl ?_
  refine e_aast (t := 6) (t1 := 3) dX4_make_46 (by decide) (by decide) (by decide) (by intro _; rfl) (by decide) (by intro _; rfl) (by intro _; rfl) (by decide) (by decide) (by rfl) (by assumption) (lv1 _ 6 (fun _ => rfl)) (by have e : ln 6 = 24 := rfl; omega) (by assumption) (fun g hh => ?_)
  refine r_aload_nO dX4_make_47 rfl rfl ?_
  refine r_dup dX4_make_48 (by first | rfl | exact cat_rf _) ?_
  refine e_getI (t := 4) (k := 1) 1 dX4_make_49 cb4 (by decide) mf_X4_40 (by rfl) rfl (by assumption) (lv1 _ 4 (fun _ => rfl)) ?_
  refine e_iv (show _ = σ 99 3 0 from e4) ?_
  by_cases hqn : q < 0
  · have hN3 : Lv (mk3 σ) 3 (σ 99 3 0) := hNv
    have hq3 : -1 ≤ q ∧ q < mk3 σ 99 3 0 := by have e : mk3 σ 99 3 0 = σ 99 3 0 + 1 := gU_c _ _; omega
    refine e_iconst dX4_make_52 ?_
    first | refine e_iadd dX4_make_53 ?_ | refine r_iadd dX4_make_53 ?_
    refine e_putI (t := 4) (k := 1) 1 dX4_make_54 cb4 (by decide) mf_X4_40 (by rfl) (by rfl) (by rfl) (by rfl) (by rfl) rfl (by assumption) (lv1 _ 4 (fun _ => rfl)) (fun g hh => ?_)
    refine r_aload_nO dX4_make_57 rfl rfl ?_
    refine r_aload_nO dX4_make_58 rfl rfl ?_
    refine e_callSV (z := MX4_hangBeneath) dX4_make_59 ml_X4_54 cz_X4_hangBeneath mk_X4_hangBeneath (s_hang0 (σ := mk3 σ) hN3 hq3 hqn) rfl rfl (by simp [cat_rf, cat_i, cat_l, cat_r, cat_n]) (by decide) (by assumption) (fun g hh => ?_)
    refine r_pc 62 rfl ?_
    have hmf := mk3_mf (σ := σ) h2.1 hq (Or.inl ⟨hqn, rfl⟩)
    generalize hs4 : up (mk3 σ) 3 (σ 99 3 0) 1 q = σ4 at *
    obtain ⟨hx4, hFN, hVN, hEN⟩ := mk_cx hc hN24 hq hmf
    have c3 := hmf.1.1
    have n2 := hmf.2.2.2.2.2.1
    have hq4 : -1 ≤ q ∧ q < σ4 99 3 0 := by omega
    refine r_aload_nO dX4_make_62 rfl rfl ?_
    refine r_aload_nO dX4_make_63 rfl rfl ?_
    refine e_getF (t := 4) (k := 2) (t1 := 2) dX4_make_64 cb4 (by decide) mf_X4_18 (by rfl) (by rfl) (by decide) (by assumption) (lv1 _ 4 (fun _ => rfl)) ?_
    refine r_aload_nO dX4_make_67 rfl rfl ?_
    refine e_callV (z := MX2_rootOf) (kc' := 0) (ks' := 0) dX4_make_68 ml_X4_58 cz_X2_rootOf mk_X2_rootOf ms_X2_rootOf cb2 (by decide) (by rfl) (by rfl) (by simp [cat_rf, cat_i, cat_l, cat_r, cat_n]) (by decide) (by assumption) (lv1 _ 2 (fun _ => rfl)) (s_rootOf (σ := σ4) hq4 hx4.ws hh) (by decide) (by decide) (fun w g hq => ?_)
    obtain ⟨A2, σ5, v, hh, rfl, hAL⟩ := hq
    obtain ⟨Sc', hx5, hNF, hvd, hvs, hA2⟩ := hx4.root hq4 hmf.2.2.2.2.1 hAL
    have e3c : ∀ c, σ5 3 (σ 99 3 0) c = σ4 3 (σ 99 3 0) c := fun c => hNF.1 3 _ c (by decide) (by decide) (by decide) (by decide)
    have hN5 : Lv σ5 3 (σ 99 3 0) := ⟨h2.1, by show σ 99 3 0 < σ5 99 3 0; rw [hNF.2.1]; omega⟩
    have f3 : vr A' 3 (σ 99 3 0) = vr A2 3 (σ 99 3 0) := vr_eq hA2 (by decide) _
    refine r_st (show [vr A2 1 v, vr A' 3 (σ 99 3 0)] = [vr A2 1 v, vr A2 3 (σ 99 3 0)] by rw [f3]) ?_
    first | rw [f3] | rw [show va_rf (rf A' 3 (σ 99 3 0)) = vr A2 3 (σ 99 3 0) from f3]
    refine r_pc 71 rfl ?_
    refine e_putR (t := 3) (k := 2) (t1 := 1) 2 dX4_make_71 cb3 (by decide) mf_X4_62 (by rfl) (by rfl) (by intro z; cases z <;> rfl) (by intro z; cases z <;> rfl) (by rfl) (by rfl) (by decide) (by rfl) rfl (by assumption) (by assumption) (by assumption) (fun g hh => ?_)
    refine r_aload_nO dX4_make_74 rfl rfl ?_
    refine e_getI (t := 3) (k := 0) 0 dX4_make_75 cb3 (by decide) mf_X4_66 (by rfl) rfl (by assumption) (by assumption) ?_
    refine e_iv (show _ = σ 99 3 0 from (e3c 0).trans n2.1) ?_
    have hx6 : CX (up σ5 3 (σ 99 3 0) 2 v) _ Sc' T (σ 99 3 0) := hx5.row ((RX.rf' σ5 (σ 99 3 0)).u 3 2 v (by omega)) (by rw [up_at]; exact hvd) (by show 0 ≤ σ5 3 (σ 99 3 0) 5 ∧ σ5 3 (σ 99 3 0) 5 ≤ 12; rw [e3c, n2.2.2.2.2.2]; omega)
    have hag : AgV σ4 (up σ5 3 (σ 99 3 0) 2 v) := hNF.ag.u32 _ v
    have hK : WKk (up σ5 3 (σ 99 3 0) 2 v) Sc' (σ 99 3 0) := fun z => by
      have e2 : up σ5 3 (σ 99 3 0) 2 v 3 (σ 99 3 0) 2 = v := up_at _ _ _ _ _
      rw [e2] at z ⊢
      obtain ⟨v1, v2, v3⟩ := hvs z
      show σ5 1 v 2 = σ5 3 (σ 99 3 0) 1 ∧ σ5 1 v 5 = σ5 3 (σ 99 3 0) 5 ∧ Sc' v = od _ (σ 99 3 0) (σ5 3 (σ 99 3 0) 5).toNat
      rw [e3c, e3c, v1, v2, v3, n2.2.1, n2.2.2.2.2.2]
      exact ⟨rfl, rfl, rfl⟩
    exact r_iret dX4_make_78 rfl ⟨A2, _, _, Sc', hh, rfl, fun t t1 t2 => (hA2 t t1).trans (hAe t t2), hx6.co (wfk_ag hag hFN) (wvk_ag hag hVN) hK (wek_u32 (wek_nf hx4 hNF hEN)), mf_mk hmf hag hNF.2.2.2.1⟩
  · have hN3 : Lv (mk3 σ) 3 (σ 99 3 0) := hNv
    have hq3 : -1 ≤ q ∧ q < mk3 σ 99 3 0 := by have e : mk3 σ 99 3 0 = σ 99 3 0 + 1 := gU_c _ _; omega
    refine e_iconst dX4_make_52 ?_
    first | refine e_iadd dX4_make_53 ?_ | refine r_iadd dX4_make_53 ?_
    refine e_putI (t := 4) (k := 1) 1 dX4_make_54 cb4 (by decide) mf_X4_40 (by rfl) (by rfl) (by rfl) (by rfl) (by rfl) rfl (by assumption) (lv1 _ 4 (fun _ => rfl)) (fun g hh => ?_)
    refine r_aload_nO dX4_make_57 rfl rfl ?_
    refine r_aload_nO dX4_make_58 rfl rfl ?_
    refine e_callSV (z := MX4_hangBeneath) dX4_make_59 ml_X4_54 cz_X4_hangBeneath mk_X4_hangBeneath (s_hang1 (σ := mk3 σ) hN3 hq3 ⟨by omega, hq3.2⟩) rfl rfl (by simp [cat_rf, cat_i, cat_l, cat_r, cat_n]) (by decide) (by assumption) (fun g hh => ?_)
    refine r_pc 62 rfl ?_
    have hmf := mk3_mf (σ := σ) h2.1 hq (Or.inr ⟨by omega, rfl⟩)
    generalize hs4 : up (up (mk3 σ) 3 (σ 99 3 0) 1 q) 3 q 4 1 = σ4 at *
    obtain ⟨hx4, hFN, hVN, hEN⟩ := mk_cx hc hN24 hq hmf
    have c3 := hmf.1.1
    have n2 := hmf.2.2.2.2.2.1
    have hq4 : -1 ≤ q ∧ q < σ4 99 3 0 := by omega
    refine r_aload_nO dX4_make_62 rfl rfl ?_
    refine r_aload_nO dX4_make_63 rfl rfl ?_
    refine e_getF (t := 4) (k := 2) (t1 := 2) dX4_make_64 cb4 (by decide) mf_X4_18 (by rfl) (by rfl) (by decide) (by assumption) (lv1 _ 4 (fun _ => rfl)) ?_
    refine r_aload_nO dX4_make_67 rfl rfl ?_
    refine e_callV (z := MX2_rootOf) (kc' := 0) (ks' := 0) dX4_make_68 ml_X4_58 cz_X2_rootOf mk_X2_rootOf ms_X2_rootOf cb2 (by decide) (by rfl) (by rfl) (by simp [cat_rf, cat_i, cat_l, cat_r, cat_n]) (by decide) (by assumption) (lv1 _ 2 (fun _ => rfl)) (s_rootOf (σ := σ4) hq4 hx4.ws hh) (by decide) (by decide) (fun w g hq => ?_)
    obtain ⟨A2, σ5, v, hh, rfl, hAL⟩ := hq
    obtain ⟨Sc', hx5, hNF, hvd, hvs, hA2⟩ := hx4.root hq4 hmf.2.2.2.2.1 hAL
    have e3c : ∀ c, σ5 3 (σ 99 3 0) c = σ4 3 (σ 99 3 0) c := fun c => hNF.1 3 _ c (by decide) (by decide) (by decide) (by decide)
    have hN5 : Lv σ5 3 (σ 99 3 0) := ⟨h2.1, by show σ 99 3 0 < σ5 99 3 0; rw [hNF.2.1]; omega⟩
    have f3 : vr A' 3 (σ 99 3 0) = vr A2 3 (σ 99 3 0) := vr_eq hA2 (by decide) _
    refine r_st (show [vr A2 1 v, vr A' 3 (σ 99 3 0)] = [vr A2 1 v, vr A2 3 (σ 99 3 0)] by rw [f3]) ?_
    first | rw [f3] | rw [show va_rf (rf A' 3 (σ 99 3 0)) = vr A2 3 (σ 99 3 0) from f3]
    refine r_pc 71 rfl ?_
    refine e_putR (t := 3) (k := 2) (t1 := 1) 2 dX4_make_71 cb3 (by decide) mf_X4_62 (by rfl) (by rfl) (by intro z; cases z <;> rfl) (by intro z; cases z <;> rfl) (by rfl) (by rfl) (by decide) (by rfl) rfl (by assumption) (by assumption) (by assumption) (fun g hh => ?_)
    refine r_aload_nO dX4_make_74 rfl rfl ?_
    refine e_getI (t := 3) (k := 0) 0 dX4_make_75 cb3 (by decide) mf_X4_66 (by rfl) rfl (by assumption) (by assumption) ?_
    refine e_iv (show _ = σ 99 3 0 from (e3c 0).trans n2.1) ?_
    have hx6 : CX (up σ5 3 (σ 99 3 0) 2 v) _ Sc' T (σ 99 3 0) := hx5.row ((RX.rf' σ5 (σ 99 3 0)).u 3 2 v (by omega)) (by rw [up_at]; exact hvd) (by show 0 ≤ σ5 3 (σ 99 3 0) 5 ∧ σ5 3 (σ 99 3 0) 5 ≤ 12; rw [e3c, n2.2.2.2.2.2]; omega)
    have hag : AgV σ4 (up σ5 3 (σ 99 3 0) 2 v) := hNF.ag.u32 _ v
    have hK : WKk (up σ5 3 (σ 99 3 0) 2 v) Sc' (σ 99 3 0) := fun z => by
      have e2 : up σ5 3 (σ 99 3 0) 2 v 3 (σ 99 3 0) 2 = v := up_at _ _ _ _ _
      rw [e2] at z ⊢
      obtain ⟨v1, v2, v3⟩ := hvs z
      show σ5 1 v 2 = σ5 3 (σ 99 3 0) 1 ∧ σ5 1 v 5 = σ5 3 (σ 99 3 0) 5 ∧ Sc' v = od _ (σ 99 3 0) (σ5 3 (σ 99 3 0) 5).toNat
      rw [e3c, e3c, v1, v2, v3, n2.2.1, n2.2.2.2.2.2]
      exact ⟨rfl, rfl, rfl⟩
    exact r_iret dX4_make_78 rfl ⟨A2, _, _, Sc', hh, rfl, fun t t1 t2 => (hA2 t t1).trans (hAe t t2), hx6.co (wfk_ag hag hFN) (wvk_ag hag hVN) hK (wek_u32 (wek_nf hx4 hNF hEN)), mf_mk hmf hag hNF.2.2.2.1⟩
