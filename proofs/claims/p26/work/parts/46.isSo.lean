/-! the row in which the law counts is row 0 of table 26 -/
def hvS (σ : ST) (f : Int → Int) : ST := fun t r c => if t = 99 ∧ c = 0 ∧ r = 26 then 1 else if t = 26 ∧ r = 0 then f c else σ t r c
theorem hvS_o {σ : ST} {f : Int → Int} {t : Nat} {r c : Int} (h : ¬ (t = 99 ∧ r = 26)) (h2 : t ≠ 26) : hvS σ f t r c = σ t r c := by
  unfold hvS
  rw [if_neg (fun y => h ⟨y.1, y.2.2⟩), if_neg (fun y => h2 y.1)]
theorem hvS_n (σ : ST) (f : Int → Int) (c : Int) : hvS σ f 26 0 c = f c := by
  unfold hvS
  rw [if_neg (by omega), if_pos ⟨rfl, rfl⟩]
theorem hvS_u {σ : ST} {f : Int → Int} {s v : Int} : up (hvS σ f) 26 0 s v = hvS σ (fun c => if c = s then v else f c) := by
  funext t r c
  unfold up hvS
  by_cases h : t = 26 ∧ r = 0
  · obtain ⟨rfl, rfl⟩ := h
    by_cases h2 : c = s
    · rw [if_pos ⟨rfl, h2, rfl⟩, if_neg (by omega), if_pos ⟨rfl, rfl⟩]
      exact (if_pos h2).symm
    · rw [if_neg (fun y => h2 y.2.1), if_neg (by omega), if_pos ⟨rfl, rfl⟩, if_neg (by omega), if_pos ⟨rfl, rfl⟩]
      exact (if_neg h2).symm
  · rw [if_neg (fun y => h ⟨y.1, y.2.2⟩), if_neg h, if_neg h]
theorem dt_26 {t c : Nat} : dt t c ≠ 26 := by
  unfold dt
  split <;> decide
theorem fx_26 {t c : Nat} : fx t c ≠ 26 := by
  unfold fx
  split <;> decide
theorem hr_hv {κ : KK} {A : Nat → Int → Nat} {g : GG} {σ : ST} {b : Nat} {f : Int → Int} (h : HR κ A g σ) (hb : lab κ g b 6) (hl : gl g b = 80) (hoff : ∀ t r, t < 27 → Lv σ t r → A t r ≠ b) (hi : ∀ c : Nat, gi g b c = iI (f c)) : HR κ (gA A 26 0 b) g (hvS σ f) := by
  obtain ⟨h1, h2, h3, h4, h5, h6, h7, h8⟩ := h
  have hcnt : ∀ t, t < 27 → (t = 26 ∧ cnt (hvS σ f) t = 1) ∨ (t ≠ 26 ∧ cnt (hvS σ f) t = cnt σ t) := by
    intro t ht
    by_cases e : t = 26
    · subst e
      exact Or.inl ⟨rfl, rfl⟩
    · refine Or.inr ⟨e, ?_⟩
      have e' : t = 0 ∨ t = 1 ∨ t = 2 ∨ t = 3 ∨ t = 4 ∨ t = 5 ∨ t = 6 ∨ t = 7 ∨ t = 8 ∨ t = 9 ∨ t = 10 ∨ t = 11 ∨ t = 12 ∨ t = 13 ∨ t = 14 ∨ t = 15 ∨ t = 16 ∨ t = 17 ∨ t = 18 ∨ t = 19 ∨ t = 20 ∨ t = 21 ∨ t = 22 ∨ t = 23 ∨ t = 24 ∨ t = 25 := by omega
      rcases e' with rfl | rfl | rfl | rfl | rfl | rfl | rfl | rfl | rfl | rfl | rfl | rfl | rfl | rfl | rfl | rfl | rfl | rfl | rfl | rfl | rfl | rfl | rfl | rfl | rfl | rfl <;> rfl
  have old : ∀ t r, t < 27 → Lv (hvS σ f) t r → (t ≠ 26 ∧ Lv σ t r) ∨ (t = 26 ∧ r = 0) := by
    intro t r ht hr
    obtain ⟨ha, hb'⟩ := hr
    rcases hcnt t ht with ⟨e, c⟩ | ⟨e, c⟩
    · rw [c] at hb'
      exact Or.inr ⟨e, by omega⟩
    · rw [c] at hb'
      exact Or.inl ⟨e, ha, hb'⟩
  have sold : ∀ t r c, t < 27 → t ≠ 26 → hvS σ f t r c = σ t r c := fun t r c ht hn => hvS_o (by omega) hn
  have ga : ∀ t r, t ≠ 26 → gA A 26 0 b t r = A t r := fun t r h => gA_ne (fun y => h y.1)
  refine ⟨fun t r a b' => ?_, fun t r t' r' a a' b1 b2 e => ?_, fun t r c a b' e => ?_, fun t r c t' a b' e f' => ?_, fun t r c t' a b' e f' => ?_, fun c hc => ?_, fun c hc => ?_, fun t r c t' a b' e f' => ?_⟩
  · rcases old t r a b' with ⟨n, q⟩ | ⟨rfl, rfl⟩
    · rw [ga t r n]
      exact h1 t r a q
    · rw [gA_at]
      exact ⟨hb, fun _ => hl⟩
  · rcases old t r a b1 with ⟨n, q⟩ | ⟨rfl, rfl⟩
    · rcases old t' r' a' b2 with ⟨n', q'⟩ | ⟨rfl, rfl⟩
      · rw [ga t r n, ga t' r' n'] at e
        exact h2 t r t' r' a a' q q' e
      · rw [ga t r n, gA_at] at e
        exact absurd e (hoff t r a q)
    · rcases old t' r' a' b2 with ⟨n', q'⟩ | ⟨rfl, rfl⟩
      · rw [ga t' r' n', gA_at] at e
        exact absurd e.symm (hoff t' r' a' q')
      · exact ⟨rfl, rfl⟩
  · rcases old t r a b' with ⟨n, q⟩ | ⟨rfl, rfl⟩
    · rw [ga t r n, sold t r c a n]
      exact h3 t r c a q e
    · rw [gA_at, hvS_n]
      exact hi c
  · rcases old t r a b' with ⟨n, q⟩ | ⟨rfl, rfl⟩
    · have n2 : t' ≠ 26 := fun y => dt_26 (e.trans y)
      rw [ga t r n, sold t r c a n, h4 t r c t' a q e f']
      unfold rf
      rw [ga t' _ n2]
    · have : dt 26 c = 99 := rfl
      omega
  · rcases old t r a b' with ⟨n, q⟩ | ⟨rfl, rfl⟩
    · have n2 : t' ≠ 26 := fun y => fx_26 (e.trans y)
      rw [ga t r n, ga t' r n2]
      exact h5 t r c t' a q e f'
    · have : fx 26 c = 99 := rfl
      omega
  · rw [ga 7 _ (by decide), ga 0 _ (by decide)]
    exact h6 c hc
  · rw [ga 21 _ (by decide), ga 22 _ (by decide)]
    exact h7 c hc
  · rcases old t r a b' with ⟨n, q⟩ | ⟨rfl, rfl⟩
    · have n2 : t' ≠ 26 := fun y => dt_26 (e.trans y)
      rw [sold t r c a n]
      have w := h8 t r c t' a q e f'
      rcases hcnt t' f' with ⟨y, -⟩ | ⟨-, y⟩
      · exact absurd y n2
      · rw [y]
        exact w
    · have : dt 26 c = 99 := rfl
      omega
section HV
variable {σ : ST} {L Sc : Int → List Int} {T : Int} {f : Int → Int}
theorem CO.hv (h : CO σ L Sc T) (f : Int → Int) : CO (hvS σ f) L Sc T := by
  have a1 := CX.wc h
  have a2 := CX.wd h
  have a3 := CX.wm h
  have a4 := CX.ww h
  have a5 := CX.wfk h
  have a6 := CX.wvk h
  have a7 := CX.wkk h
  exact ⟨h.wt, h.wl, h.ws, h.wp, a1, a2, a3, a4, a5, a6, fun k hk hx => wkk_cg (σ := σ) (fun _ _ => rfl) (fun _ => rfl) (fun _ => rfl) (a7 k hk hx), fun p e hp he _ => (h.we p e hp he).trans (eW_cg (σ := σ) (σ' := hvS σ f) rfl fun _ _ => rfl).symm⟩
theorem own_hv (h : OWN σ σ) (f : Int → Int) : OWN (hvS σ f) (hvS σ f) := h
/-- how many of the first have each Shape -/
def Fh (σ : ST) (j : Int) : Int → Int := fun c => if 0 ≤ c then sumI (fun i => if σ 3 i 2 = c then 1 else 0) j.toNat else 0
theorem Fh_0 (σ : ST) : Fh σ 0 = fun _ => 0 := by
  funext c
  unfold Fh
  split <;> rfl
theorem Fh_n {j : Int} (h : 0 ≤ j) (hs : σ 3 j 2 < 0) : Fh σ j = Fh σ (j + 1) := by
  funext c
  unfold Fh
  by_cases z : 0 ≤ c
  · rw [if_pos z, if_pos z, sumI_s (F := fun i => if σ 3 i 2 = c then 1 else 0) h (if_neg (show ¬ σ 3 j 2 = c by omega)), Int.add_zero]
  · rw [if_neg z, if_neg z]
theorem Fh_s {j : Int} (h : 0 ≤ j) (hs : 0 ≤ σ 3 j 2) : (fun c => if c = σ 3 j 2 then Fh σ j (σ 3 j 2) + 1 else Fh σ j c) = Fh σ (j + 1) := by
  funext c
  unfold Fh
  by_cases z : c = σ 3 j 2
  · rw [if_pos z, z, if_pos hs, if_pos hs, sumI_s (F := fun i => if σ 3 i 2 = σ 3 j 2 then 1 else 0) h (if_pos rfl)]
  · rw [if_neg z]
    by_cases y : 0 ≤ c
    · rw [if_pos y, if_pos y, sumI_s (F := fun i => if σ 3 i 2 = c then 1 else 0) h (if_neg (show ¬ σ 3 j 2 = c by omega)), Int.add_zero]
    · rw [if_neg y, if_neg y]
theorem Fh_c {s : Int} (h : 0 ≤ s) : Fh σ (σ 99 3 0) s = cS σ s := by
  unfold Fh cS
  rw [if_pos h]
end HV
section HVR
variable {κ : KK} {y : MY} {d kc ks pc : Nat} {lv : List (Nat × Value)} {st : List Value} {g : GG} {Q : Option Value → GG → Prop} {A : Nat → Int → Nat} {σ : ST}
theorem e_hv {kc' ks' : Nat} (hd : decode y.2.1 pc = .ok (.newarray .int, 2)) (hh : HR κ A g σ) (hmc : 1 + kc' ≤ kc) (hms : 80 + ks' ≤ ks) (kk : ∀ (g' : GG) (A' : Nat → Int → Nat), (∀ t, t ≠ 26 → A' t = A t) → HR κ A' g' (hvS σ (fun _ => 0)) → Wp κ y d kc' ks' (pc + 2) lv (vr A' 26 0 :: st) g' Q) : Wp κ y d kc ks pc lv (.int (iI 80) :: st) g Q := by
  refine r_newI (n := 80) (x := iI 80) 6 hd rfl (by decide) rfl hmc hms ?_
  have hgn := (hr_lab hh (t := 2) (r := 0) (by decide) (lv1 _ 2 (fun _ => rfl)))
  have h := hr_hv (f := fun _ => 0) (b := gn g) (hr_new hh 6 80) (lab_new_at (by have := hgn.1; have := hgn.2.1; omega) rfl) (gl_new_at g 6 80) (fun t r a e => by have := (hr_lab hh a e).2.1; omega) (fun c => by rw [gi_new_at]; rfl)
  have k := kk _ _ (fun t ht => by funext r; exact gA_ne (fun y => ht y.1)) h
  rw [vr_some (Int.le_refl 0), gA_at] at k
  exact k
end HVR
theorem st_fF {σ : ST} {k n : Int} (h : σ 15 k n = 0) : bI (¬ σ 15 k n = 0) + bI (isPr (σ 15 k n)) = 0 := by
  rw [bI_f (fun z => z h), bI_f (by unfold isPr; omega)]
  rfl
theorem s_isSo {κ : KK} {A : Nat → Int → Nat} {σ : ST} {g : GG} {L Sc : Int → List Int} {T : Int} (hc : CO σ L Sc T) (hT60 : T ≤ 1000) (hO : OWN σ σ) (hN1 : 1 ≤ σ 99 3 0) (hh : HR κ A g σ) : Spec κ ML_isSo 10 1 80 [vr A 4 0, vr A 5 0] g (LQ κ A σ T) := by
  have hT := hc.wt
  have hL := hc.wl
  have hS := hc.ws
  have hP := hc.wp
  have hF' := hc.wf
  have hV := hc.wv
  obtain ⟨N, hNn⟩ : ∃ N : Nat, (N : Int) = σ 99 3 0 := ⟨(σ 99 3 0).toNat, by have := hc.wt.2.1; omega⟩
  have hN24 := hT.2.1
  have h5 : σ 5 0 4 = (N : Int) := hO.1.trans hNn.symm
  have hs1 := hS.1
  have hs2 := hS.2.1
  have hcF := fun f => hc.hv f
  have hOF := fun f => own_hv hO f
  suffices hmain : ∀ (A' : Nat → Int → Nat), (∀ t, t ≠ 26 → A' t = A t) → ∀ g, HR κ A' g (hvS σ (Fh σ 0)) → Wp κ ML_isSo 10 0 0 27 [(0, vr A' 4 0), (1, vr A' 5 0), (2, .int (iI (4 * σ 99 1 0 + 3 * sumI (fun p => σ 0 p 0) 6))), (3, .int (iI 0)), (4, .int (iI 0)), (5, vr A' 26 0)] [] g (LQ κ A σ T) by
    refine e_start rfl (by show (lg_sl _).length ≤ 9; simp [lg_sl, cat_rf, cat_i, cat_l, cat_r, cat_n]) (lv := [(0, vr A 4 0), (1, vr A 5 0)]) (by simp [lv_args, cat_rf, cat_i, cat_l, cat_r, cat_n]) ?_
    refine e_iconst dL_isSo_0 ?_
    refine r_aload_nO dL_isSo_1 rfl rfl ?_
    refine e_iconst dL_isSo_2 ?_
    refine e_callVP (z := MX4_many) dL_isSo_3 ml_L_29 cz_X4_many mk_X4_many ms_X4_many cb4 (by decide) (s_many2 hT hS hF') rfl rfl (by simp [cat_rf, cat_i, cat_l, cat_r, cat_n]) (by decide) (by assumption) (lv1 _ 4 (fun _ => rfl)) (fun g hh => ?_)
    refine r_pc 6 rfl ?_
    first | refine e_imul dL_isSo_6 ?_ | refine r_imul dL_isSo_6 ?_
    refine e_iconst dL_isSo_7 ?_
    refine r_aload_nO dL_isSo_8 rfl rfl ?_
    refine e_iconst dL_isSo_9 ?_
    refine e_callVP (z := MX4_many) dL_isSo_10 ml_L_29 cz_X4_many mk_X4_many ms_X4_many cb4 (by decide) (s_many4 hT hS hF') rfl rfl (by simp [cat_rf, cat_i, cat_l, cat_r, cat_n]) (by decide) (by assumption) (lv1 _ 4 (fun _ => rfl)) (fun g hh => ?_)
    refine r_pc 13 rfl ?_
    first | refine e_imul dL_isSo_13 ?_ | refine r_imul dL_isSo_13 ?_
    first | refine e_iadd dL_isSo_14 ?_ | refine r_iadd dL_isSo_14 ?_
    refine r_istore_n dL_isSo_15 rfl (by decide) ?_
    refine r_stw (by repeat' first | exact True.intro | refine And.intro (fun h => by first | rfl | exact cat_rf _ | exact absurd h (by decide)) ?_) ?_
    refine e_iconst dL_isSo_16 ?_
    refine r_istore_n dL_isSo_17 rfl (by decide) ?_
    refine e_iconst dL_isSo_18 ?_
    refine r_istore dL_isSo_19 (by decide) ?_
    refine e_bipush dL_isSo_21 (by decide +kernel) ?_
    refine e_hv dL_isSo_23 (by assumption) (kc' := 0) (ks' := 0) (by decide) (by decide) (fun g A' hA hh => ?_)
    rw [← Fh_0 σ] at hh
    have f4 : vr A 4 0 = vr A' 4 0 := by unfold vr rf; rw [hA 4 (by decide)]
    have f5 : vr A 5 0 = vr A' 5 0 := by unfold vr rf; rw [hA 5 (by decide)]
    rw [f4, f5]
    refine r_astoreO dL_isSo_25 (by decide) ?_
    refine r_lv [(0, vr A' 4 0), (1, vr A' 5 0), (2, .int (iI (4 * σ 99 1 0 + 3 * sumI (fun p => σ 0 p 0) 6))), (3, .int (iI 0)), (4, .int (iI 0)), (5, vr A' 26 0)] rfl ?_
    exact hmain A' hA g hh
  intro A' hA
  have hA45 : A' 4 = A 4 ∧ A' 5 = A 5 := ⟨hA 4 (by decide), hA 5 (by decide)⟩
  have fin : ∀ w f l u : Int, w = 4 * σ 99 1 0 + 3 * sumI (fun p => σ 0 p 0) 6 + sumI (fun k => wds σ k) (σ 99 3 0).toNat → f = sumI (fun k => σ 3 k 5) (σ 99 3 0).toNat → l = sumI (fun k => if σ 3 k 2 = -1 then 1 else 0) (σ 99 3 0).toNat → u = sumI (fun s => if cS σ s = 0 then 1 else 0) (σ 99 1 0).toNat → ∀ g, HR κ A' g (hvS σ (Fh σ (σ 99 3 0))) → Wp κ ML_isSo 10 0 0 421 [(0, vr A' 4 0), (1, vr A' 5 0), (2, .int (iI w)), (3, .int (iI f)), (4, .int (iI l)), (5, vr A' 26 0), (6, .int (iI u))] [] g (LQ κ A σ T) := by
    intro w f l u hw hf hl hu g hh
    refine r_aload_nO dL_isSo_421 rfl rfl ?_
    refine e_iconst dL_isSo_422 ?_
    refine e_callVP (z := MX4_many) dL_isSo_423 ml_L_29 cz_X4_many mk_X4_many ms_X4_many cb4 (by decide) (s_many0 (hcF _).wt (hcF _).ws (hcF _).wf) rfl rfl (by simp [cat_rf, cat_i, cat_l, cat_r, cat_n]) (by decide) (by assumption) (lv1 _ 4 (fun _ => rfl)) (fun g hh => ?_)
    refine r_pc 426 rfl ?_
    refine r_aload_nO dL_isSo_426 rfl rfl ?_
    refine e_getIN (t := 5) (k := 4) 4 dL_isSo_427 cb5 (by decide) (List.mem_of_getElem? (i := 4) rfl) (by rfl) rfl (by assumption) (lv1 _ 5 (fun _ => rfl)) ?_
    refine r_ic_ne 485 dL_isSo_430 (by decide) (fun h430 => by exact (h430 (congrArg iI hO.1.symm)).elim) (fun h430 => ?_)
    refine r_pc 433 rfl ?_
    refine r_aload_nO dL_isSo_433 rfl rfl ?_
    refine e_iconst dL_isSo_434 ?_
    refine e_callVP (z := MX4_many) dL_isSo_435 ml_L_29 cz_X4_many mk_X4_many ms_X4_many cb4 (by decide) (s_many1 (hcF _).wt (hcF _).ws (hcF _).wf) rfl rfl (by simp [cat_rf, cat_i, cat_l, cat_r, cat_n]) (by decide) (by assumption) (lv1 _ 4 (fun _ => rfl)) (fun g hh => ?_)
    refine r_pc 438 rfl ?_
    refine r_iload_n dL_isSo_438 rfl rfl ?_
    refine r_ic_ne 485 dL_isSo_439 (by decide) (fun h439 => by exact (h439 (congrArg iI (by rw [hf]; rfl))).elim) (fun h439 => ?_)
    refine r_pc 442 rfl ?_
    refine r_aload_nO dL_isSo_442 rfl rfl ?_
    refine e_iconst dL_isSo_443 ?_
    refine e_callVP (z := MX4_many) dL_isSo_444 ml_L_29 cz_X4_many mk_X4_many ms_X4_many cb4 (by decide) (s_many3 (hcF _).wt (hcF _).ws (hcF _).wf) rfl rfl (by simp [cat_rf, cat_i, cat_l, cat_r, cat_n]) (by decide) (by assumption) (lv1 _ 4 (fun _ => rfl)) (fun g hh => ?_)
    refine r_pc 447 rfl ?_
    refine r_iload dL_isSo_447 rfl ?_
    refine r_ic_ne 485 dL_isSo_449 (by decide) (fun h449 => by exact (h449 (congrArg iI (by rw [hl]; rfl))).elim) (fun h449 => ?_)
    refine r_pc 452 rfl ?_
    refine r_aload_nO dL_isSo_452 rfl rfl ?_
    refine e_bipush dL_isSo_453 (by decide +kernel) ?_
    refine e_callVP (z := MX4_many) dL_isSo_455 ml_L_29 cz_X4_many mk_X4_many ms_X4_many cb4 (by decide) (s_many8 (hcF _).wt (hcF _).ws (hcF _).wf) rfl rfl (by simp [cat_rf, cat_i, cat_l, cat_r, cat_n]) (by decide) (by assumption) (lv1 _ 4 (fun _ => rfl)) (fun g hh => ?_)
    refine r_pc 458 rfl ?_
    refine r_iload_n dL_isSo_458 rfl rfl ?_
    refine r_ic_ne 485 dL_isSo_459 (by decide) (fun h459 => by exact (h459 (congrArg iI (by rw [hw]; rfl))).elim) (fun h459 => ?_)
    refine r_pc 462 rfl ?_
    refine r_aload_nO dL_isSo_462 rfl rfl ?_
    refine e_bipush dL_isSo_463 (by decide +kernel) ?_
    refine e_callVP (z := MX4_many) dL_isSo_465 ml_L_29 cz_X4_many mk_X4_many ms_X4_many cb4 (by decide) (s_many10 (hcF _).wt (hcF _).ws (hcF _).wf) rfl rfl (by simp [cat_rf, cat_i, cat_l, cat_r, cat_n]) (by decide) (by assumption) (lv1 _ 4 (fun _ => rfl)) (fun g hh => ?_)
    refine r_pc 468 rfl ?_
    refine r_iload dL_isSo_468 rfl ?_
    refine r_ic_ne 485 dL_isSo_470 (by decide) (fun h470 => by exact (h470 (congrArg iI (by rw [hu]; rfl))).elim) (fun h470 => ?_)
    refine r_pc 473 rfl ?_
    refine r_aload_nO dL_isSo_473 rfl rfl ?_
    refine r_aload_nO dL_isSo_474 rfl rfl ?_
    refine e_callSP (z := ML_arePlacesRight) dL_isSo_475 ml_L_106 cz_L_arePlacesRight mk_L_arePlacesRight (s_places (σ := (hvS σ (Fh σ (σ 99 3 0)))) (hcF _) hT60 (hOF _) hN1) rfl rfl (by simp [cat_rf, cat_i, cat_l, cat_r, cat_n]) (by decide) (by assumption) (fun g hh => ?_)
    refine r_pc 478 rfl ?_
    refine e_if_eq 485 dL_isSo_478 (by decide) ⟨by omega, by omega⟩ (fun h478 => by exfalso; omega) (fun h478 => ?_)
    refine r_pc 481 rfl ?_
    refine e_iconst dL_isSo_481 ?_
    refine r_goto 486 dL_isSo_482 (by decide) ?_
    exact r_zret dL_isSo_486 rfl (narrow_01 (by omega)) ⟨A', _, L, Sc, hh, rfl, hA45, hcF _, hOF _, Int.le_refl _, SD.rf' σ, Int.le_refl _⟩
  have aft : ∀ w f l : Int, w = 4 * σ 99 1 0 + 3 * sumI (fun p => σ 0 p 0) 6 + sumI (fun k => wds σ k) (σ 99 3 0).toNat → f = sumI (fun k => σ 3 k 5) (σ 99 3 0).toNat → l = sumI (fun k => if σ 3 k 2 = -1 then 1 else 0) (σ 99 3 0).toNat → ∀ g, HR κ A' g (hvS σ (Fh σ (σ 99 3 0))) → Wp κ ML_isSo 10 0 0 352 [(0, vr A' 4 0), (1, vr A' 5 0), (2, .int (iI w)), (3, .int (iI f)), (4, .int (iI l)), (5, vr A' 26 0)] [] g (LQ κ A σ T) := by
    intro w f l hw hf hl
    have sloop : ∀ m : Nat, ∀ s : Int, ∀ u : Int, 0 ≤ s → s + (m : Int) = σ 99 1 0 → (u = sumI (fun s => if cS σ s = 0 then 1 else 0) s.toNat) → ∀ g, HR κ A' g (hvS σ (Fh σ (σ 99 3 0))) → Wp κ ML_isSo 10 0 0 358 [(0, vr A' 4 0), (1, vr A' 5 0), (2, .int (iI w)), (3, .int (iI f)), (4, .int (iI l)), (5, vr A' 26 0), (6, .int (iI u)), (7, .int (iI s))] [] g (LQ κ A σ T) := by
      intro m
      induction m with
      | zero =>
        intro s u hj0 hjm hu g hh
        refine r_iload dL_isSo_358 rfl ?_
        refine r_aload_nO dL_isSo_360 rfl rfl ?_
        refine e_iconst dL_isSo_361 ?_
        refine e_callVP (z := MX4_many) dL_isSo_362 ml_L_29 cz_X4_many mk_X4_many ms_X4_many cb4 (by decide) (s_many2 (hcF _).wt (hcF _).ws (hcF _).wf) rfl rfl (by simp [cat_rf, cat_i, cat_l, cat_r, cat_n]) (by decide) (by assumption) (lv1 _ 4 (fun _ => rfl)) (fun g hh => ?_)
        refine r_pc 365 rfl ?_
        refine e_iv (show _ = σ 99 1 0 from rfl) ?_
        refine e_ic_ge 421 dL_isSo_365 (by decide) ⟨by omega, by omega⟩ ⟨by omega, by omega⟩ (fun h365 => ?_) (fun h365 => by exfalso; omega)
        refine r_pc 421 rfl ?_
        refine r_lv [(0, vr A' 4 0), (1, vr A' 5 0), (2, .int (iI w)), (3, .int (iI f)), (4, .int (iI l)), (5, vr A' 26 0), (6, .int (iI u))] rfl ?_
        exact fin w f l u hw hf hl (by rw [hu, show s = σ 99 1 0 by omega]) g hh
      | succ m ih =>
        intro s u hj0 hjm hu g hh
        have hsk : Lv σ 1 s := ⟨hj0, by show s < σ 99 1 0; omega⟩
        have h80 : 0 ≤ s ∧ s < 80 := by omega
        have hsz := (hS.2.2 s hsk).2.2.2.2.2.2
        have hcs := cS_r σ s (σ 99 3 0).toNat
        have hcs2 : 0 ≤ cS σ s ∧ cS σ s ≤ 24 := by unfold cS; omega
        have hlv : Lv (hvS σ (Fh σ (σ 99 3 0))) 26 0 := ⟨Int.le_refl 0, by show (0 : Int) < 1; omega⟩
        have hFs : ∀ z, z = (hvS σ (Fh σ (σ 99 3 0))) 26 0 s → z = cS σ s := fun z e => by rw [e, hvS_n, Fh_c hj0]
        refine r_iload dL_isSo_358 rfl ?_
        refine r_aload_nO dL_isSo_360 rfl rfl ?_
        refine e_iconst dL_isSo_361 ?_
        refine e_callVP (z := MX4_many) dL_isSo_362 ml_L_29 cz_X4_many mk_X4_many ms_X4_many cb4 (by decide) (s_many2 (hcF _).wt (hcF _).ws (hcF _).wf) rfl rfl (by simp [cat_rf, cat_i, cat_l, cat_r, cat_n]) (by decide) (by assumption) (lv1 _ 4 (fun _ => rfl)) (fun g hh => ?_)
        refine r_pc 365 rfl ?_
        refine e_iv (show _ = σ 99 1 0 from rfl) ?_
        refine e_ic_ge 421 dL_isSo_365 (by decide) ⟨by omega, by omega⟩ ⟨by omega, by omega⟩ (fun h365 => by exfalso; omega) (fun h365 => ?_)
        refine r_pc 368 rfl ?_
        refine r_iload dL_isSo_368 rfl ?_
        refine r_aloadO dL_isSo_370 rfl ?_
        refine r_iload dL_isSo_372 rfl ?_
        refine e_iald (t := 26) dL_isSo_374 (by decide) (by decide) (by rfl) (by intro _; rfl) (by assumption) (by assumption) (by have e : ln 26 = 80 := rfl; omega) ?_
        refine e_iv (hFs _ rfl) ?_
        refine e_if_ne 382 dL_isSo_375 (by decide) ⟨by omega, by omega⟩ (fun h375 => ?_) (fun h375 => ?_)
        · refine r_pc 382 rfl ?_
          refine e_iconst dL_isSo_382 ?_
          first | refine e_iadd dL_isSo_383 ?_ | refine r_iadd dL_isSo_383 ?_
          refine r_istore dL_isSo_384 (by decide) ?_
          refine r_stw (by repeat' first | exact True.intro | refine And.intro (fun h => by first | rfl | exact cat_rf _ | exact absurd h (by decide)) ?_) ?_
          refine r_aload_nO dL_isSo_386 rfl rfl ?_
          refine r_iload dL_isSo_387 rfl ?_
          refine e_iconst dL_isSo_389 ?_
          refine e_callVP (z := MX4_ofShape) dL_isSo_390 ml_L_91 cz_X4_ofShape mk_X4_ofShape ms_X4_ofShape cb4 (by decide) (s_ofShape5 (σ := (hvS σ (Fh σ (σ 99 3 0)))) hsk (hcF _).wt (hcF _).ws) rfl rfl (by simp [cat_rf, cat_i, cat_l, cat_r, cat_n]) (by decide) (by assumption) (lv1 _ 4 (fun _ => rfl)) (fun g hh => ?_)
          refine r_pc 393 rfl ?_
          refine e_iv (show _ = cS σ s from rfl) ?_
          refine r_aloadO dL_isSo_393 rfl ?_
          refine r_iload dL_isSo_395 rfl ?_
          refine e_iald (t := 26) dL_isSo_397 (by decide) (by decide) (by rfl) (by intro _; rfl) (by assumption) (by assumption) (by have e : ln 26 = 80 := rfl; omega) ?_
          refine e_iv (hFs _ rfl) ?_
          refine r_ic_ne 413 dL_isSo_398 (by decide) (fun h398 => by exact absurd rfl h398) (fun h398 => ?_)
          refine r_pc 401 rfl ?_
          refine r_aload_nO dL_isSo_401 rfl rfl ?_
          refine r_iload dL_isSo_402 rfl ?_
          refine e_iconst dL_isSo_404 ?_
          refine e_callVP (z := MX4_ofShape) dL_isSo_405 ml_L_91 cz_X4_ofShape mk_X4_ofShape ms_X4_ofShape cb4 (by decide) (s_ofShape2 (σ := (hvS σ (Fh σ (σ 99 3 0)))) hsk (hcF _).wt (hcF _).ws) rfl rfl (by simp [cat_rf, cat_i, cat_l, cat_r, cat_n]) (by decide) (by assumption) (lv1 _ 4 (fun _ => rfl)) (fun g hh => ?_)
          refine r_pc 408 rfl ?_
          refine e_iv (show _ = σ 1 s 5 from rfl) ?_
          refine e_bipush dL_isSo_408 (by decide +kernel) ?_
          refine e_ic_le 415 dL_isSo_410 (by decide) ⟨by omega, by omega⟩ ⟨by omega, by omega⟩ (fun h410 => ?_) (fun h410 => by exfalso; omega)
          refine r_pc 415 rfl ?_
          refine e_iinc dL_isSo_415 rfl (by decide) ?_
          refine r_goto 358 dL_isSo_418 (by decide) ?_
          refine r_lv [(0, vr A' 4 0), (1, vr A' 5 0), (2, .int (iI w)), (3, .int (iI f)), (4, .int (iI l)), (5, vr A' 26 0), (6, .int (iI (u + 0))), (7, .int (iI (s + 1)))] rfl ?_
          exact ih (s + 1) _ (by omega) (by omega) (sumI_e hj0 hu (if_neg h375) rfl) g hh
        · refine r_pc 378 rfl ?_
          refine e_iconst dL_isSo_378 ?_
          refine r_goto 383 dL_isSo_379 (by decide) ?_
          first | refine e_iadd dL_isSo_383 ?_ | refine r_iadd dL_isSo_383 ?_
          refine r_istore dL_isSo_384 (by decide) ?_
          refine r_stw (by repeat' first | exact True.intro | refine And.intro (fun h => by first | rfl | exact cat_rf _ | exact absurd h (by decide)) ?_) ?_
          refine r_aload_nO dL_isSo_386 rfl rfl ?_
          refine r_iload dL_isSo_387 rfl ?_
          refine e_iconst dL_isSo_389 ?_
          refine e_callVP (z := MX4_ofShape) dL_isSo_390 ml_L_91 cz_X4_ofShape mk_X4_ofShape ms_X4_ofShape cb4 (by decide) (s_ofShape5 (σ := (hvS σ (Fh σ (σ 99 3 0)))) hsk (hcF _).wt (hcF _).ws) rfl rfl (by simp [cat_rf, cat_i, cat_l, cat_r, cat_n]) (by decide) (by assumption) (lv1 _ 4 (fun _ => rfl)) (fun g hh => ?_)
          refine r_pc 393 rfl ?_
          refine e_iv (show _ = cS σ s from rfl) ?_
          refine r_aloadO dL_isSo_393 rfl ?_
          refine r_iload dL_isSo_395 rfl ?_
          refine e_iald (t := 26) dL_isSo_397 (by decide) (by decide) (by rfl) (by intro _; rfl) (by assumption) (by assumption) (by have e : ln 26 = 80 := rfl; omega) ?_
          refine e_iv (hFs _ rfl) ?_
          refine r_ic_ne 413 dL_isSo_398 (by decide) (fun h398 => by exact absurd rfl h398) (fun h398 => ?_)
          refine r_pc 401 rfl ?_
          refine r_aload_nO dL_isSo_401 rfl rfl ?_
          refine r_iload dL_isSo_402 rfl ?_
          refine e_iconst dL_isSo_404 ?_
          refine e_callVP (z := MX4_ofShape) dL_isSo_405 ml_L_91 cz_X4_ofShape mk_X4_ofShape ms_X4_ofShape cb4 (by decide) (s_ofShape2 (σ := (hvS σ (Fh σ (σ 99 3 0)))) hsk (hcF _).wt (hcF _).ws) rfl rfl (by simp [cat_rf, cat_i, cat_l, cat_r, cat_n]) (by decide) (by assumption) (lv1 _ 4 (fun _ => rfl)) (fun g hh => ?_)
          refine r_pc 408 rfl ?_
          refine e_iv (show _ = σ 1 s 5 from rfl) ?_
          refine e_bipush dL_isSo_408 (by decide +kernel) ?_
          refine e_ic_le 415 dL_isSo_410 (by decide) ⟨by omega, by omega⟩ ⟨by omega, by omega⟩ (fun h410 => ?_) (fun h410 => by exfalso; omega)
          refine r_pc 415 rfl ?_
          refine e_iinc dL_isSo_415 rfl (by decide) ?_
          refine r_goto 358 dL_isSo_418 (by decide) ?_
          refine r_lv [(0, vr A' 4 0), (1, vr A' 5 0), (2, .int (iI w)), (3, .int (iI f)), (4, .int (iI l)), (5, vr A' 26 0), (6, .int (iI (u + 1))), (7, .int (iI (s + 1)))] rfl ?_
          exact ih (s + 1) _ (by omega) (by omega) (sumI_e hj0 hu (if_pos h375) rfl) g hh
    intro g hh
    refine e_iconst dL_isSo_352 ?_
    refine r_istore dL_isSo_353 (by decide) ?_
    refine r_stw (by repeat' first | exact True.intro | refine And.intro (fun h => by first | rfl | exact cat_rf _ | exact absurd h (by decide)) ?_) ?_
    refine e_iconst dL_isSo_355 ?_
    refine r_istore dL_isSo_356 (by decide) ?_
    refine r_lv [(0, vr A' 4 0), (1, vr A' 5 0), (2, .int (iI w)), (3, .int (iI f)), (4, .int (iI l)), (5, vr A' 26 0), (6, .int (iI 0)), (7, .int (iI 0))] rfl ?_
    exact sloop (σ 99 1 0).toNat 0 0 (by omega) (by omega) rfl g hh
  have main : ∀ m : Nat, ∀ k : Int, ∀ w : Int, ∀ f : Int, ∀ l : Int, 0 ≤ k → k + (m : Int) = (N : Int) → (w = 4 * σ 99 1 0 + 3 * sumI (fun p => σ 0 p 0) 6 + sumI (fun k => wds σ k) k.toNat) → (f = sumI (fun k => σ 3 k 5) k.toNat) → (l = sumI (fun k => if σ 3 k 2 = -1 then 1 else 0) k.toNat) → ∀ g, HR κ A' g (hvS σ (Fh σ k)) → Wp κ ML_isSo 10 0 0 30 [(0, vr A' 4 0), (1, vr A' 5 0), (2, .int (iI w)), (3, .int (iI f)), (4, .int (iI l)), (5, vr A' 26 0), (6, .int (iI k))] [] g (LQ κ A σ T) := by
    intro m
    induction m with
    | zero =>
      intro k w f l hj0 hjm hw hf hl g hh
      refine r_iload dL_isSo_30 rfl ?_
      refine r_aload_nO dL_isSo_32 rfl rfl ?_
      refine e_getIN (t := 5) (k := 4) 4 dL_isSo_33 cb5 (by decide) (List.mem_of_getElem? (i := 4) rfl) (by rfl) rfl (by assumption) (lv1 _ 5 (fun _ => rfl)) ?_
      refine e_iv h5 ?_
      refine e_ic_ge 352 dL_isSo_36 (by decide) ⟨by omega, by omega⟩ ⟨by omega, by omega⟩ (fun h36 => ?_) (fun h36 => by exfalso; omega)
      refine r_pc 352 rfl ?_
      have hkN : k = σ 99 3 0 := by omega
      rw [hkN] at hw hf hl hh
      refine r_lv [(0, vr A' 4 0), (1, vr A' 5 0), (2, .int (iI w)), (3, .int (iI f)), (4, .int (iI l)), (5, vr A' 26 0)] rfl ?_
      exact aft w f l hw hf hl g hh
    | succ m ih =>
      intro k w f l hj0 hjm hw hf hl g hh
      have hk : Lv σ 3 k := ⟨hj0, by show k < σ 99 3 0; omega⟩
      obtain ⟨hk22, hk24⟩ := lv24 (σ := σ) hT hk
      obtain ⟨ho20, ho23, ho24⟩ := hO.2.1 k hk
      have hz := wt_sz hT hk
      have hkd := kd3 hk
      obtain ⟨ht1, ht2, ht3, ht4, ht5, ht6, ht7⟩ := hT.2.2 k hk
      have ihk := ih
      have nxt : ∀ w f l : Int, w = 4 * σ 99 1 0 + 3 * sumI (fun p => σ 0 p 0) 6 + sumI (fun k => wds σ k) (k + 1).toNat → f = sumI (fun k => σ 3 k 5) (k + 1).toNat → l = sumI (fun k => if σ 3 k 2 = -1 then 1 else 0) (k + 1).toNat → ∀ g, HR κ A' g (hvS σ (Fh σ (k + 1))) → Wp κ ML_isSo 10 0 0 346 [(0, vr A' 4 0), (1, vr A' 5 0), (2, .int (iI w)), (3, .int (iI f)), (4, .int (iI l)), (5, vr A' 26 0), (6, .int (iI k))] [] g (LQ κ A σ T) := by
        intro w f l hw hf hl g hh
        refine e_iinc dL_isSo_346 rfl (by decide) ?_
        refine r_stw (by repeat' first | exact True.intro | refine And.intro (fun h => by first | rfl | exact cat_rf _ | exact absurd h (by decide)) ?_) ?_
        refine r_goto 30 dL_isSo_349 (by decide) ?_
        refine r_lv [(0, vr A' 4 0), (1, vr A' 5 0), (2, .int (iI w)), (3, .int (iI f)), (4, .int (iI l)), (5, vr A' 26 0), (6, .int (iI (k + 1)))] rfl ?_
        exact ihk (k + 1) w f l (by omega) (by omega) hw hf hl g hh
      have names : ∀ w f l : Int, w = 4 * σ 99 1 0 + 3 * sumI (fun p => σ 0 p 0) 6 + sumI (fun k => wds σ k) (k + 1).toNat → f = sumI (fun k => σ 3 k 5) (k + 1).toNat → l = sumI (fun k => if σ 3 k 2 = -1 then 1 else 0) (k + 1).toNat → ∀ g, HR κ A' g (hvS σ (Fh σ (k + 1))) → Wp κ ML_isSo 10 0 0 271 [(0, vr A' 4 0), (1, vr A' 5 0), (2, .int (iI w)), (3, .int (iI f)), (4, .int (iI l)), (5, vr A' 26 0), (6, .int (iI k))] [] g (LQ κ A σ T) := by
        intro w f l hw hf hl
        have nloop : ∀ m : Nat, ∀ n : Int, 0 ≤ n → n + (m : Int) = 12 → ∀ g, HR κ A' g (hvS σ (Fh σ (k + 1))) → Wp κ ML_isSo 10 0 0 274 [(0, vr A' 4 0), (1, vr A' 5 0), (2, .int (iI w)), (3, .int (iI f)), (4, .int (iI l)), (5, vr A' 26 0), (6, .int (iI k)), (8, .int (iI n))] [] g (LQ κ A σ T) := by
          intro m
          induction m with
          | zero =>
            intro n hj0 hjm g hh
            refine r_iload dL_isSo_274 rfl ?_
            refine e_bipush dL_isSo_276 (by decide +kernel) ?_
            refine e_ic_ge 346 dL_isSo_278 (by decide) ⟨by omega, by omega⟩ ⟨by omega, by omega⟩ (fun h278 => ?_) (fun h278 => by exfalso; omega)
            refine r_pc 346 rfl ?_
            refine r_lv [(0, vr A' 4 0), (1, vr A' 5 0), (2, .int (iI w)), (3, .int (iI f)), (4, .int (iI l)), (5, vr A' 26 0), (6, .int (iI k))] rfl ?_
            exact nxt w f l hw hf hl g hh
          | succ m ih =>
            intro n hj0 hjm g hh
            have hn : 0 ≤ n ∧ n < 12 := by omega
            obtain ⟨q, hq, hql⟩ := s_place (κ := κ) (A := A') (τ := (hvS σ (Fh σ (k + 1)))) (σ := (hvS σ (Fh σ (k + 1)))) (hOF _) (hcF _).wt (hcF _).wl (hcF _).wf (hcF _).wv hk hn
            have hFk := hF' k hk
            refine r_iload dL_isSo_274 rfl ?_
            refine e_bipush dL_isSo_276 (by decide +kernel) ?_
            refine e_ic_ge 346 dL_isSo_278 (by decide) ⟨by omega, by omega⟩ ⟨by omega, by omega⟩ (fun h278 => by exfalso; omega) (fun h278 => ?_)
            refine r_pc 281 rfl ?_
            refine r_aload_nO dL_isSo_281 rfl rfl ?_
            refine r_iload dL_isSo_282 rfl ?_
            refine r_iload dL_isSo_284 rfl ?_
            refine e_callVP (z := MX4_read) dL_isSo_286 ml_L_98 cz_X4_read mk_X4_read ms_X4_read cb4 (by decide) (s_read (σ := (hvS σ (Fh σ (k + 1)))) hk hn (hcF _).wt (hcF _).wl (hcF _).ws (hcF _).wp (hcF _).wf (hcF _).wv) rfl rfl (by simp [cat_rf, cat_i, cat_l, cat_r, cat_n]) (by decide) (by assumption) (lv1 _ 4 (fun _ => rfl)) (fun g hh => ?_)
            refine r_pc 289 rfl ?_
            refine r_aload_nO dL_isSo_289 rfl rfl ?_
            refine r_iload dL_isSo_290 rfl ?_
            refine r_iload dL_isSo_292 rfl ?_
            refine e_bipush dL_isSo_294 (by decide +kernel) ?_
            refine e_callVP (z := MX5_read) dL_isSo_296 ml_L_74 cz_X5_read mk_X5_read ms_X5_read cb5 (by decide) (s_oread (τ := (hvS σ (Fh σ (k + 1)))) (σ := (hvS σ (Fh σ (k + 1)))) (hOF _) (hcF _).wt (hcF _).wl (hcF _).wf (hcF _).wv hk 6 (by omega) n hn) rfl rfl (by simp [cat_rf, cat_i, cat_l, cat_r, cat_n]) (by decide) (by assumption) (lv1 _ 5 (fun _ => rfl)) (fun g hh => ?_)
            refine r_pc 299 rfl ?_
            refine r_ic_ne 338 dL_isSo_299 (by decide) (fun h299 => by exact absurd rfl h299) (fun h299 => ?_)
            refine r_pc 302 rfl ?_
            refine r_aload_nO dL_isSo_302 rfl rfl ?_
            refine r_iload dL_isSo_303 rfl ?_
            refine r_iload dL_isSo_305 rfl ?_
            refine e_iconst dL_isSo_307 ?_
            refine e_callVP (z := MX4_ofField) dL_isSo_308 ml_L_100 cz_X4_ofField mk_X4_ofField ms_X4_ofField cb4 (by decide) (s_ofField0 (σ := (hvS σ (Fh σ (k + 1)))) hk hn (hcF _).wt (hcF _).wf) rfl rfl (by simp [cat_rf, cat_i, cat_l, cat_r, cat_n]) (by decide) (by assumption) (lv1 _ 4 (fun _ => rfl)) (fun g hh => ?_)
            refine r_pc 311 rfl ?_
            refine e_iv (show _ = bI (¬ σ 15 k n = 0) + bI (isPr (σ 15 k n)) from rfl) ?_
            by_cases hc0 : σ 15 k n = 0
            · obtain rfl := plc_neg (τ := σ) hFk hq hc0
              refine e_iv (st_fF hc0) ?_
              refine e_if_le 318 dL_isSo_311 (by decide) ⟨by omega, by omega⟩ (fun h311 => ?_) (fun h311 => by exfalso; omega)
              refine r_pc 318 rfl ?_
              refine e_iconst dL_isSo_318 ?_
              refine r_aload_nO dL_isSo_319 rfl rfl ?_
              refine r_iload dL_isSo_320 rfl ?_
              refine r_iload dL_isSo_322 rfl ?_
              refine e_callVP (z := MX5_place) dL_isSo_324 ml_L_103 cz_X5_place mk_X5_place ms_X5_place cb5 (by decide) hql rfl rfl (by simp [cat_rf, cat_i, cat_l, cat_r, cat_n]) (by decide) (by assumption) (lv1 _ 5 (fun _ => rfl)) (fun g hh => ?_)
              refine r_pc 327 rfl ?_
              refine e_if_lt 334 dL_isSo_327 (by decide) ⟨by omega, by omega⟩ (fun h327 => ?_) (fun h327 => by exfalso; omega)
              refine r_pc 334 rfl ?_
              refine e_iconst dL_isSo_334 ?_
              refine e_ic_eq 340 dL_isSo_335 (by decide) ⟨by omega, by omega⟩ ⟨by omega, by omega⟩ (fun h335 => ?_) (fun h335 => by exfalso; omega)
              refine r_pc 340 rfl ?_
              refine e_iinc dL_isSo_340 rfl (by decide) ?_
              refine r_goto 274 dL_isSo_343 (by decide) ?_
              refine r_lv [(0, vr A' 4 0), (1, vr A' 5 0), (2, .int (iI w)), (3, .int (iI f)), (4, .int (iI l)), (5, vr A' 26 0), (6, .int (iI k)), (8, .int (iI (n + 1)))] rfl ?_
              exact ih (n + 1) (by omega) (by omega) g hh
            · have hq2 := plc_pos (τ := σ) hFk hn hq hc0
              have hb1 : bI (¬ σ 15 k n = 0) = 1 := bI_t hc0
              have hb2 := bI_01 (isPr (σ 15 k n))
              refine e_if_le 318 dL_isSo_311 (by decide) ⟨by omega, by omega⟩ (fun h311 => by exfalso; omega) (fun h311 => ?_)
              refine r_pc 314 rfl ?_
              refine e_iconst dL_isSo_314 ?_
              refine r_goto 319 dL_isSo_315 (by decide) ?_
              refine r_aload_nO dL_isSo_319 rfl rfl ?_
              refine r_iload dL_isSo_320 rfl ?_
              refine r_iload dL_isSo_322 rfl ?_
              refine e_callVP (z := MX5_place) dL_isSo_324 ml_L_103 cz_X5_place mk_X5_place ms_X5_place cb5 (by decide) hql rfl rfl (by simp [cat_rf, cat_i, cat_l, cat_r, cat_n]) (by decide) (by assumption) (lv1 _ 5 (fun _ => rfl)) (fun g hh => ?_)
              refine r_pc 327 rfl ?_
              refine e_if_lt 334 dL_isSo_327 (by decide) ⟨by omega, by omega⟩ (fun h327 => by exfalso; omega) (fun h327 => ?_)
              refine r_pc 330 rfl ?_
              refine e_iconst dL_isSo_330 ?_
              refine r_goto 335 dL_isSo_331 (by decide) ?_
              refine e_ic_eq 340 dL_isSo_335 (by decide) ⟨by omega, by omega⟩ ⟨by omega, by omega⟩ (fun h335 => ?_) (fun h335 => by exfalso; omega)
              refine r_pc 340 rfl ?_
              refine e_iinc dL_isSo_340 rfl (by decide) ?_
              refine r_goto 274 dL_isSo_343 (by decide) ?_
              refine r_lv [(0, vr A' 4 0), (1, vr A' 5 0), (2, .int (iI w)), (3, .int (iI f)), (4, .int (iI l)), (5, vr A' 26 0), (6, .int (iI k)), (8, .int (iI (n + 1)))] rfl ?_
              exact ih (n + 1) (by omega) (by omega) g hh
        intro g hh
        refine e_iconst dL_isSo_271 ?_
        refine r_istore dL_isSo_272 (by decide) ?_
        refine r_lv [(0, vr A' 4 0), (1, vr A' 5 0), (2, .int (iI w)), (3, .int (iI f)), (4, .int (iI l)), (5, vr A' 26 0), (6, .int (iI k)), (8, .int (iI 0))] rfl ?_
        exact nloop 12 0 (by omega) (by omega) g hh
      have chain : ∀ w f l : Int, w = 4 * σ 99 1 0 + 3 * sumI (fun p => σ 0 p 0) 6 + sumI (fun k => wds σ k) (k + 1).toNat → f = sumI (fun k => σ 3 k 5) (k + 1).toNat → l = sumI (fun k => if σ 3 k 2 = -1 then 1 else 0) (k + 1).toNat → ∀ (m : Nat) (s : Int), (m : Int) ≤ σ 3 k 5 → (-1 ≤ s ∧ s < σ 99 1 0) → (0 ≤ s → Sc s = od σ k m) → ∀ g, HR κ A' g (hvS σ (Fh σ (k + 1))) → Wp κ ML_isSo 10 0 0 222 [(0, vr A' 4 0), (1, vr A' 5 0), (2, .int (iI w)), (3, .int (iI f)), (4, .int (iI l)), (5, vr A' 26 0), (6, .int (iI k)), (7, .int (iI s)), (8, .int (iI ((m : Int) - 1)))] [] g (LQ κ A σ T) := by
        intro w f l hw hf hl m
        induction m with
        | zero =>
          intro s hm hs hsc g hh
          refine r_iload dL_isSo_222 rfl ?_
          refine e_if_lt 271 dL_isSo_224 (by decide) ⟨by omega, by omega⟩ (fun h224 => ?_) (fun h224 => by exfalso; omega)
          refine r_pc 271 rfl ?_
          refine r_lv [(0, vr A' 4 0), (1, vr A' 5 0), (2, .int (iI w)), (3, .int (iI f)), (4, .int (iI l)), (5, vr A' 26 0), (6, .int (iI k))] rfl ?_
          exact names w f l hw hf hl g hh
        | succ m ih =>
          intro s hm hs hsc g hh
          have hmm : 0 ≤ (((m + 1 : Nat) : Int) - 1) ∧ (((m + 1 : Nat) : Int) - 1) < 12 := by omega
          have em : (((m + 1 : Nat) : Int) - 1) = (m : Int) := by omega
          obtain ⟨hρ, hr0, -⟩ := hO.2.2.1 k (((m + 1 : Nat) : Int) - 1) hk (by omega)
          have hon := ((hF' k hk).1 (m : Int) (by omega)).1
          refine r_iload dL_isSo_222 rfl ?_
          refine e_if_lt 271 dL_isSo_224 (by decide) ⟨by omega, by omega⟩ (fun h224 => by exfalso; omega) (fun h224 => ?_)
          refine r_pc 227 rfl ?_
          refine r_iload dL_isSo_227 rfl ?_
          refine e_if_lt 271 dL_isSo_229 (by decide) ⟨by omega, by omega⟩ (fun h229 => ?_) (fun h229 => ?_)
          · refine r_pc 271 rfl ?_
            refine r_lv [(0, vr A' 4 0), (1, vr A' 5 0), (2, .int (iI w)), (3, .int (iI f)), (4, .int (iI l)), (5, vr A' 26 0), (6, .int (iI k))] rfl ?_
            exact names w f l hw hf hl g hh
          · refine r_pc 232 rfl ?_
            have hsk : Lv σ 1 s := ⟨h229, hs.2⟩
            have hsw := hS.2.2 s hsk
            have hsc2 := hsc h229
            rw [od] at hsc2
            have hab : 0 ≤ σ 1 s 1 := by
              by_cases z : σ 1 s 1 < 0
              · rw [(((CX.wc hc) s hsk).1 z).1] at hsc2
                cases hsc2
              · omega
            have hsc3 := (((CX.wc hc) s hsk).2 hab).1
            rw [hsc3] at hsc2
            injection hsc2 with hsn hsc4
            refine r_aload_nO dL_isSo_232 rfl rfl ?_
            refine r_iload dL_isSo_233 rfl ?_
            refine e_iconst dL_isSo_235 ?_
            refine e_callVP (z := MX4_ofShape) dL_isSo_236 ml_L_91 cz_X4_ofShape mk_X4_ofShape ms_X4_ofShape cb4 (by decide) (s_ofShape3 (σ := (hvS σ (Fh σ (k + 1)))) hsk (hcF _).wt (hcF _).ws) rfl rfl (by simp [cat_rf, cat_i, cat_l, cat_r, cat_n]) (by decide) (by assumption) (lv1 _ 4 (fun _ => rfl)) (fun g hh => ?_)
            refine r_pc 239 rfl ?_
            refine e_iv (show _ = σ 14 k (m : Int) from hsn) ?_
            refine r_aload_nO dL_isSo_239 rfl rfl ?_
            refine e_getFN (t := 5) (k := 1) (t1 := 21) dL_isSo_240 cb5 (by decide) (List.mem_of_getElem? (i := 1) rfl) (by rfl) (by rfl) (by decide) (by assumption) (lv1 _ 5 (fun _ => rfl)) ?_
            refine r_iload dL_isSo_243 rfl ?_
            refine e_aald21 dL_isSo_245 (by assumption) (by have e : ln 21 = 24 := rfl; omega) ?_
            refine r_iload dL_isSo_246 rfl ?_
            refine e_aald (t := 22) (t1 := 25) dL_isSo_248 (by decide) (by decide) (by decide) (by intro _; rfl) (by decide) (by assumption) (by assumption) (by have e : ln 22 = 12 := rfl; omega) ?_
            refine e_iconst dL_isSo_249 ?_
            refine e_iald (t := 25) dL_isSo_250 (by decide) (by decide) (by rfl) (by intro _; rfl) (by assumption) (by assumption) (by have e : ln 25 = 7 := rfl; omega) ?_
            refine e_iv (show _ = σ 14 k (m : Int) from (show _ = _ from hr0).trans (by rw [em])) ?_
            refine e_ic_eq 256 dL_isSo_251 (by decide) ⟨by omega, by omega⟩ ⟨by omega, by omega⟩ (fun h251 => ?_) (fun h251 => by exfalso; omega)
            refine r_pc 256 rfl ?_
            refine r_aload_nO dL_isSo_256 rfl rfl ?_
            refine r_iload dL_isSo_257 rfl ?_
            refine e_iconst dL_isSo_259 ?_
            refine e_callVP (z := MX4_ofShape) dL_isSo_260 ml_L_91 cz_X4_ofShape mk_X4_ofShape ms_X4_ofShape cb4 (by decide) (s_ofShape0 (σ := (hvS σ (Fh σ (k + 1)))) hsk (hcF _).wt (hcF _).ws) rfl rfl (by simp [cat_rf, cat_i, cat_l, cat_r, cat_n]) (by decide) (by assumption) (lv1 _ 4 (fun _ => rfl)) (fun g hh => ?_)
            refine r_pc 263 rfl ?_
            refine e_iv (show _ = σ 1 s 1 from rfl) ?_
            refine r_istore dL_isSo_263 (by decide) ?_
            refine e_iinc dL_isSo_265 rfl (by decide) ?_
            refine r_goto 222 dL_isSo_268 (by decide) ?_
            refine r_lv [(0, vr A' 4 0), (1, vr A' 5 0), (2, .int (iI w)), (3, .int (iI f)), (4, .int (iI l)), (5, vr A' 26 0), (6, .int (iI k)), (7, .int (iI (σ 1 s 1))), (8, .int (iI (((m + 1 : Nat) : Int) - 1 + -1)))] rfl ?_
            rw [show ((m + 1 : Nat) : Int) - 1 + -1 = (m : Int) - 1 by omega]
            exact ih (σ 1 s 1) (by omega) (by omega) (fun _ => hsc4) g hh
      have chk : ∀ w f l : Int, w = 4 * σ 99 1 0 + 3 * sumI (fun p => σ 0 p 0) 6 + sumI (fun k => wds σ k) (k + 1).toNat → f = sumI (fun k => σ 3 k 5) (k + 1).toNat → l = sumI (fun k => if σ 3 k 2 = -1 then 1 else 0) (k + 1).toNat → ∀ g, HR κ A' g (hvS σ (Fh σ (k + 1))) → Wp κ ML_isSo 10 0 0 98 [(0, vr A' 4 0), (1, vr A' 5 0), (2, .int (iI w)), (3, .int (iI f)), (4, .int (iI l)), (5, vr A' 26 0), (6, .int (iI k)), (7, .int (iI (σ 3 k 2)))] [] g (LQ κ A σ T) := by
        intro w f l hw hf hl g hh
        have hwk := hc.wk k hk
        refine r_aload_nO dL_isSo_98 rfl rfl ?_
        refine r_iload dL_isSo_99 rfl ?_
        refine e_iconst dL_isSo_101 ?_
        refine e_callVP (z := MX4_ofObject) dL_isSo_102 ml_L_44 cz_X4_ofObject mk_X4_ofObject ms_X4_ofObject cb4 (by decide) (s_ofObject0 (σ := (hvS σ (Fh σ (k + 1)))) hk (hcF _).wt) rfl rfl (by simp [cat_rf, cat_i, cat_l, cat_r, cat_n]) (by decide) (by assumption) (lv1 _ 4 (fun _ => rfl)) (fun g hh => ?_)
        refine r_pc 105 rfl ?_
        refine e_iv (show _ = σ 3 k 1 from rfl) ?_
        refine r_aload_nO dL_isSo_105 rfl rfl ?_
        refine e_getFN (t := 5) (k := 0) (t1 := 20) dL_isSo_106 cb5 (by decide) (List.mem_of_getElem? (i := 0) rfl) (by rfl) (by rfl) (by decide) (by assumption) (lv1 _ 5 (fun _ => rfl)) ?_
        refine r_iload dL_isSo_109 rfl ?_
        refine e_iald (t := 20) dL_isSo_111 (by decide) (by decide) (by rfl) (by intro _; rfl) (by assumption) (lv1 _ 20 (fun _ => rfl)) (by have e : ln 20 = 24 := rfl; omega) ?_
        refine e_iv (show _ = σ 3 k 1 from ho20) ?_
        refine r_ic_ne 209 dL_isSo_112 (by decide) (fun h112 => by exact absurd rfl h112) (fun h112 => ?_)
        refine r_pc 115 rfl ?_
        refine r_aload_nO dL_isSo_115 rfl rfl ?_
        refine r_iload dL_isSo_116 rfl ?_
        refine e_iconst dL_isSo_118 ?_
        refine e_callVP (z := MX4_ofObject) dL_isSo_119 ml_L_44 cz_X4_ofObject mk_X4_ofObject ms_X4_ofObject cb4 (by decide) (s_ofObject1 (σ := (hvS σ (Fh σ (k + 1)))) hk (hcF _).wt) rfl rfl (by simp [cat_rf, cat_i, cat_l, cat_r, cat_n]) (by decide) (by assumption) (lv1 _ 4 (fun _ => rfl)) (fun g hh => ?_)
        refine r_pc 122 rfl ?_
        refine e_iv (show _ = σ 3 k 5 from rfl) ?_
        refine r_aload_nO dL_isSo_122 rfl rfl ?_
        refine e_getFN (t := 5) (k := 2) (t1 := 23) dL_isSo_123 cb5 (by decide) (List.mem_of_getElem? (i := 2) rfl) (by rfl) (by rfl) (by decide) (by assumption) (lv1 _ 5 (fun _ => rfl)) ?_
        refine r_iload dL_isSo_126 rfl ?_
        refine e_iald (t := 23) dL_isSo_128 (by decide) (by decide) (by rfl) (by intro _; rfl) (by assumption) (lv1 _ 23 (fun _ => rfl)) (by have e : ln 23 = 24 := rfl; omega) ?_
        refine e_iv (show _ = σ 3 k 5 from ho23) ?_
        refine r_ic_ne 209 dL_isSo_129 (by decide) (fun h129 => by exact absurd rfl h129) (fun h129 => ?_)
        refine r_pc 132 rfl ?_
        refine r_aload_nO dL_isSo_132 rfl rfl ?_
        refine r_iload dL_isSo_133 rfl ?_
        refine e_iconst dL_isSo_135 ?_
        refine e_callVP (z := MX4_ofObject) dL_isSo_136 ml_L_44 cz_X4_ofObject mk_X4_ofObject ms_X4_ofObject cb4 (by decide) (s_ofObject3 (σ := (hvS σ (Fh σ (k + 1)))) hk (hcF _).wt) rfl rfl (by simp [cat_rf, cat_i, cat_l, cat_r, cat_n]) (by decide) (by assumption) (lv1 _ 4 (fun _ => rfl)) (fun g hh => ?_)
        refine r_pc 139 rfl ?_
        refine e_iv (show _ = σ 3 k 3 from rfl) ?_
        refine e_iconst dL_isSo_139 ?_
        refine e_ic_ne 147 dL_isSo_140 (by decide) ⟨by omega, by omega⟩ ⟨by omega, by omega⟩ (fun h140 => ?_) (fun h140 => ?_)
        · refine r_pc 147 rfl ?_
          refine e_iconst dL_isSo_147 ?_
          refine r_aload_nO dL_isSo_148 rfl rfl ?_
          refine e_getFN (t := 5) (k := 3) (t1 := 24) dL_isSo_149 cb5 (by decide) (List.mem_of_getElem? (i := 3) rfl) (by rfl) (by rfl) (by decide) (by assumption) (lv1 _ 5 (fun _ => rfl)) ?_
          refine r_iload dL_isSo_152 rfl ?_
          refine e_bald (t := 24) dL_isSo_154 (by decide) (by decide) (by rfl) (by intro _; rfl) (by assumption) (lv1 _ 24 (fun _ => rfl)) (by have e : ln 24 = 24 := rfl; omega) ?_
          refine e_iv (show _ = σ 3 k 3 from ho24) ?_
          refine e_ic_ne 209 dL_isSo_155 (by decide) ⟨by omega, by omega⟩ ⟨by omega, by omega⟩ (fun h155 => by exfalso; omega) (fun h155 => ?_)
          refine r_pc 158 rfl ?_
          refine r_iload dL_isSo_158 rfl ?_
          refine e_if_lt 211 dL_isSo_160 (by decide) ⟨by omega, by omega⟩ (fun h160 => ?_) (fun h160 => ?_)
          · refine r_pc 211 rfl ?_
            refine r_aload_nO dL_isSo_211 rfl rfl ?_
            refine e_getFN (t := 5) (k := 2) (t1 := 23) dL_isSo_212 cb5 (by decide) (List.mem_of_getElem? (i := 2) rfl) (by rfl) (by rfl) (by decide) (by assumption) (lv1 _ 5 (fun _ => rfl)) ?_
            refine r_iload dL_isSo_215 rfl ?_
            refine e_iald (t := 23) dL_isSo_217 (by decide) (by decide) (by rfl) (by intro _; rfl) (by assumption) (lv1 _ 23 (fun _ => rfl)) (by have e : ln 23 = 24 := rfl; omega) ?_
            refine e_iv (show _ = σ 3 k 5 from ho23) ?_
            refine e_iconst dL_isSo_218 ?_
            first | refine e_isub dL_isSo_219 ?_ | refine r_isub dL_isSo_219 ?_
            refine r_istore dL_isSo_220 (by decide) ?_
            refine r_lv [(0, vr A' 4 0), (1, vr A' 5 0), (2, .int (iI w)), (3, .int (iI f)), (4, .int (iI l)), (5, vr A' 26 0), (6, .int (iI k)), (7, .int (iI (σ 3 k 2))), (8, .int (iI (σ 3 k 5 - 1)))] rfl ?_
            rw [show σ 3 k 5 - 1 = ((σ 3 k 5).toNat : Int) - 1 by omega]
            exact chain w f l hw hf hl (σ 3 k 5).toNat (σ 3 k 2) (by omega) ht4 (fun z => (hwk z).2.2) g hh
          · refine r_pc 163 rfl ?_
            obtain ⟨wk1, wk2, wk3⟩ := hwk h160
            have hsk : Lv σ 1 (σ 3 k 2) := ⟨h160, ht4.2⟩
            have hsz8 := (hS.2.2 _ hsk).2.2.2.2.2.2
            refine r_aload_nO dL_isSo_163 rfl rfl ?_
            refine e_getFN (t := 5) (k := 2) (t1 := 23) dL_isSo_164 cb5 (by decide) (List.mem_of_getElem? (i := 2) rfl) (by rfl) (by rfl) (by decide) (by assumption) (lv1 _ 5 (fun _ => rfl)) ?_
            refine r_iload dL_isSo_167 rfl ?_
            refine e_iald (t := 23) dL_isSo_169 (by decide) (by decide) (by rfl) (by intro _; rfl) (by assumption) (lv1 _ 23 (fun _ => rfl)) (by have e : ln 23 = 24 := rfl; omega) ?_
            refine e_iv (show _ = σ 3 k 5 from ho23) ?_
            refine e_bipush dL_isSo_170 (by decide +kernel) ?_
            refine e_ic_gt 209 dL_isSo_172 (by decide) ⟨by omega, by omega⟩ ⟨by omega, by omega⟩ (fun h172 => by exfalso; omega) (fun h172 => ?_)
            refine r_pc 175 rfl ?_
            refine r_aload_nO dL_isSo_175 rfl rfl ?_
            refine r_iload dL_isSo_176 rfl ?_
            refine e_iconst dL_isSo_178 ?_
            refine e_callVP (z := MX4_ofShape) dL_isSo_179 ml_L_91 cz_X4_ofShape mk_X4_ofShape ms_X4_ofShape cb4 (by decide) (s_ofShape2 (σ := (hvS σ (Fh σ (k + 1)))) hsk (hcF _).wt (hcF _).ws) rfl rfl (by simp [cat_rf, cat_i, cat_l, cat_r, cat_n]) (by decide) (by assumption) (lv1 _ 4 (fun _ => rfl)) (fun g hh => ?_)
            refine r_pc 182 rfl ?_
            refine e_iv (show _ = σ 3 k 5 from wk2) ?_
            refine r_aload_nO dL_isSo_182 rfl rfl ?_
            refine e_getFN (t := 5) (k := 2) (t1 := 23) dL_isSo_183 cb5 (by decide) (List.mem_of_getElem? (i := 2) rfl) (by rfl) (by rfl) (by decide) (by assumption) (lv1 _ 5 (fun _ => rfl)) ?_
            refine r_iload dL_isSo_186 rfl ?_
            refine e_iald (t := 23) dL_isSo_188 (by decide) (by decide) (by rfl) (by intro _; rfl) (by assumption) (lv1 _ 23 (fun _ => rfl)) (by have e : ln 23 = 24 := rfl; omega) ?_
            refine e_iv (show _ = σ 3 k 5 from ho23) ?_
            refine r_ic_ne 209 dL_isSo_189 (by decide) (fun h189 => by exact absurd rfl h189) (fun h189 => ?_)
            refine r_pc 192 rfl ?_
            refine r_aload_nO dL_isSo_192 rfl rfl ?_
            refine r_iload dL_isSo_193 rfl ?_
            refine e_iconst dL_isSo_195 ?_
            refine e_callVP (z := MX4_ofShape) dL_isSo_196 ml_L_91 cz_X4_ofShape mk_X4_ofShape ms_X4_ofShape cb4 (by decide) (s_ofShape1 (σ := (hvS σ (Fh σ (k + 1)))) hsk (hcF _).wt (hcF _).ws) rfl rfl (by simp [cat_rf, cat_i, cat_l, cat_r, cat_n]) (by decide) (by assumption) (lv1 _ 4 (fun _ => rfl)) (fun g hh => ?_)
            refine r_pc 199 rfl ?_
            refine e_iv (show _ = σ 3 k 1 from wk1) ?_
            refine r_aload_nO dL_isSo_199 rfl rfl ?_
            refine e_getFN (t := 5) (k := 0) (t1 := 20) dL_isSo_200 cb5 (by decide) (List.mem_of_getElem? (i := 0) rfl) (by rfl) (by rfl) (by decide) (by assumption) (lv1 _ 5 (fun _ => rfl)) ?_
            refine r_iload dL_isSo_203 rfl ?_
            refine e_iald (t := 20) dL_isSo_205 (by decide) (by decide) (by rfl) (by intro _; rfl) (by assumption) (lv1 _ 20 (fun _ => rfl)) (by have e : ln 20 = 24 := rfl; omega) ?_
            refine e_iv (show _ = σ 3 k 1 from ho20) ?_
            refine r_ic_eq 211 dL_isSo_206 (by decide) (fun h206 => ?_) (fun h206 => by exact absurd rfl h206)
            refine r_pc 211 rfl ?_
            refine r_aload_nO dL_isSo_211 rfl rfl ?_
            refine e_getFN (t := 5) (k := 2) (t1 := 23) dL_isSo_212 cb5 (by decide) (List.mem_of_getElem? (i := 2) rfl) (by rfl) (by rfl) (by decide) (by assumption) (lv1 _ 5 (fun _ => rfl)) ?_
            refine r_iload dL_isSo_215 rfl ?_
            refine e_iald (t := 23) dL_isSo_217 (by decide) (by decide) (by rfl) (by intro _; rfl) (by assumption) (lv1 _ 23 (fun _ => rfl)) (by have e : ln 23 = 24 := rfl; omega) ?_
            refine e_iv (show _ = σ 3 k 5 from ho23) ?_
            refine e_iconst dL_isSo_218 ?_
            first | refine e_isub dL_isSo_219 ?_ | refine r_isub dL_isSo_219 ?_
            refine r_istore dL_isSo_220 (by decide) ?_
            refine r_lv [(0, vr A' 4 0), (1, vr A' 5 0), (2, .int (iI w)), (3, .int (iI f)), (4, .int (iI l)), (5, vr A' 26 0), (6, .int (iI k)), (7, .int (iI (σ 3 k 2))), (8, .int (iI (σ 3 k 5 - 1)))] rfl ?_
            rw [show σ 3 k 5 - 1 = ((σ 3 k 5).toNat : Int) - 1 by omega]
            exact chain w f l hw hf hl (σ 3 k 5).toNat (σ 3 k 2) (by omega) ht4 (fun z => (hwk z).2.2) g hh
        · refine r_pc 143 rfl ?_
          refine e_iconst dL_isSo_143 ?_
          refine r_goto 148 dL_isSo_144 (by decide) ?_
          refine r_aload_nO dL_isSo_148 rfl rfl ?_
          refine e_getFN (t := 5) (k := 3) (t1 := 24) dL_isSo_149 cb5 (by decide) (List.mem_of_getElem? (i := 3) rfl) (by rfl) (by rfl) (by decide) (by assumption) (lv1 _ 5 (fun _ => rfl)) ?_
          refine r_iload dL_isSo_152 rfl ?_
          refine e_bald (t := 24) dL_isSo_154 (by decide) (by decide) (by rfl) (by intro _; rfl) (by assumption) (lv1 _ 24 (fun _ => rfl)) (by have e : ln 24 = 24 := rfl; omega) ?_
          refine e_iv (show _ = σ 3 k 3 from ho24) ?_
          refine e_ic_ne 209 dL_isSo_155 (by decide) ⟨by omega, by omega⟩ ⟨by omega, by omega⟩ (fun h155 => by exfalso; omega) (fun h155 => ?_)
          refine r_pc 158 rfl ?_
          refine r_iload dL_isSo_158 rfl ?_
          refine e_if_lt 211 dL_isSo_160 (by decide) ⟨by omega, by omega⟩ (fun h160 => ?_) (fun h160 => ?_)
          · refine r_pc 211 rfl ?_
            refine r_aload_nO dL_isSo_211 rfl rfl ?_
            refine e_getFN (t := 5) (k := 2) (t1 := 23) dL_isSo_212 cb5 (by decide) (List.mem_of_getElem? (i := 2) rfl) (by rfl) (by rfl) (by decide) (by assumption) (lv1 _ 5 (fun _ => rfl)) ?_
            refine r_iload dL_isSo_215 rfl ?_
            refine e_iald (t := 23) dL_isSo_217 (by decide) (by decide) (by rfl) (by intro _; rfl) (by assumption) (lv1 _ 23 (fun _ => rfl)) (by have e : ln 23 = 24 := rfl; omega) ?_
            refine e_iv (show _ = σ 3 k 5 from ho23) ?_
            refine e_iconst dL_isSo_218 ?_
            first | refine e_isub dL_isSo_219 ?_ | refine r_isub dL_isSo_219 ?_
            refine r_istore dL_isSo_220 (by decide) ?_
            refine r_lv [(0, vr A' 4 0), (1, vr A' 5 0), (2, .int (iI w)), (3, .int (iI f)), (4, .int (iI l)), (5, vr A' 26 0), (6, .int (iI k)), (7, .int (iI (σ 3 k 2))), (8, .int (iI (σ 3 k 5 - 1)))] rfl ?_
            rw [show σ 3 k 5 - 1 = ((σ 3 k 5).toNat : Int) - 1 by omega]
            exact chain w f l hw hf hl (σ 3 k 5).toNat (σ 3 k 2) (by omega) ht4 (fun z => (hwk z).2.2) g hh
          · refine r_pc 163 rfl ?_
            obtain ⟨wk1, wk2, wk3⟩ := hwk h160
            have hsk : Lv σ 1 (σ 3 k 2) := ⟨h160, ht4.2⟩
            have hsz8 := (hS.2.2 _ hsk).2.2.2.2.2.2
            refine r_aload_nO dL_isSo_163 rfl rfl ?_
            refine e_getFN (t := 5) (k := 2) (t1 := 23) dL_isSo_164 cb5 (by decide) (List.mem_of_getElem? (i := 2) rfl) (by rfl) (by rfl) (by decide) (by assumption) (lv1 _ 5 (fun _ => rfl)) ?_
            refine r_iload dL_isSo_167 rfl ?_
            refine e_iald (t := 23) dL_isSo_169 (by decide) (by decide) (by rfl) (by intro _; rfl) (by assumption) (lv1 _ 23 (fun _ => rfl)) (by have e : ln 23 = 24 := rfl; omega) ?_
            refine e_iv (show _ = σ 3 k 5 from ho23) ?_
            refine e_bipush dL_isSo_170 (by decide +kernel) ?_
            refine e_ic_gt 209 dL_isSo_172 (by decide) ⟨by omega, by omega⟩ ⟨by omega, by omega⟩ (fun h172 => by exfalso; omega) (fun h172 => ?_)
            refine r_pc 175 rfl ?_
            refine r_aload_nO dL_isSo_175 rfl rfl ?_
            refine r_iload dL_isSo_176 rfl ?_
            refine e_iconst dL_isSo_178 ?_
            refine e_callVP (z := MX4_ofShape) dL_isSo_179 ml_L_91 cz_X4_ofShape mk_X4_ofShape ms_X4_ofShape cb4 (by decide) (s_ofShape2 (σ := (hvS σ (Fh σ (k + 1)))) hsk (hcF _).wt (hcF _).ws) rfl rfl (by simp [cat_rf, cat_i, cat_l, cat_r, cat_n]) (by decide) (by assumption) (lv1 _ 4 (fun _ => rfl)) (fun g hh => ?_)
            refine r_pc 182 rfl ?_
            refine e_iv (show _ = σ 3 k 5 from wk2) ?_
            refine r_aload_nO dL_isSo_182 rfl rfl ?_
            refine e_getFN (t := 5) (k := 2) (t1 := 23) dL_isSo_183 cb5 (by decide) (List.mem_of_getElem? (i := 2) rfl) (by rfl) (by rfl) (by decide) (by assumption) (lv1 _ 5 (fun _ => rfl)) ?_
            refine r_iload dL_isSo_186 rfl ?_
            refine e_iald (t := 23) dL_isSo_188 (by decide) (by decide) (by rfl) (by intro _; rfl) (by assumption) (lv1 _ 23 (fun _ => rfl)) (by have e : ln 23 = 24 := rfl; omega) ?_
            refine e_iv (show _ = σ 3 k 5 from ho23) ?_
            refine r_ic_ne 209 dL_isSo_189 (by decide) (fun h189 => by exact absurd rfl h189) (fun h189 => ?_)
            refine r_pc 192 rfl ?_
            refine r_aload_nO dL_isSo_192 rfl rfl ?_
            refine r_iload dL_isSo_193 rfl ?_
            refine e_iconst dL_isSo_195 ?_
            refine e_callVP (z := MX4_ofShape) dL_isSo_196 ml_L_91 cz_X4_ofShape mk_X4_ofShape ms_X4_ofShape cb4 (by decide) (s_ofShape1 (σ := (hvS σ (Fh σ (k + 1)))) hsk (hcF _).wt (hcF _).ws) rfl rfl (by simp [cat_rf, cat_i, cat_l, cat_r, cat_n]) (by decide) (by assumption) (lv1 _ 4 (fun _ => rfl)) (fun g hh => ?_)
            refine r_pc 199 rfl ?_
            refine e_iv (show _ = σ 3 k 1 from wk1) ?_
            refine r_aload_nO dL_isSo_199 rfl rfl ?_
            refine e_getFN (t := 5) (k := 0) (t1 := 20) dL_isSo_200 cb5 (by decide) (List.mem_of_getElem? (i := 0) rfl) (by rfl) (by rfl) (by decide) (by assumption) (lv1 _ 5 (fun _ => rfl)) ?_
            refine r_iload dL_isSo_203 rfl ?_
            refine e_iald (t := 20) dL_isSo_205 (by decide) (by decide) (by rfl) (by intro _; rfl) (by assumption) (lv1 _ 20 (fun _ => rfl)) (by have e : ln 20 = 24 := rfl; omega) ?_
            refine e_iv (show _ = σ 3 k 1 from ho20) ?_
            refine r_ic_eq 211 dL_isSo_206 (by decide) (fun h206 => ?_) (fun h206 => by exact absurd rfl h206)
            refine r_pc 211 rfl ?_
            refine r_aload_nO dL_isSo_211 rfl rfl ?_
            refine e_getFN (t := 5) (k := 2) (t1 := 23) dL_isSo_212 cb5 (by decide) (List.mem_of_getElem? (i := 2) rfl) (by rfl) (by rfl) (by decide) (by assumption) (lv1 _ 5 (fun _ => rfl)) ?_
            refine r_iload dL_isSo_215 rfl ?_
            refine e_iald (t := 23) dL_isSo_217 (by decide) (by decide) (by rfl) (by intro _; rfl) (by assumption) (lv1 _ 23 (fun _ => rfl)) (by have e : ln 23 = 24 := rfl; omega) ?_
            refine e_iv (show _ = σ 3 k 5 from ho23) ?_
            refine e_iconst dL_isSo_218 ?_
            first | refine e_isub dL_isSo_219 ?_ | refine r_isub dL_isSo_219 ?_
            refine r_istore dL_isSo_220 (by decide) ?_
            refine r_lv [(0, vr A' 4 0), (1, vr A' 5 0), (2, .int (iI w)), (3, .int (iI f)), (4, .int (iI l)), (5, vr A' 26 0), (6, .int (iI k)), (7, .int (iI (σ 3 k 2))), (8, .int (iI (σ 3 k 5 - 1)))] rfl ?_
            rw [show σ 3 k 5 - 1 = ((σ 3 k 5).toNat : Int) - 1 by omega]
            exact chain w f l hw hf hl (σ 3 k 5).toNat (σ 3 k 2) (by omega) ht4 (fun z => (hwk z).2.2) g hh
      refine r_iload dL_isSo_30 rfl ?_
      refine r_aload_nO dL_isSo_32 rfl rfl ?_
      refine e_getIN (t := 5) (k := 4) 4 dL_isSo_33 cb5 (by decide) (List.mem_of_getElem? (i := 4) rfl) (by rfl) rfl (by assumption) (lv1 _ 5 (fun _ => rfl)) ?_
      refine e_iv h5 ?_
      refine e_ic_ge 352 dL_isSo_36 (by decide) ⟨by omega, by omega⟩ ⟨by omega, by omega⟩ (fun h36 => by exfalso; omega) (fun h36 => ?_)
      refine r_pc 39 rfl ?_
      refine r_aload_nO dL_isSo_39 rfl rfl ?_
      refine r_iload dL_isSo_40 rfl ?_
      refine e_iconst dL_isSo_42 ?_
      refine e_callVP (z := MX4_ofObject) dL_isSo_43 ml_L_44 cz_X4_ofObject mk_X4_ofObject ms_X4_ofObject cb4 (by decide) (s_ofObject2 (σ := (hvS σ (Fh σ k))) hk (hcF _).wt (hcF _).ws) rfl rfl (by simp [cat_rf, cat_i, cat_l, cat_r, cat_n]) (by decide) (by assumption) (lv1 _ 4 (fun _ => rfl)) (fun g hh => ?_)
      refine r_pc 46 rfl ?_
      refine e_iv (show _ = σ 3 k 2 from rfl) ?_
      refine r_istore dL_isSo_46 (by decide) ?_
      refine r_iload_n dL_isSo_48 rfl rfl ?_
      refine r_aload_nO dL_isSo_49 rfl rfl ?_
      refine r_iload dL_isSo_50 rfl ?_
      refine e_bipush dL_isSo_52 (by decide +kernel) ?_
      refine e_callVP (z := MX4_ofObject) dL_isSo_54 ml_L_44 cz_X4_ofObject mk_X4_ofObject ms_X4_ofObject cb4 (by decide) (s_ofObject7 (σ := (hvS σ (Fh σ k))) hk (hcF _).wt (hcF _).wf) rfl rfl (by simp [cat_rf, cat_i, cat_l, cat_r, cat_n]) (by decide) (by assumption) (lv1 _ 4 (fun _ => rfl)) (fun g hh => ?_)
      refine r_pc 57 rfl ?_
      refine e_iv (show _ = wds σ k from rfl) ?_
      first | refine e_iadd dL_isSo_57 ?_ | refine r_iadd dL_isSo_57 ?_
      refine r_istore_n dL_isSo_58 rfl (by decide) ?_
      refine r_stw (by repeat' first | exact True.intro | refine And.intro (fun h => by first | rfl | exact cat_rf _ | exact absurd h (by decide)) ?_) ?_
      refine r_iload_n dL_isSo_59 rfl rfl ?_
      refine r_aload_nO dL_isSo_60 rfl rfl ?_
      refine e_getFN (t := 5) (k := 2) (t1 := 23) dL_isSo_61 cb5 (by decide) (List.mem_of_getElem? (i := 2) rfl) (by rfl) (by rfl) (by decide) (by assumption) (lv1 _ 5 (fun _ => rfl)) ?_
      refine r_iload dL_isSo_64 rfl ?_
      refine e_iald (t := 23) dL_isSo_66 (by decide) (by decide) (by rfl) (by intro _; rfl) (by assumption) (lv1 _ 23 (fun _ => rfl)) (by have e : ln 23 = 24 := rfl; omega) ?_
      refine e_iv (show _ = σ 3 k 5 from ho23) ?_
      first | refine e_iadd dL_isSo_67 ?_ | refine r_iadd dL_isSo_67 ?_
      refine r_istore_n dL_isSo_68 rfl (by decide) ?_
      refine r_iload dL_isSo_69 rfl ?_
      refine r_iload dL_isSo_71 rfl ?_
      refine e_if_ge 80 dL_isSo_73 (by decide) ⟨by omega, by omega⟩ (fun h73 => ?_) (fun h73 => ?_)
      · refine r_pc 80 rfl ?_
        refine e_iconst dL_isSo_80 ?_
        first | refine e_iadd dL_isSo_81 ?_ | refine r_iadd dL_isSo_81 ?_
        refine r_istore dL_isSo_82 (by decide) ?_
        refine r_iload dL_isSo_84 rfl ?_
        refine e_if_lt 98 dL_isSo_86 (by decide) ⟨by omega, by omega⟩ (fun h86 => by exfalso; omega) (fun h86 => ?_)
        refine r_pc 89 rfl ?_
        have hlv : Lv (hvS σ (Fh σ k)) 26 0 := ⟨Int.le_refl 0, by show (0 : Int) < 1; omega⟩
        have h80 : 0 ≤ σ 3 k 2 ∧ σ 3 k 2 < 80 := by omega
        refine r_aloadO dL_isSo_89 rfl ?_
        refine r_iload dL_isSo_91 rfl ?_
        refine r_dup2 dL_isSo_93 (by first | rfl | exact cat_rf _) (by first | rfl | exact cat_rf _) ?_
        refine e_iald (t := 26) dL_isSo_94 (by decide) (by decide) (by rfl) (by intro _; rfl) (by assumption) (by assumption) (by have e : ln 26 = 80 := rfl; omega) ?_
        refine e_iv (show _ = Fh σ k (σ 3 k 2) from hvS_n _ _ _) ?_
        refine e_iconst dL_isSo_95 ?_
        first | refine e_iadd dL_isSo_96 ?_ | refine r_iadd dL_isSo_96 ?_
        refine e_iast (t := 26) dL_isSo_97 (by decide) (by decide) (by rfl) (by intro _; rfl) (by assumption) (by assumption) (by have e : ln 26 = 80 := rfl; omega) (fun g hh => ?_)
        rw [hvS_u, Fh_s hj0 h73] at hh
        refine r_lv [(0, vr A' 4 0), (1, vr A' 5 0), (2, .int (iI (w + wds σ k))), (3, .int (iI (f + σ 3 k 5))), (4, .int (iI (l + 0))), (5, vr A' 26 0), (6, .int (iI k)), (7, .int (iI (σ 3 k 2)))] rfl ?_
        exact chk (w + wds σ k) (f + σ 3 k 5) (l + 0) (by rw [hw, sumI_s hj0 (F := fun k => wds σ k) rfl]; omega) (by rw [hf, sumI_s hj0 (F := fun k => σ 3 k 5) rfl]) (by rw [hl, sumI_s hj0 (F := fun k => if σ 3 k 2 = -1 then 1 else 0) (if_neg (show ¬ σ 3 k 2 = -1 by omega))]) g hh
      · refine r_pc 76 rfl ?_
        refine e_iconst dL_isSo_76 ?_
        refine r_goto 81 dL_isSo_77 (by decide) ?_
        first | refine e_iadd dL_isSo_81 ?_ | refine r_iadd dL_isSo_81 ?_
        refine r_istore dL_isSo_82 (by decide) ?_
        refine r_iload dL_isSo_84 rfl ?_
        refine e_if_lt 98 dL_isSo_86 (by decide) ⟨by omega, by omega⟩ (fun h86 => ?_) (fun h86 => by exfalso; omega)
        refine r_pc 98 rfl ?_
        refine r_lv [(0, vr A' 4 0), (1, vr A' 5 0), (2, .int (iI (w + wds σ k))), (3, .int (iI (f + σ 3 k 5))), (4, .int (iI (l + 1))), (5, vr A' 26 0), (6, .int (iI k)), (7, .int (iI (σ 3 k 2)))] rfl ?_
        rw [Fh_n hj0 h73] at hh
        exact chk (w + wds σ k) (f + σ 3 k 5) (l + 1) (by rw [hw, sumI_s hj0 (F := fun k => wds σ k) rfl]; omega) (by rw [hf, sumI_s hj0 (F := fun k => σ 3 k 5) rfl]) (by rw [hl, sumI_s hj0 (F := fun k => if σ 3 k 2 = -1 then 1 else 0) (if_pos (show σ 3 k 2 = -1 by omega))]) g hh
  intro g hh
  refine e_iconst dL_isSo_27 ?_
  refine r_istore dL_isSo_28 (by decide) ?_
  refine r_stw (by repeat' first | exact True.intro | refine And.intro (fun h => by first | rfl | exact cat_rf _ | exact absurd h (by decide)) ?_) ?_
  refine r_lv [(0, vr A' 4 0), (1, vr A' 5 0), (2, .int (iI (4 * σ 99 1 0 + 3 * sumI (fun p => σ 0 p 0) 6))), (3, .int (iI 0)), (4, .int (iI 0)), (5, vr A' 26 0), (6, .int (iI 0))] rfl ?_
  exact main N 0 _ 0 0 (by omega) (by omega) (by rw [show (0 : Int).toNat = 0 from rfl, sumI]; omega) rfl rfl g hh
