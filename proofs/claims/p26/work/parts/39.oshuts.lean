def sumL (F : Int → Int) : List Int → Int
  | [] => 0
  | a :: l => F a + sumL F l
theorem sumL_er (F : Int → Int) {a : Int} : ∀ l : List Int, a ∈ l → sumL F l = F a + sumL F (l.erase a) := by
  intro l
  induction l with
  | nil => intro h; cases h
  | cons b l ih =>
    intro h
    by_cases e : b = a
    · rw [e, List.erase_cons_head]
      rfl
    · have h2 : a ∈ l := (List.mem_cons.mp h).resolve_left (fun z => e z.symm)
      rw [List.erase_cons_tail (by simp [e]), sumL, sumL, ih h2]
      omega
theorem sum_names (F : Int → Int) : ∀ (m : Nat) (l : List Int), l.Nodup → (∀ x, x ∈ l → 0 ≤ x ∧ x < (m : Int)) → (∀ n, (0 ≤ n ∧ n < (m : Int)) → n ∉ l → F n = 0) → sumI F m = sumL F l := by
  intro m
  induction m with
  | zero =>
    intro l hn h h0
    cases l with
    | nil => rfl
    | cons a l =>
      have := h a List.mem_cons_self
      omega
  | succ m ih =>
    intro l hn h h0
    by_cases q : (m : Int) ∈ l
    · rw [sumL_er F l q, sumI, ih (l.erase (m : Int)) (hn.erase _) (fun x hx => by
        obtain ⟨a, b⟩ := hn.mem_erase_iff.mp hx
        have := h x b
        omega) (fun n hn1 hn2 => h0 n (by omega) (fun z => hn2 (hn.mem_erase_iff.mpr ⟨by omega, z⟩)))]
      omega
    · rw [sumI, h0 (m : Int) (by omega) q, ih l hn (fun x hx => by
        have := h x hx
        have : x ≠ (m : Int) := fun e => q (e ▸ hx)
        omega) (fun n hn1 hn2 => h0 n (by omega) hn2)]
      omega
/-- the fields one behind the other are fixed -/
def fzM (τ : ST) (k : Int) : Nat → ST
  | 0 => τ
  | m + 1 => up (fzM τ k m) 15 k (τ 14 k (m : Int)) (frT (fzM τ k m 15 k (τ 14 k (m : Int))))
theorem fzM_o {τ : ST} {k : Int} (m : Nat) {t : Nat} {r c : Int} (h : ¬ (t = 15 ∧ r = k)) : fzM τ k m t r c = τ t r c := by
  induction m with
  | zero => rfl
  | succ m ih =>
    rw [fzM, up_ne (fun y => h ⟨y.1, y.2.1⟩)]
    exact ih
theorem fzM_15 {τ : ST} {k : Int} (m : Nat) (h : (od τ k m).Nodup) (c : Int) : fzM τ k m 15 k c = if c ∈ od τ k m then frT (τ 15 k c) else τ 15 k c := by
  induction m with
  | zero => rfl
  | succ m ih =>
    rw [od, List.nodup_cons] at h
    have ih2 := ih h.2
    rw [fzM, up_15, od]
    by_cases z : c = τ 14 k (m : Int)
    · rw [if_pos ⟨z, rfl⟩, if_pos (by rw [z]; exact List.mem_cons_self), ← z, ih2, if_neg (by rw [z]; exact h.1)]
    · rw [if_neg (fun y => z y.1), ih2]
      by_cases y : c ∈ od τ k m
      · rw [if_pos y, if_pos (List.mem_cons_of_mem _ y)]
      · rw [if_neg y, if_neg (fun x => (List.mem_cons.mp x).elim z y)]
theorem fz_od {τ : ST} {k : Int} (hF : WFk τ k) (hz : 0 ≤ τ 3 k 5) : (od τ k (τ 3 k 5).toNat).Nodup := od_nodup _ fun i j hi hj e => hF.2.2 i j (by omega) (by omega) e
theorem fz_fr {τ : ST} {k : Int} (hF : WFk τ k) (hz : 0 ≤ τ 3 k 5) : AgV (fzM τ k (τ 3 k 5).toNat) (frM τ k 12) := by
  have hnd := fz_od hF hz
  refine ⟨fun t r c ht => ?_, fun r c _ _ => (fzM_o (τ := τ) (k := k) _ (by omega)).symm, (fzM_o (τ := τ) (k := k) _ (by omega)).symm, (fzM_o (τ := τ) (k := k) _ (by omega)).symm⟩
  unfold frM
  by_cases h : t = 15 ∧ r = k
  · obtain ⟨rfl, rfl⟩ := h
    rw [fzM_15 _ hnd]
    by_cases hc : 0 ≤ c ∧ c < 12
    · rw [if_pos ⟨rfl, rfl, hc⟩]
      by_cases hi : c ∈ od τ r (τ 3 r 5).toNat
      · rw [if_pos hi]
      · rw [if_neg hi]
        have h0 : τ 15 r c = 0 := by
          by_cases z : τ 15 r c = 0
          · exact z
          · exact absurd ((wf_od hF hz hc).mpr z) hi
        rw [h0]
        rfl
    · rw [if_neg (fun y => hc y.2.2), if_neg]
      intro hi
      obtain ⟨j, hj, e⟩ := (od_mem _).mp hi
      have := (hF.1 j (by omega)).1
      rw [e] at this
      exact hc this
  · rw [if_neg (fun y => h ⟨y.1, y.2.1⟩), fzM_o _ h]
theorem frT_tr {t : Int} (h : TrOk t) : TrOk (frT t) := by
  unfold TrOk at h ⊢
  unfold frT
  repeat' split <;> omega
theorem frT_0 {t : Int} (h : TrOk t) : (frT t = 0 ↔ t = 0) := by
  unfold TrOk at h
  unfold frT
  repeat' split <;> omega
theorem frT_pr {t : Int} (h : TrOk t) : (isPr (frT t) ↔ isPr t) := by
  unfold TrOk at h
  unfold isPr frT
  repeat' split <;> omega
theorem fzM_wf {τ : ST} {k : Int} (hF : ∀ k, Lv τ 3 k → WFk τ k) (hk : Lv τ 3 k) (hz : 0 ≤ τ 3 k 5) (m : Nat) (hm : (m : Int) ≤ τ 3 k 5) : ∀ k', Lv τ 3 k' → WFk (fzM τ k m) k' := by
  intro k' hk'
  by_cases e : k' = k
  · subst e
    have hnd : (od τ k' m).Nodup := od_nodup _ fun i j hi hj e => (hF k' hk').2.2 i j (by omega) (by omega) e
    obtain ⟨h1, h2, h3⟩ := hF k' hk'
    have e0 : ∀ c, TrOk (τ 15 k' c) → (fzM τ k' m 15 k' c = 0 ↔ τ 15 k' c = 0) := by
      intro c hc
      rw [fzM_15 _ hnd]
      split
      · exact frT_0 hc
      · exact Iff.rfl
    unfold WFk
    have e3 : fzM τ k' m 3 k' 5 = τ 3 k' 5 := fzM_o m (by omega)
    have e14 : ∀ j, fzM τ k' m 14 k' j = τ 14 k' j := fun j => fzM_o m (by omega)
    simp only [e3, e14]
    refine ⟨fun j hj => ⟨(h1 j hj).1, fun z => (h1 j hj).2 ((e0 _ (h2 _ (h1 j hj).1).1).mp z)⟩, fun n hn => ⟨?_, fun z => (h2 n hn).2 (fun y => z ((e0 n (h2 n hn).1).mpr y))⟩, h3⟩
    rw [fzM_15 _ hnd]
    split
    · exact frT_tr (h2 n hn).1
    · exact (h2 n hn).1
  · exact wfk_cg (σ := τ) (fzM_o _ (by omega)) (fun j => fzM_o _ (by omega)) (fun j => fzM_o _ (fun y => e y.2)) (hF k' hk')
/-- the count by places is that by names -/
theorem fz_sum {τ : ST} {k : Int} (hF : WFk τ k) (hz : 0 ≤ τ 3 k 5) : sumL (frF τ k) (od τ k (τ 3 k 5).toNat) = sumI (frF τ k) 12 := by
  refine (sum_names (frF τ k) 12 _ (fz_od hF hz) (fun x hx => ?_) (fun n hn hx => ?_)).symm
  · obtain ⟨j, hj, e⟩ := (od_mem _).mp hx
    have := (hF.1 j (by omega)).1
    rw [e] at this
    exact this
  · have h0 : τ 15 k n = 0 := by
      by_cases z : τ 15 k n = 0
      · exact z
      · exact absurd ((wf_od hF hz hn).mpr z) hx
    unfold frF
    rw [if_neg (by omega)]
theorem frM_cg {τ : ST} {k : Int} : AgV (up τ 3 k 3 1) (up τ 3 k 3 1) := AgV.rf' _
theorem s_shuts {κ : KK} {A : Nat → Int → Nat} {σ : ST} {g : GG} {τ : ST} {L : Int → List Int} (hO : OWN τ σ) (hT : WT τ) (hL : WL τ L) (hF' : WF τ) (hV : WV τ) {k x : Int} (hk : Lv τ 3 k) (hx : x = 0 ∨ x = 1) (hh : HR κ A g σ) : Spec κ MX5_shuts 0 0 0 [vr A 5 0, .int (iI k), .int (iI x)] g (OQ κ A σ (if x = 0 then up τ 3 k 3 1 else frM (up τ 3 k 3 1) k 12) (some (.int (iI (if x = 0 then 0 else sumI (frF τ k) 12))))) := by
  obtain ⟨hk22, hk24⟩ := lv24 (σ := σ) hT hk
  have hz := wt_sz hT hk
  obtain ⟨τ1, hτ1⟩ : ∃ τ1, τ1 = up τ 3 k 3 1 := ⟨_, rfl⟩
  have hO1 : OWN τ1 (up σ 24 0 k 1) := by rw [hτ1]; exact hO.shu hk
  have hk1 : Lv τ1 3 k := by rw [hτ1]; exact hk
  have hz1 : 0 ≤ τ1 3 k 5 ∧ τ1 3 k 5 ≤ 12 := by rw [hτ1]; exact hz
  have hF1 : ∀ k, Lv τ1 3 k → WFk τ1 k := by
    rw [hτ1]
    exact fun k' hk' => wfk_cg (σ := τ) (up_ne (by omega)) (fun _ => rfl) (fun _ => rfl) (hF' k' hk')
  have hof1 : OF σ (up σ 24 0 k 1) := (OF.rf' σ).u 24 0 k 1 rfl
  have loop : ∀ (m j : Nat) (c : Int) (σ' : ST), (j : Int) + (m : Int) = τ1 3 k 5 → ¬ x = 0 → c = sumL (frF τ1 k) (od τ1 k j) → OWN (fzM τ1 k j) σ' → OF σ σ' → ∀ g, HR κ A g σ' → Wp κ MX5_shuts 0 0 0 12 [(0, vr A 5 0), (1, .int (iI k)), (2, .int (iI x)), (3, .int (iI c)), (4, .int (iI (j : Int)))] [] g (OQ κ A σ (if x = 0 then up τ 3 k 3 1 else frM (up τ 3 k 3 1) k 12) (some (.int (iI (if x = 0 then 0 else sumI (frF τ k) 12))))) := by
    intro m
    induction m with
    | zero =>
      intro j c σ' hjm hx0 hc hO' hof g hh
      have hk22' : Lv σ' 22 k := hk22
      have hk' : Lv (fzM τ1 k j) 3 k := ⟨hk1.1, by have := hk1.2; show k < fzM τ1 k j 99 3 0; rw [fzM_o j (by omega)]; exact this⟩
      have ho23 : σ' 23 0 k = τ1 3 k 5 := ((hO'.2.1 k hk').2.1).trans (fzM_o j (by omega))
      obtain rfl : j = (τ1 3 k 5).toNat := by omega
      refine r_iload dX5_shuts_12 rfl ?_
      refine r_aload_nO dX5_shuts_14 rfl rfl ?_
      refine e_getF (t := 5) (k := 2) (t1 := 23) dX5_shuts_15 cb5 (by decide) mf_X5_18 (by rfl) (by rfl) (by decide) (by assumption) (lv1 _ 5 (fun _ => rfl)) ?_
      refine r_iload_n dX5_shuts_18 rfl rfl ?_
      refine e_iald (t := 23) dX5_shuts_19 (by decide) (by decide) (by rfl) (by intro _; rfl) (by assumption) (lv1 _ 23 (fun _ => rfl)) (by have e : ln 23 = 24 := rfl; omega) ?_
      refine e_iv ho23 ?_
      refine e_ic_ge 97 dX5_shuts_20 (by decide) ⟨by omega, by omega⟩ ⟨by omega, by omega⟩ (fun h20 => ?_) (fun h20 => by exfalso; omega)
      refine r_pc 97 rfl ?_
      refine r_iload_n dX5_shuts_97 rfl rfl ?_
      exact r_iret dX5_shuts_98 rfl ⟨A, σ', hh, by rw [if_neg hx0, hc, fz_sum (hF1 k hk1) hz1.1, hτ1]; rfl, fun _ _ => rfl, by rw [if_neg hx0, ← hτ1]; exact hO'.tau (fz_fr (hF1 k hk1) hz1.1), hof⟩
    | succ m ih =>
      intro j c σ' hjm hx0 hc hO' hof g hh
      have hk22' : Lv σ' 22 k := hk22
      have hk' : Lv (fzM τ1 k j) 3 k := ⟨hk1.1, by have := hk1.2; show k < fzM τ1 k j 99 3 0; rw [fzM_o j (by omega)]; exact this⟩
      have ho23 : σ' 23 0 k = τ1 3 k 5 := ((hO'.2.1 k hk').2.1).trans (fzM_o j (by omega))
      have hj5 : fzM τ1 k j 3 k 5 = τ1 3 k 5 := fzM_o j (by omega)
      have hFj := fzM_wf hF1 hk1 hz1.1 j (by omega)
      have hFk : ∀ k', Lv (fzM τ1 k j) 3 k' → WFk (fzM τ1 k j) k' := fun k' hk' => hFj k' ⟨hk'.1, by have := hk'.2; have e : fzM τ1 k j 99 3 0 = τ1 99 3 0 := fzM_o j (by omega); show k' < τ1 99 3 0; rw [← e]; exact this⟩
      have hw := hO'.2.2.1 k (j : Int) hk' (by omega)
      unfold OR at hw
      have e14 : fzM τ1 k j 14 k (j : Int) = τ1 14 k (j : Int) := fzM_o j (by omega)
      obtain ⟨hρ, hr0, hr3, hrp, hrn⟩ := hw
      rw [e14] at hr0 hr3 hrp hrn
      have hnd : (od τ1 k (j + 1)).Nodup := od_nodup _ fun i i' hi hi' e => (hF1 k hk1).2.2 i i' (by omega) (by omega) e
      rw [od, List.nodup_cons] at hnd
      have e15 : fzM τ1 k j 15 k (τ1 14 k (j : Int)) = τ1 15 k (τ1 14 k (j : Int)) := by rw [fzM_15 j hnd.2, if_neg hnd.1]
      rw [e15] at hr3 hrp hrn
      obtain ⟨hn12, hne⟩ := (hF1 k hk1).1 (j : Int) (by omega)
      have htr := ((hF1 k hk1).2.1 _ hn12).1
      have h19 := tr_19 htr
      refine r_iload dX5_shuts_12 rfl ?_
      refine r_aload_nO dX5_shuts_14 rfl rfl ?_
      refine e_getF (t := 5) (k := 2) (t1 := 23) dX5_shuts_15 cb5 (by decide) mf_X5_18 (by rfl) (by rfl) (by decide) (by assumption) (lv1 _ 5 (fun _ => rfl)) ?_
      refine r_iload_n dX5_shuts_18 rfl rfl ?_
      refine e_iald (t := 23) dX5_shuts_19 (by decide) (by decide) (by rfl) (by intro _; rfl) (by assumption) (lv1 _ 23 (fun _ => rfl)) (by have e : ln 23 = 24 := rfl; omega) ?_
      refine e_iv ho23 ?_
      refine e_ic_ge 97 dX5_shuts_20 (by decide) ⟨by omega, by omega⟩ ⟨by omega, by omega⟩ (fun h20 => by exfalso; omega) (fun h20 => ?_)
      refine r_pc 23 rfl ?_
      refine r_iload_n dX5_shuts_23 rfl rfl ?_
      refine e_if_eq 97 dX5_shuts_24 (by decide) ⟨by omega, by omega⟩ (fun h24 => by exfalso; omega) (fun h24 => ?_)
      refine r_pc 27 rfl ?_
      by_cases hpr : isPr (τ1 15 k (τ1 14 k (j : Int)))
      · obtain ⟨hr1, -, -, -⟩ := hrp hpr
        refine r_iload_n dX5_shuts_27 rfl rfl ?_
        refine r_aload_nO dX5_shuts_28 rfl rfl ?_
        refine e_getF (t := 5) (k := 1) (t1 := 21) dX5_shuts_29 cb5 (by decide) mf_X5_15 (by rfl) (by rfl) (by decide) (by assumption) (lv1 _ 5 (fun _ => rfl)) ?_
        refine r_iload_n dX5_shuts_32 rfl rfl ?_
        refine e_aald21 dX5_shuts_33 (by assumption) (by have e : ln 21 = 24 := rfl; omega) ?_
        refine r_iload dX5_shuts_34 rfl ?_
        refine e_aald (t := 22) (t1 := 25) dX5_shuts_36 (by decide) (by decide) (by decide) (by intro _; rfl) (by decide) (by assumption) (by assumption) (by have e : ln 22 = 12 := rfl; omega) ?_
        refine e_iconst dX5_shuts_37 ?_
        refine e_iald (t := 25) dX5_shuts_38 (by decide) (by decide) (by rfl) (by intro _; rfl) (by assumption) (by assumption) (by have e : ln 25 = 7 := rfl; omega) ?_
        refine e_iv hr1 ?_
        refine e_iconst dX5_shuts_39 ?_
        refine e_ic_ne 61 dX5_shuts_40 (by decide) ⟨by omega, by omega⟩ ⟨by omega, by omega⟩ (fun h40 => ?_) (fun h40 => by exfalso; omega)
        refine r_pc 61 rfl ?_
        refine e_iconst dX5_shuts_61 ?_
        first | refine e_iadd dX5_shuts_62 ?_ | refine r_iadd dX5_shuts_62 ?_
        refine r_istore_n dX5_shuts_63 rfl (by decide) ?_
        refine r_aload_nO dX5_shuts_64 rfl rfl ?_
        refine e_getF (t := 5) (k := 1) (t1 := 21) dX5_shuts_65 cb5 (by decide) mf_X5_15 (by rfl) (by rfl) (by decide) (by assumption) (lv1 _ 5 (fun _ => rfl)) ?_
        refine r_iload_n dX5_shuts_68 rfl rfl ?_
        refine e_aald21 dX5_shuts_69 (by assumption) (by have e : ln 21 = 24 := rfl; omega) ?_
        refine r_iload dX5_shuts_70 rfl ?_
        refine e_aald (t := 22) (t1 := 25) dX5_shuts_72 (by decide) (by decide) (by decide) (by intro _; rfl) (by decide) (by assumption) (by assumption) (by have e : ln 22 = 12 := rfl; omega) ?_
        refine e_iconst dX5_shuts_73 ?_
        refine e_iald (t := 25) dX5_shuts_74 (by decide) (by decide) (by rfl) (by intro _; rfl) (by assumption) (by assumption) (by have e : ln 25 = 7 := rfl; omega) ?_
        refine e_iv hr1 ?_
        refine e_iconst dX5_shuts_75 ?_
        refine e_ic_ne 91 dX5_shuts_76 (by decide) ⟨by omega, by omega⟩ ⟨by omega, by omega⟩ (fun h76 => ?_) (fun h76 => by exfalso; omega)
        refine r_pc 91 rfl ?_
        have hO2 : OWN (fzM τ1 k (j + 1)) σ' := by
          rw [fzM, frT_id (fun y => by rw [e15] at y; exact (h19.mp y).2.1 hpr), up_sm]
          exact hO'
        refine e_iinc dX5_shuts_91 rfl (by decide) ?_
        refine r_goto 12 dX5_shuts_94 (by decide) ?_
        refine r_lv [(0, vr A 5 0), (1, .int (iI k)), (2, .int (iI x)), (3, .int (iI (c + 0))), (4, .int (iI ((j : Int) + 1)))] rfl ?_
        rw [show (j : Int) + 1 = ((j + 1 : Nat) : Int) by omega]
        exact ih (j + 1) (c + 0) σ' (by omega) hx0 (by rw [od, sumL, hc]; unfold frF at *; rw [if_neg (fun y => (h19.mp y).2.1 hpr)]; omega) hO2 hof g hh
      · obtain ⟨hr1, -⟩ := hrn hpr
        refine r_iload_n dX5_shuts_27 rfl rfl ?_
        refine r_aload_nO dX5_shuts_28 rfl rfl ?_
        refine e_getF (t := 5) (k := 1) (t1 := 21) dX5_shuts_29 cb5 (by decide) mf_X5_15 (by rfl) (by rfl) (by decide) (by assumption) (lv1 _ 5 (fun _ => rfl)) ?_
        refine r_iload_n dX5_shuts_32 rfl rfl ?_
        refine e_aald21 dX5_shuts_33 (by assumption) (by have e : ln 21 = 24 := rfl; omega) ?_
        refine r_iload dX5_shuts_34 rfl ?_
        refine e_aald (t := 22) (t1 := 25) dX5_shuts_36 (by decide) (by decide) (by decide) (by intro _; rfl) (by decide) (by assumption) (by assumption) (by have e : ln 22 = 12 := rfl; omega) ?_
        refine e_iconst dX5_shuts_37 ?_
        refine e_iald (t := 25) dX5_shuts_38 (by decide) (by decide) (by rfl) (by intro _; rfl) (by assumption) (by assumption) (by have e : ln 25 = 7 := rfl; omega) ?_
        refine e_iv hr1 ?_
        refine e_iconst dX5_shuts_39 ?_
        refine e_ic_ne 61 dX5_shuts_40 (by decide) ⟨by omega, by omega⟩ ⟨by omega, by omega⟩ (fun h40 => by exfalso; omega) (fun h40 => ?_)
        refine r_pc 43 rfl ?_
        refine r_aload_nO dX5_shuts_43 rfl rfl ?_
        refine e_getF (t := 5) (k := 1) (t1 := 21) dX5_shuts_44 cb5 (by decide) mf_X5_15 (by rfl) (by rfl) (by decide) (by assumption) (lv1 _ 5 (fun _ => rfl)) ?_
        refine r_iload_n dX5_shuts_47 rfl rfl ?_
        refine e_aald21 dX5_shuts_48 (by assumption) (by have e : ln 21 = 24 := rfl; omega) ?_
        refine r_iload dX5_shuts_49 rfl ?_
        refine e_aald (t := 22) (t1 := 25) dX5_shuts_51 (by decide) (by decide) (by decide) (by intro _; rfl) (by decide) (by assumption) (by assumption) (by have e : ln 22 = 12 := rfl; omega) ?_
        refine e_iconst dX5_shuts_52 ?_
        refine e_iald (t := 25) dX5_shuts_53 (by decide) (by decide) (by rfl) (by intro _; rfl) (by assumption) (by assumption) (by have e : ln 25 = 7 := rfl; omega) ?_
        refine e_iv hr3 ?_
        by_cases hfx : isFx (τ1 15 k (τ1 14 k (j : Int)))
        · refine e_iv (bI_t hfx) ?_
          refine e_if_ne 61 dX5_shuts_54 (by decide) ⟨by omega, by omega⟩ (fun h54 => ?_) (fun h54 => by exfalso; omega)
          refine r_pc 61 rfl ?_
          refine e_iconst dX5_shuts_61 ?_
          first | refine e_iadd dX5_shuts_62 ?_ | refine r_iadd dX5_shuts_62 ?_
          refine r_istore_n dX5_shuts_63 rfl (by decide) ?_
          refine r_aload_nO dX5_shuts_64 rfl rfl ?_
          refine e_getF (t := 5) (k := 1) (t1 := 21) dX5_shuts_65 cb5 (by decide) mf_X5_15 (by rfl) (by rfl) (by decide) (by assumption) (lv1 _ 5 (fun _ => rfl)) ?_
          refine r_iload_n dX5_shuts_68 rfl rfl ?_
          refine e_aald21 dX5_shuts_69 (by assumption) (by have e : ln 21 = 24 := rfl; omega) ?_
          refine r_iload dX5_shuts_70 rfl ?_
          refine e_aald (t := 22) (t1 := 25) dX5_shuts_72 (by decide) (by decide) (by decide) (by intro _; rfl) (by decide) (by assumption) (by assumption) (by have e : ln 22 = 12 := rfl; omega) ?_
          refine e_iconst dX5_shuts_73 ?_
          refine e_iald (t := 25) dX5_shuts_74 (by decide) (by decide) (by rfl) (by intro _; rfl) (by assumption) (by assumption) (by have e : ln 25 = 7 := rfl; omega) ?_
          refine e_iv hr1 ?_
          refine e_iconst dX5_shuts_75 ?_
          refine e_ic_ne 91 dX5_shuts_76 (by decide) ⟨by omega, by omega⟩ ⟨by omega, by omega⟩ (fun h76 => by exfalso; omega) (fun h76 => ?_)
          refine r_pc 79 rfl ?_
          refine r_aload_nO dX5_shuts_79 rfl rfl ?_
          refine e_getF (t := 5) (k := 1) (t1 := 21) dX5_shuts_80 cb5 (by decide) mf_X5_15 (by rfl) (by rfl) (by decide) (by assumption) (lv1 _ 5 (fun _ => rfl)) ?_
          refine r_iload_n dX5_shuts_83 rfl rfl ?_
          refine e_aald21 dX5_shuts_84 (by assumption) (by have e : ln 21 = 24 := rfl; omega) ?_
          refine r_iload dX5_shuts_85 rfl ?_
          refine e_aald (t := 22) (t1 := 25) dX5_shuts_87 (by decide) (by decide) (by decide) (by intro _; rfl) (by decide) (by assumption) (by assumption) (by have e : ln 22 = 12 := rfl; omega) ?_
          refine e_iconst dX5_shuts_88 ?_
          refine e_iconst dX5_shuts_89 ?_
          refine e_iast (t := 25) dX5_shuts_90 (by decide) (by decide) (by rfl) (by intro _; rfl) (by assumption) (by assumption) (by have e : ln 25 = 7 := rfl; omega) (fun g hh => ?_)
          have hO2 : OWN (fzM τ1 k (j + 1)) (up σ' 25 (σ' 22 k (j : Int)) 3 1) := by
            have := hO'.fz hFk hk' (j := (j : Int)) (by omega) (by rw [e14, e15]; exact hpr)
            rw [e14] at this
            exact this
          refine e_iinc dX5_shuts_91 rfl (by decide) ?_
          refine r_goto 12 dX5_shuts_94 (by decide) ?_
          refine r_lv [(0, vr A 5 0), (1, .int (iI k)), (2, .int (iI x)), (3, .int (iI (c + 0))), (4, .int (iI ((j : Int) + 1)))] rfl ?_
          rw [show (j : Int) + 1 = ((j + 1 : Nat) : Int) by omega]
          exact ih (j + 1) (c + 0) _ (by omega) hx0 (by rw [od, sumL, hc]; unfold frF at *; rw [if_neg (fun y => (h19.mp y).2.2 hfx)]; omega) hO2 (hof.u 25 _ 3 1 rfl) g hh
        · refine e_iv (bI_f hfx) ?_
          refine e_if_ne 61 dX5_shuts_54 (by decide) ⟨by omega, by omega⟩ (fun h54 => by exfalso; omega) (fun h54 => ?_)
          refine r_pc 57 rfl ?_
          refine e_iconst dX5_shuts_57 ?_
          refine r_goto 62 dX5_shuts_58 (by decide) ?_
          first | refine e_iadd dX5_shuts_62 ?_ | refine r_iadd dX5_shuts_62 ?_
          refine r_istore_n dX5_shuts_63 rfl (by decide) ?_
          refine r_aload_nO dX5_shuts_64 rfl rfl ?_
          refine e_getF (t := 5) (k := 1) (t1 := 21) dX5_shuts_65 cb5 (by decide) mf_X5_15 (by rfl) (by rfl) (by decide) (by assumption) (lv1 _ 5 (fun _ => rfl)) ?_
          refine r_iload_n dX5_shuts_68 rfl rfl ?_
          refine e_aald21 dX5_shuts_69 (by assumption) (by have e : ln 21 = 24 := rfl; omega) ?_
          refine r_iload dX5_shuts_70 rfl ?_
          refine e_aald (t := 22) (t1 := 25) dX5_shuts_72 (by decide) (by decide) (by decide) (by intro _; rfl) (by decide) (by assumption) (by assumption) (by have e : ln 22 = 12 := rfl; omega) ?_
          refine e_iconst dX5_shuts_73 ?_
          refine e_iald (t := 25) dX5_shuts_74 (by decide) (by decide) (by rfl) (by intro _; rfl) (by assumption) (by assumption) (by have e : ln 25 = 7 := rfl; omega) ?_
          refine e_iv hr1 ?_
          refine e_iconst dX5_shuts_75 ?_
          refine e_ic_ne 91 dX5_shuts_76 (by decide) ⟨by omega, by omega⟩ ⟨by omega, by omega⟩ (fun h76 => by exfalso; omega) (fun h76 => ?_)
          refine r_pc 79 rfl ?_
          refine r_aload_nO dX5_shuts_79 rfl rfl ?_
          refine e_getF (t := 5) (k := 1) (t1 := 21) dX5_shuts_80 cb5 (by decide) mf_X5_15 (by rfl) (by rfl) (by decide) (by assumption) (lv1 _ 5 (fun _ => rfl)) ?_
          refine r_iload_n dX5_shuts_83 rfl rfl ?_
          refine e_aald21 dX5_shuts_84 (by assumption) (by have e : ln 21 = 24 := rfl; omega) ?_
          refine r_iload dX5_shuts_85 rfl ?_
          refine e_aald (t := 22) (t1 := 25) dX5_shuts_87 (by decide) (by decide) (by decide) (by intro _; rfl) (by decide) (by assumption) (by assumption) (by have e : ln 22 = 12 := rfl; omega) ?_
          refine e_iconst dX5_shuts_88 ?_
          refine e_iconst dX5_shuts_89 ?_
          refine e_iast (t := 25) dX5_shuts_90 (by decide) (by decide) (by rfl) (by intro _; rfl) (by assumption) (by assumption) (by have e : ln 25 = 7 := rfl; omega) (fun g hh => ?_)
          have hO2 : OWN (fzM τ1 k (j + 1)) (up σ' 25 (σ' 22 k (j : Int)) 3 1) := by
            have := hO'.fz hFk hk' (j := (j : Int)) (by omega) (by rw [e14, e15]; exact hpr)
            rw [e14] at this
            exact this
          refine e_iinc dX5_shuts_91 rfl (by decide) ?_
          refine r_goto 12 dX5_shuts_94 (by decide) ?_
          refine r_lv [(0, vr A 5 0), (1, .int (iI k)), (2, .int (iI x)), (3, .int (iI (c + 1))), (4, .int (iI ((j : Int) + 1)))] rfl ?_
          rw [show (j : Int) + 1 = ((j + 1 : Nat) : Int) by omega]
          exact ih (j + 1) (c + 1) _ (by omega) hx0 (by rw [od, sumL, hc]; unfold frF at *; rw [if_pos (h19.mpr ⟨hne, hpr, hfx⟩)]; omega) hO2 (hof.u 25 _ 3 1 rfl) g hh
  refine e_start rfl (by show (lg_sl _).length ≤ 5; simp [lg_sl, cat_rf, cat_i, cat_l, cat_r, cat_n]) (lv := [(0, vr A 5 0), (1, .int (iI k)), (2, .int (iI x))]) (by simp [lv_args, cat_rf, cat_i, cat_l, cat_r, cat_n]) ?_
  by_cases hx0 : x = 0
  · refine r_aload_nO dX5_shuts_0 rfl rfl ?_
    refine e_getF (t := 5) (k := 3) (t1 := 24) dX5_shuts_1 cb5 (by decide) mf_X5_21 (by rfl) (by rfl) (by decide) (by assumption) (lv1 _ 5 (fun _ => rfl)) ?_
    refine r_iload_n dX5_shuts_4 rfl rfl ?_
    refine e_iconst dX5_shuts_5 ?_
    refine e_bast (t := 24) dX5_shuts_6 (by decide) (by decide) (by rfl) (by intro _; rfl) (by omega) (by assumption) (lv1 _ 24 (fun _ => rfl)) (by have e : ln 24 = 24 := rfl; omega) (fun g hh => ?_)
    refine e_iconst dX5_shuts_7 ?_
    refine r_istore_n dX5_shuts_8 rfl (by decide) ?_
    refine e_iconst dX5_shuts_9 ?_
    refine r_istore dX5_shuts_10 (by decide) ?_
    have ho23 : up σ 24 0 k 1 23 0 k = τ 3 k 5 := (hO.2.1 k hk).2.1
    refine r_iload dX5_shuts_12 rfl ?_
    refine r_aload_nO dX5_shuts_14 rfl rfl ?_
    refine e_getF (t := 5) (k := 2) (t1 := 23) dX5_shuts_15 cb5 (by decide) mf_X5_18 (by rfl) (by rfl) (by decide) (by assumption) (lv1 _ 5 (fun _ => rfl)) ?_
    refine r_iload_n dX5_shuts_18 rfl rfl ?_
    refine e_iald (t := 23) dX5_shuts_19 (by decide) (by decide) (by rfl) (by intro _; rfl) (by assumption) (lv1 _ 23 (fun _ => rfl)) (by have e : ln 23 = 24 := rfl; omega) ?_
    refine e_iv ho23 ?_
    refine e_ic_ge 97 dX5_shuts_20 (by decide) ⟨by omega, by omega⟩ ⟨by omega, by omega⟩ (fun h20 => ?_) (fun h20 => ?_)
    · refine r_pc 97 rfl ?_
      refine r_iload_n dX5_shuts_97 rfl rfl ?_
      exact r_iret dX5_shuts_98 rfl ⟨A, _, hh, by rw [if_pos hx0], fun _ _ => rfl, by rw [if_pos hx0, ← hτ1]; exact hO1, hof1⟩
    · refine r_pc 23 rfl ?_
      refine r_iload_n dX5_shuts_23 rfl rfl ?_
      refine e_if_eq 97 dX5_shuts_24 (by decide) ⟨by omega, by omega⟩ (fun h24 => ?_) (fun h24 => by exfalso; omega)
      refine r_pc 97 rfl ?_
      refine r_iload_n dX5_shuts_97 rfl rfl ?_
      exact r_iret dX5_shuts_98 rfl ⟨A, _, hh, by rw [if_pos hx0], fun _ _ => rfl, by rw [if_pos hx0, ← hτ1]; exact hO1, hof1⟩
  · refine r_aload_nO dX5_shuts_0 rfl rfl ?_
    refine e_getF (t := 5) (k := 3) (t1 := 24) dX5_shuts_1 cb5 (by decide) mf_X5_21 (by rfl) (by rfl) (by decide) (by assumption) (lv1 _ 5 (fun _ => rfl)) ?_
    refine r_iload_n dX5_shuts_4 rfl rfl ?_
    refine e_iconst dX5_shuts_5 ?_
    refine e_bast (t := 24) dX5_shuts_6 (by decide) (by decide) (by rfl) (by intro _; rfl) (by omega) (by assumption) (lv1 _ 24 (fun _ => rfl)) (by have e : ln 24 = 24 := rfl; omega) (fun g hh => ?_)
    refine e_iconst dX5_shuts_7 ?_
    refine r_istore_n dX5_shuts_8 rfl (by decide) ?_
    refine e_iconst dX5_shuts_9 ?_
    refine r_istore dX5_shuts_10 (by decide) ?_
    refine r_lv [(0, vr A 5 0), (1, .int (iI k)), (2, .int (iI x)), (3, .int (iI 0)), (4, .int (iI 0))] rfl ?_
    exact loop (τ1 3 k 5).toNat 0 0 _ (by omega) hx0 rfl hO1 hof1 g hh
