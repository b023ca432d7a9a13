theorem rdv_r {σ : ST} {L : Int → List Int} (hT : WT σ) (hL : WL σ L) (hV : WV σ) {k : Int} (hk : -1 ≤ k ∧ k < σ 99 3 0) : ∀ (m : Nat) (n : Int), (0 ≤ n ∧ n < 12) → -1000 ≤ rdv σ (lo L k) m n ∧ rdv σ (lo L k) m n ≤ 2000 := by
  intro m
  induction m with
  | zero =>
    intro n hn
    unfold rdv
    split
    · omega
    · exact (hV _ n (hF_lv hT hL hk (by omega)) hn).2.2.1
  | succ m ih =>
    intro n hn
    unfold rdv
    split
    · omega
    · have h2 := hV _ n (hF_lv hT hL hk (n := n) (by omega)) hn
      split
      · exact h2.2.2.1
      · exact raI_r (ih _ (by omega))
/-- where it comes to an end -/
theorem rdv_end {σ : ST} {L : Int → List Int} {k : Int} {m : Nat} {n : Int} (h : m = 0 ∨ hF σ n (lo L k) < 0 ∨ σ 17 (hF σ n (lo L k)) n = -1) : rdv σ (lo L k) m n = if hF σ n (lo L k) < 0 then -1000 else σ 16 (hF σ n (lo L k)) n := by
  cases m with
  | zero => rfl
  | succ m =>
    unfold rdv
    split
    · rfl
    · rcases h with h | h | h
      · cases h
      · exact absurd h (by assumption)
      · rw [if_pos h]
/-- what stands in the row of addends -/
def AD (A : Nat → Int → Nat) (g : GG) (ad : Nat → Int) (s : Nat) : Prop := ∀ i, i < s → gi g (A 8 0) i = iI (ad i) ∧ (-99 ≤ ad i ∧ ad i ≤ 99)
theorem AD_up {A : Nat → Int → Nat} {g : GG} {ad : Nat → Int} {s : Nat} {x : Int} (h : AD A g ad s) (hx : -99 ≤ x ∧ x ≤ 99) : AD A (setI g (A 8 0) s (iI x)) (fun i => if i = s then x else ad i) (s + 1) := by
  intro i hi
  rw [gi_setI_at]
  by_cases e : i = s
  · simp only [if_pos e]
    exact ⟨trivial, hx⟩
  · simp only [if_neg e]
    exact h i (by omega)
theorem s_valueOf {κ : KK} {A : Nat → Int → Nat} {σ : ST} {L : Int → List Int} {k n : Int} (hk : Lv σ 3 k) (hn : 0 ≤ n ∧ n < 12) (hT : WT σ) (hL : WL σ L) (hF' : WF σ) (hV : WV σ) : PU κ A MX4_valueOf 2 σ [vr A 4 0, vr A 3 k, .int (iI n)] (.int (iI (rdv σ (lo L k) 6 n))) := by
  intro g hh
  refine e_start rfl (by show (lg_sl _).length ≤ 8; simp [lg_sl, cat_rf, cat_i, cat_l, cat_r, cat_n]) (lv := [(0, vr A 4 0), (1, vr A 3 k), (2, .int (iI n))]) (by simp [lv_args, cat_rf, cat_i, cat_l, cat_r, cat_n]) ?_
  have hkd : -1 ≤ k ∧ k < σ 99 3 0 := ⟨by have := hk.1; omega, hk.2⟩
  have loop2 : ∀ (s : Nat) (v a e h : Int) (ad : Nat → Int), fo ad s v = rdv σ (lo L k) 6 n → s ≤ 6 → (-1000 ≤ v ∧ v ≤ 2000) → ∀ g, HR κ A g σ → AD A g ad s → Wp κ MX4_valueOf 2 0 0 96 [(0, vr A 4 0), (1, vr A 3 k), (2, .int (iI n)), (3, .int (iI a)), (4, .int (iI e)), (5, vr A 3 h), (6, .int (iI v)), (7, .int (iI ((s : Int) - 1)))] [] g (PQ κ A σ (some (.int (iI (rdv σ (lo L k) 6 n))))) := by
    intro s
    induction s with
    | zero =>
      intro v a e h ad hfo hs hv g hh hg
      refine r_iload dX4_valueOf_96 rfl ?_
      refine e_if_lt 121 dX4_valueOf_98 (by decide) ⟨by omega, by omega⟩ (fun h98 => ?_) (fun h98 => by exfalso; omega)
      refine r_pc 121 rfl ?_
      refine r_iload dX4_valueOf_121 rfl ?_
      exact q_iret dX4_valueOf_123 rfl (by exact hfo) (by assumption)
    | succ s ih =>
      intro v a e h ad hfo hs hv g hh hg
      have es : (((s + 1 : Nat) : Int) - 1).toNat = s := by omega
      refine r_iload dX4_valueOf_96 rfl ?_
      refine e_if_lt 121 dX4_valueOf_98 (by decide) ⟨by omega, by omega⟩ (fun h98 => by exfalso; omega) (fun h98 => ?_)
      refine r_pc 101 rfl ?_
      refine r_iload dX4_valueOf_101 rfl ?_
      refine r_aload_nO dX4_valueOf_103 rfl rfl ?_
      refine e_getF (t := 4) (k := 4) (t1 := 8) dX4_valueOf_104 cb4 (by decide) mf_X4_28 (by rfl) (by rfl) (by decide) (by assumption) (lv1 _ 4 (fun _ => rfl)) ?_
      refine r_iload dX4_valueOf_107 rfl ?_
      refine e_ialdX (t := 8) dX4_valueOf_109 (by decide) (by decide) (by rfl) (by assumption) (lv1 _ 8 (fun _ => rfl)) (by have e : ln 8 = 6 := rfl; omega) (show _ = iI (ad s) by rw [es]; exact (hg s (by omega)).1) ?_
      refine e_callSG (z := MX4_raised) dX4_valueOf_110 ml_X4_95 cz_X4_raised mk_X4_raised (s_raisedg hv (hg s (by omega)).2) rfl rfl (by simp [cat_rf, cat_i, cat_l, cat_r, cat_n]) (by decide) (by assumption) ?_
      refine r_pc 113 rfl ?_
      refine r_istore dX4_valueOf_113 (by decide) ?_
      refine r_stw (by repeat' first | exact True.intro | refine And.intro (fun h => by first | rfl | exact cat_rf _ | exact absurd h (by decide)) ?_) ?_
      refine e_iinc dX4_valueOf_115 rfl (by decide) ?_
      refine r_goto 96 dX4_valueOf_118 (by decide) ?_
      refine r_lv [(0, vr A 4 0), (1, vr A 3 k), (2, .int (iI n)), (3, .int (iI a)), (4, .int (iI e)), (5, vr A 3 h), (6, .int (iI (raI v (ad s)))), (7, .int (iI (((s + 1 : Nat) : Int) - 1 + -1)))] rfl ?_
      rw [show ((s + 1 : Nat) : Int) - 1 + -1 = (s : Int) - 1 by omega]
      exact ih _ a e h ad hfo (by omega) (raI_r hv) g hh (fun i hi => hg i (by omega))
  have fin : ∀ (s m : Nat) (a : Int) (ad : Nat → Int), s ≤ 6 → (0 ≤ a ∧ a < 12) → rdv σ (lo L k) 6 n = fo ad s (rdv σ (lo L k) m a) → (m = 0 ∨ hF σ a (lo L k) < 0 ∨ σ 17 (hF σ a (lo L k)) a = -1) → ∀ g, HR κ A g σ → AD A g ad s → Wp κ MX4_valueOf 2 0 0 70 [(0, vr A 4 0), (1, vr A 3 k), (2, .int (iI n)), (3, .int (iI a)), (4, .int (iI (s : Int))), (5, vr A 3 (hF σ a (lo L k)))] [] g (PQ κ A σ (some (.int (iI (rdv σ (lo L k) 6 n))))) := by
    intro s m a ad hs ha hr hm g hh hg
    have hdm := hF_dom hT hL hkd (n := a)
    have hrr := rdv_r hT hL hV hkd m a ha
    rw [rdv_end hm] at hr hrr
    refine r_aloadO dX4_valueOf_70 rfl ?_
    refine e_ifnonnull 81 dX4_valueOf_72 (by decide) (fun h72 => ?_) (fun h72 => ?_)
    · refine r_pc 81 rfl ?_
      have hhk := hF_lv hT hL hkd h72
      refine r_aloadO dX4_valueOf_81 rfl ?_
      refine e_getF (t := 3) (k := 8) (t1 := 16) dX4_valueOf_83 cb3 (by decide) mf_X4_284 (by rfl) (by rfl) (by decide) (by assumption) (by assumption) ?_
      refine r_iload_n dX4_valueOf_86 rfl rfl ?_
      refine e_iald (t := 16) dX4_valueOf_87 (by decide) (by decide) (by rfl) (by intro _; rfl) (by assumption) (by first | assumption | exact lv_as 3 (by assumption) (by rfl)) (by have e : ln 16 = 12 := rfl; omega) ?_
      refine r_istore dX4_valueOf_88 (by decide) ?_
      refine r_stw (by repeat' first | exact True.intro | refine And.intro (fun h => by first | rfl | exact cat_rf _ | exact absurd h (by decide)) ?_) ?_
      refine r_iload dX4_valueOf_90 rfl ?_
      refine e_iconst dX4_valueOf_92 ?_
      first | refine e_isub dX4_valueOf_93 ?_ | refine r_isub dX4_valueOf_93 ?_
      refine r_istore dX4_valueOf_94 (by decide) ?_
      refine r_lv [(0, vr A 4 0), (1, vr A 3 k), (2, .int (iI n)), (3, .int (iI a)), (4, .int (iI (s : Int))), (5, vr A 3 (hF σ a (lo L k))), (6, .int (iI (σ 16 (hF σ a (lo L k)) a))), (7, .int (iI ((s : Int) - 1)))] rfl ?_
      rw [if_neg (by omega)] at hr hrr
      exact loop2 s _ a _ _ ad hr.symm hs hrr g hh hg
    · refine r_pc 75 rfl ?_
      refine e_sipush dX4_valueOf_75 (by decide +kernel) ?_
      refine r_goto 88 dX4_valueOf_78 (by decide) ?_
      refine r_istore dX4_valueOf_88 (by decide) ?_
      refine r_stw (by repeat' first | exact True.intro | refine And.intro (fun h => by first | rfl | exact cat_rf _ | exact absurd h (by decide)) ?_) ?_
      refine r_iload dX4_valueOf_90 rfl ?_
      refine e_iconst dX4_valueOf_92 ?_
      first | refine e_isub dX4_valueOf_93 ?_ | refine r_isub dX4_valueOf_93 ?_
      refine r_istore dX4_valueOf_94 (by decide) ?_
      refine r_lv [(0, vr A 4 0), (1, vr A 3 k), (2, .int (iI n)), (3, .int (iI a)), (4, .int (iI (s : Int))), (5, vr A 3 (hF σ a (lo L k))), (6, .int (iI (-1000))), (7, .int (iI ((s : Int) - 1)))] rfl ?_
      rw [if_pos (by omega)] at hr hrr
      exact loop2 s _ a _ _ ad hr.symm hs hrr g hh hg
  have loop1 : ∀ (m s : Nat) (a : Int) (ad : Nat → Int), s + m = 6 → (0 ≤ a ∧ a < 12) → rdv σ (lo L k) 6 n = fo ad s (rdv σ (lo L k) m a) → ∀ g, HR κ A g σ → AD A g ad s → Wp κ MX4_valueOf 2 0 0 12 [(0, vr A 4 0), (1, vr A 3 k), (2, .int (iI n)), (3, .int (iI a)), (4, .int (iI (s : Int))), (5, vr A 3 (hF σ a (lo L k)))] [] g (PQ κ A σ (some (.int (iI (rdv σ (lo L k) 6 n))))) := by
    intro m
    induction m with
    | zero =>
      intro s a ad hs ha hr g hh hg
      refine r_iload dX4_valueOf_12 rfl ?_
      refine e_bipush dX4_valueOf_14 (by decide +kernel) ?_
      refine e_ic_ge 70 dX4_valueOf_16 (by decide) ⟨by omega, by omega⟩ ⟨by omega, by omega⟩ (fun h16 => ?_) (fun h16 => by exfalso; omega)
      refine r_pc 70 rfl ?_
      exact fin s 0 a ad (by omega) ha hr (Or.inl rfl) g hh hg
    | succ m ih =>
      intro s a ad hs ha hr g hh hg
      have hdm := hF_dom hT hL hkd (n := a)
      refine r_iload dX4_valueOf_12 rfl ?_
      refine e_bipush dX4_valueOf_14 (by decide +kernel) ?_
      refine e_ic_ge 70 dX4_valueOf_16 (by decide) ⟨by omega, by omega⟩ ⟨by omega, by omega⟩ (fun h16 => by exfalso; omega) (fun h16 => ?_)
      refine r_pc 19 rfl ?_
      refine r_aloadO dX4_valueOf_19 rfl ?_
      refine e_ifnull 70 dX4_valueOf_21 (by decide) (fun h21 => ?_) (fun h21 => ?_)
      · refine r_pc 70 rfl ?_
        exact fin s (m + 1) a ad (by omega) ha hr (Or.inr (Or.inl h21)) g hh hg
      · refine r_pc 24 rfl ?_
        have hhk := hF_lv hT hL hkd h21
        have hV2 := hV _ a hhk ha
        refine r_aloadO dX4_valueOf_24 rfl ?_
        refine e_getF (t := 3) (k := 9) (t1 := 17) dX4_valueOf_26 cb3 (by decide) mf_X4_281 (by rfl) (by rfl) (by decide) (by assumption) (by assumption) ?_
        refine r_iload_n dX4_valueOf_29 rfl rfl ?_
        refine e_iald (t := 17) dX4_valueOf_30 (by decide) (by decide) (by rfl) (by intro _; rfl) (by assumption) (by first | assumption | exact lv_as 3 (by assumption) (by rfl)) (by have e : ln 17 = 12 := rfl; omega) ?_
        refine e_iconst dX4_valueOf_31 ?_
        refine e_ic_eq 70 dX4_valueOf_32 (by decide) ⟨by omega, by omega⟩ ⟨by omega, by omega⟩ (fun h32 => ?_) (fun h32 => ?_)
        · refine r_pc 70 rfl ?_
          exact fin s (m + 1) a ad (by omega) ha hr (Or.inr (Or.inr h32)) g hh hg
        · refine r_pc 35 rfl ?_
          refine r_aload_nO dX4_valueOf_35 rfl rfl ?_
          refine e_getF (t := 4) (k := 4) (t1 := 8) dX4_valueOf_36 cb4 (by decide) mf_X4_28 (by rfl) (by rfl) (by decide) (by assumption) (lv1 _ 4 (fun _ => rfl)) ?_
          refine r_iload dX4_valueOf_39 rfl ?_
          refine r_aloadO dX4_valueOf_41 rfl ?_
          refine e_getF (t := 3) (k := 11) (t1 := 19) dX4_valueOf_43 cb3 (by decide) mf_X4_94 (by rfl) (by rfl) (by decide) (by assumption) (by assumption) ?_
          refine r_iload_n dX4_valueOf_46 rfl rfl ?_
          refine e_iald (t := 19) dX4_valueOf_47 (by decide) (by decide) (by rfl) (by intro _; rfl) (by assumption) (by first | assumption | exact lv_as 3 (by assumption) (by rfl)) (by have e : ln 19 = 12 := rfl; omega) ?_
          refine e_iastX (t := 8) dX4_valueOf_48 (by decide) (by decide) (by rfl) (by intro _; rfl) (by assumption) (lv1 _ 8 (fun _ => rfl)) ⟨by omega, by have e : ln 8 = 6 := rfl; omega⟩ (fun hh => ?_)
          have hg2 := AD_up (x := σ 19 (hF σ a (lo L k)) a) hg hV2.2.2.2.1
          refine e_iinc dX4_valueOf_49 rfl (by decide) ?_
          refine r_aloadO dX4_valueOf_52 rfl ?_
          refine e_getF (t := 3) (k := 9) (t1 := 17) dX4_valueOf_54 cb3 (by decide) mf_X4_281 (by rfl) (by rfl) (by decide) (by assumption) (by assumption) ?_
          refine r_iload_n dX4_valueOf_57 rfl rfl ?_
          refine e_iald (t := 17) dX4_valueOf_58 (by decide) (by decide) (by rfl) (by intro _; rfl) (by assumption) (by first | assumption | exact lv_as 3 (by assumption) (by rfl)) (by have e : ln 17 = 12 := rfl; omega) ?_
          refine r_istore_n dX4_valueOf_59 rfl (by decide) ?_
          refine r_aload_nO dX4_valueOf_60 rfl rfl ?_
          refine r_iload_n dX4_valueOf_61 rfl rfl ?_
          refine e_callSG (z := MX4_holderOf) dX4_valueOf_62 ml_X4_82 cz_X4_holderOf mk_X4_holderOf (s_holderOfg hkd (by omega) hT hL hF') rfl rfl (by simp [cat_rf, cat_i, cat_l, cat_r, cat_n]) (by decide) (by assumption) ?_
          refine r_pc 65 rfl ?_
          refine r_astoreO dX4_valueOf_65 (by decide) ?_
          refine r_goto 12 dX4_valueOf_67 (by decide) ?_
          refine r_lv [(0, vr A 4 0), (1, vr A 3 k), (2, .int (iI n)), (3, .int (iI (σ 17 (hF σ a (lo L k)) a))), (4, .int (iI ((s : Int) + 1))), (5, vr A 3 (hF σ (σ 17 (hF σ a (lo L k)) a) (lo L k)))] rfl ?_
          rw [show (s : Int) + 1 = ((s + 1 : Nat) : Int) by omega]
          refine ih (s + 1) _ _ (by omega) (by omega) ?_ _ hh hg2
          rw [hr, fo, if_pos rfl, fo_up _ _ _ _ _ (Nat.le_refl s), rdv, if_neg (by omega), if_neg h32]
  refine r_iload_n dX4_valueOf_0 rfl rfl ?_
  refine r_istore_n dX4_valueOf_1 rfl (by decide) ?_
  refine e_iconst dX4_valueOf_2 ?_
  refine r_istore dX4_valueOf_3 (by decide) ?_
  refine r_aload_nO dX4_valueOf_5 rfl rfl ?_
  refine r_iload_n dX4_valueOf_6 rfl rfl ?_
  refine e_callSG (z := MX4_holderOf) dX4_valueOf_7 ml_X4_82 cz_X4_holderOf mk_X4_holderOf (s_holderOfg hkd hn hT hL hF') rfl rfl (by simp [cat_rf, cat_i, cat_l, cat_r, cat_n]) (by decide) (by assumption) ?_
  refine r_pc 10 rfl ?_
  refine r_astoreO dX4_valueOf_10 (by decide) ?_
  refine r_lv [(0, vr A 4 0), (1, vr A 3 k), (2, .int (iI n)), (3, .int (iI n)), (4, .int (iI 0)), (5, vr A 3 (hF σ n (lo L k)))] rfl ?_
  exact loop1 6 0 n (fun _ => 0) rfl hn rfl g hh (fun i hi => by omega)
