/-- the first places of the list -/
def LL (A : Nat → Int → Nat) (g : GG) (f : Nat → Int) (m : Nat) : Prop := ∀ i, i < m → gi g (A 9 0) i = iI (f i)
def QL (κ : KK) (A : Nat → Int → Nat) (σ : ST) (v : Nat) (f : Nat → Int) : Option Value → GG → Prop := fun w h => w = some (.int (iI (v : Int))) ∧ HR κ A h σ ∧ LL A h f v
theorem LL_up {A : Nat → Int → Nat} {g : GG} {f : Nat → Int} {s : Nat} {x : Int} (h : LL A g f s) : LL A (setI g (A 9 0) s (iI x)) (fun i => if i = s then x else f i) (s + 1) := by
  intro i hi
  rw [gi_setI_at]
  by_cases e : i = s
  · simp only [if_pos e]
  · simp only [if_neg e]
    exact h i (by omega)
theorem s_nameBitsg {κ : KK} {A : Nat → Int → Nat} {σ : ST} {k : Int} (hk : Lv σ 3 k) (hT : WT σ) (hF : WF σ) : ∃ v : Int32, PG κ A MX3_nameBits 0 σ [vr A 3 k] (.int v) := by
  have hz := wt_sz hT hk
  have loop : ∀ m : Nat, ∀ j : Int, ∀ x : Int32, 0 ≤ j → j + (m : Int) = σ 3 k 5 → ∃ v : Int32, True ∧ ∀ g, HR κ A g σ → Wp κ MX3_nameBits 0 0 0 4 [(0, vr A 3 k), (1, .int x), (2, .int (iI j))] [] g (PG0 g (some (.int v))) := by
    intro m
    induction m with
    | zero =>
      intro j x hj0 hjm
      refine ⟨x, trivial, fun g hh => ?_⟩
      refine r_iload_n dX3_nameBits_4 rfl rfl ?_
      refine r_aload_nO dX3_nameBits_5 rfl rfl ?_
      refine e_getI (t := 3) (k := 5) 5 dX3_nameBits_6 cb3 (by decide) mf_X3_38 (by rfl) rfl (by assumption) (by assumption) ?_
      refine e_ic_ge 29 dX3_nameBits_9 (by decide) ⟨by omega, by omega⟩ ⟨by omega, by omega⟩ (fun h9 => ?_) (fun h9 => by exfalso; omega)
      refine r_pc 29 rfl ?_
      refine r_iload_n dX3_nameBits_29 rfl rfl ?_
      exact r_iret dX3_nameBits_30 rfl ⟨rfl, rfl⟩
    | succ m ih =>
      intro j x hj0 hjm
      obtain ⟨v, hv, hq⟩ := ih (j + 1) (x ||| (iI 1 <<< (iI (σ 14 k j) &&& 31))) (by omega) (by omega)
      refine ⟨v, hv, fun g hh => ?_⟩
      refine r_iload_n dX3_nameBits_4 rfl rfl ?_
      refine r_aload_nO dX3_nameBits_5 rfl rfl ?_
      refine e_getI (t := 3) (k := 5) 5 dX3_nameBits_6 cb3 (by decide) mf_X3_38 (by rfl) rfl (by assumption) (by assumption) ?_
      refine e_ic_ge 29 dX3_nameBits_9 (by decide) ⟨by omega, by omega⟩ ⟨by omega, by omega⟩ (fun h9 => by exfalso; omega) (fun h9 => ?_)
      refine r_pc 12 rfl ?_
      refine r_iload_n dX3_nameBits_12 rfl rfl ?_
      refine e_iconst dX3_nameBits_13 ?_
      refine r_aload_nO dX3_nameBits_14 rfl rfl ?_
      refine e_getF (t := 3) (k := 6) (t1 := 14) dX3_nameBits_15 cb3 (by decide) mf_X3_9 (by rfl) (by rfl) (by decide) (by assumption) (by assumption) ?_
      refine r_iload_n dX3_nameBits_18 rfl rfl ?_
      refine e_iald (t := 14) dX3_nameBits_19 (by decide) (by decide) (by rfl) (by intro _; rfl) (by assumption) (by first | assumption | exact lv_as 3 (by assumption) (by rfl)) (by have e : ln 14 = 12 := rfl; omega) ?_
      refine r_ishl dX3_nameBits_20 ?_
      refine r_ior dX3_nameBits_21 ?_
      refine r_istore_n dX3_nameBits_22 rfl (by decide) ?_
      refine r_stw (by repeat' first | exact True.intro | refine And.intro (fun h => by first | rfl | exact cat_rf _ | exact absurd h (by decide)) ?_) ?_
      refine e_iinc dX3_nameBits_23 rfl (by decide) ?_
      refine r_goto 4 dX3_nameBits_26 (by decide) ?_
      refine r_lv [(0, vr A 3 k), (1, .int (x ||| (iI 1 <<< (iI (σ 14 k j) &&& 31)))), (2, .int (iI (j + 1)))] rfl ?_
      exact hq g hh
  obtain ⟨v, hv, hq⟩ := loop (σ 3 k 5).toNat 0 (iI 0) (by omega) (by omega)
  refine ⟨v, ?_⟩
  intro g hh
  refine e_start rfl (by show (lg_sl _).length ≤ 3; simp [lg_sl, cat_rf, cat_i, cat_l, cat_r, cat_n]) (lv := [(0, vr A 3 k)]) (by simp [lv_args, cat_rf, cat_i, cat_l, cat_r, cat_n]) ?_
  refine e_iconst dX3_nameBits_0 ?_
  refine r_istore_n dX3_nameBits_1 rfl (by decide) ?_
  refine r_stw (by repeat' first | exact True.intro | refine And.intro (fun h => by first | rfl | exact cat_rf _ | exact absurd h (by decide)) ?_) ?_
  refine e_iconst dX3_nameBits_2 ?_
  refine r_istore_n dX3_nameBits_3 rfl (by decide) ?_
  refine r_lv [(0, vr A 3 k), (1, .int (iI 0)), (2, .int (iI 0))] rfl ?_
  exact hq g hh
theorem s_listUn {κ : KK} {A : Nat → Int → Nat} {σ : ST} {k n : Int} {x : Int32} {s : Nat} {f : Nat → Int} (hk : Lv σ 3 k) (hn : 0 ≤ n ∧ n < 12) (hF' : WF σ) (hs : s ≤ 12) : ∃ (v : Nat) (f2 : Nat → Int), v ≤ 12 ∧ ∀ g, HR κ A g σ → LL A g f s → Spec κ MX4_listUnlessAhead 1 0 0 [vr A 4 0, vr A 3 k, .int (iI n), .int x, .int (iI (s : Int))] g (QL κ A σ v f2) := by
  have h32 := ((hF' k hk).2.1 n hn).1
  by_cases hc : (x &&& (iI 1 <<< (iI n &&& 31))) = 0
  · by_cases hc2 : isHd (σ 15 k n)
    · refine ⟨s, f, by omega, fun g hh hg => ?_⟩
      refine e_start rfl (by show (lg_sl _).length ≤ 6; simp [lg_sl, cat_rf, cat_i, cat_l, cat_r, cat_n]) (lv := [(0, vr A 4 0), (1, vr A 3 k), (2, .int (iI n)), (3, .int x), (4, .int (iI (s : Int)))]) (by simp [lv_args, cat_rf, cat_i, cat_l, cat_r, cat_n]) ?_
      refine r_iload_n dX4_listUnlessAhead_0 rfl rfl ?_
      refine e_iconst dX4_listUnlessAhead_1 ?_
      refine r_iload_n dX4_listUnlessAhead_2 rfl rfl ?_
      refine r_ishl dX4_listUnlessAhead_3 ?_
      refine r_iand dX4_listUnlessAhead_4 ?_
      refine r_if_eq 12 dX4_listUnlessAhead_5 (by decide) (fun h5 => ?_) (fun h5 => by contradiction)
      refine r_pc 12 rfl ?_
      refine e_iconst dX4_listUnlessAhead_12 ?_
      refine r_istore dX4_listUnlessAhead_13 (by decide) ?_
      refine r_iload dX4_listUnlessAhead_15 rfl ?_
      refine e_if_ne 37 dX4_listUnlessAhead_17 (by decide) ⟨by omega, by omega⟩ (fun h17 => by exfalso; omega) (fun h17 => ?_)
      refine r_pc 20 rfl ?_
      refine r_aload_nO dX4_listUnlessAhead_20 rfl rfl ?_
      refine r_iload_n dX4_listUnlessAhead_21 rfl rfl ?_
      refine e_bipush dX4_listUnlessAhead_22 (by decide +kernel) ?_
      refine e_callVG (z := MX3_is) dX4_listUnlessAhead_24 ml_X4_86 cz_X3_is mk_X3_is ms_X3_is cb3 (by decide) (s_is8g hk hn h32) rfl rfl (by simp [cat_rf, cat_i, cat_l, cat_r, cat_n]) (by decide) (by assumption) (by assumption) ?_
      refine r_pc 27 rfl ?_
      refine e_ifne_b 37 dX4_listUnlessAhead_27 (by decide) (fun h27 => ?_) (fun h27 => by contradiction)
      refine r_pc 37 rfl ?_
      refine r_iload dX4_listUnlessAhead_37 rfl ?_
      exact r_iret dX4_listUnlessAhead_39 rfl ⟨rfl, hh, hg⟩
    · by_cases hc3 : s < 12
      · refine ⟨s + 1, (fun i => if i = s then n else f i), by omega, fun g hh hg => ?_⟩
        refine e_start rfl (by show (lg_sl _).length ≤ 6; simp [lg_sl, cat_rf, cat_i, cat_l, cat_r, cat_n]) (lv := [(0, vr A 4 0), (1, vr A 3 k), (2, .int (iI n)), (3, .int x), (4, .int (iI (s : Int)))]) (by simp [lv_args, cat_rf, cat_i, cat_l, cat_r, cat_n]) ?_
        refine r_iload_n dX4_listUnlessAhead_0 rfl rfl ?_
        refine e_iconst dX4_listUnlessAhead_1 ?_
        refine r_iload_n dX4_listUnlessAhead_2 rfl rfl ?_
        refine r_ishl dX4_listUnlessAhead_3 ?_
        refine r_iand dX4_listUnlessAhead_4 ?_
        refine r_if_eq 12 dX4_listUnlessAhead_5 (by decide) (fun h5 => ?_) (fun h5 => by contradiction)
        refine r_pc 12 rfl ?_
        refine e_iconst dX4_listUnlessAhead_12 ?_
        refine r_istore dX4_listUnlessAhead_13 (by decide) ?_
        refine r_iload dX4_listUnlessAhead_15 rfl ?_
        refine e_if_ne 37 dX4_listUnlessAhead_17 (by decide) ⟨by omega, by omega⟩ (fun h17 => by exfalso; omega) (fun h17 => ?_)
        refine r_pc 20 rfl ?_
        refine r_aload_nO dX4_listUnlessAhead_20 rfl rfl ?_
        refine r_iload_n dX4_listUnlessAhead_21 rfl rfl ?_
        refine e_bipush dX4_listUnlessAhead_22 (by decide +kernel) ?_
        refine e_callVG (z := MX3_is) dX4_listUnlessAhead_24 ml_X4_86 cz_X3_is mk_X3_is ms_X3_is cb3 (by decide) (s_is8g hk hn h32) rfl rfl (by simp [cat_rf, cat_i, cat_l, cat_r, cat_n]) (by decide) (by assumption) (by assumption) ?_
        refine r_pc 27 rfl ?_
        refine e_ifne_b 37 dX4_listUnlessAhead_27 (by decide) (fun h27 => by contradiction) (fun h27 => ?_)
        refine r_pc 30 rfl ?_
        refine r_iload dX4_listUnlessAhead_30 rfl ?_
        refine e_bipush dX4_listUnlessAhead_32 (by decide +kernel) ?_
        refine e_ic_lt 40 dX4_listUnlessAhead_34 (by decide) ⟨by omega, by omega⟩ ⟨by omega, by omega⟩ (fun h34 => ?_) (fun h34 => by exfalso; omega)
        refine r_pc 40 rfl ?_
        refine r_aload_nO dX4_listUnlessAhead_40 rfl rfl ?_
        refine e_getF (t := 4) (k := 5) (t1 := 9) dX4_listUnlessAhead_41 cb4 (by decide) mf_X4_32 (by rfl) (by rfl) (by decide) (by assumption) (lv1 _ 4 (fun _ => rfl)) ?_
        refine r_iload dX4_listUnlessAhead_44 rfl ?_
        refine r_iload_n dX4_listUnlessAhead_46 rfl rfl ?_
        refine e_iastX (t := 9) dX4_listUnlessAhead_47 (by decide) (by decide) (by rfl) (by intro _; rfl) (by assumption) (lv1 _ 9 (fun _ => rfl)) ⟨by omega, by have e : ln 9 = 12 := rfl; omega⟩ (fun hh => ?_)
        refine r_iload dX4_listUnlessAhead_48 rfl ?_
        refine e_iconst dX4_listUnlessAhead_50 ?_
        first | refine e_iadd dX4_listUnlessAhead_51 ?_ | refine r_iadd dX4_listUnlessAhead_51 ?_
        exact r_iret dX4_listUnlessAhead_52 rfl ⟨by rw [show (s : Int) + 1 = ((s + 1 : Nat) : Int) by omega], hh, LL_up hg⟩
      · refine ⟨s, f, by omega, fun g hh hg => ?_⟩
        refine e_start rfl (by show (lg_sl _).length ≤ 6; simp [lg_sl, cat_rf, cat_i, cat_l, cat_r, cat_n]) (lv := [(0, vr A 4 0), (1, vr A 3 k), (2, .int (iI n)), (3, .int x), (4, .int (iI (s : Int)))]) (by simp [lv_args, cat_rf, cat_i, cat_l, cat_r, cat_n]) ?_
        refine r_iload_n dX4_listUnlessAhead_0 rfl rfl ?_
        refine e_iconst dX4_listUnlessAhead_1 ?_
        refine r_iload_n dX4_listUnlessAhead_2 rfl rfl ?_
        refine r_ishl dX4_listUnlessAhead_3 ?_
        refine r_iand dX4_listUnlessAhead_4 ?_
        refine r_if_eq 12 dX4_listUnlessAhead_5 (by decide) (fun h5 => ?_) (fun h5 => by contradiction)
        refine r_pc 12 rfl ?_
        refine e_iconst dX4_listUnlessAhead_12 ?_
        refine r_istore dX4_listUnlessAhead_13 (by decide) ?_
        refine r_iload dX4_listUnlessAhead_15 rfl ?_
        refine e_if_ne 37 dX4_listUnlessAhead_17 (by decide) ⟨by omega, by omega⟩ (fun h17 => by exfalso; omega) (fun h17 => ?_)
        refine r_pc 20 rfl ?_
        refine r_aload_nO dX4_listUnlessAhead_20 rfl rfl ?_
        refine r_iload_n dX4_listUnlessAhead_21 rfl rfl ?_
        refine e_bipush dX4_listUnlessAhead_22 (by decide +kernel) ?_
        refine e_callVG (z := MX3_is) dX4_listUnlessAhead_24 ml_X4_86 cz_X3_is mk_X3_is ms_X3_is cb3 (by decide) (s_is8g hk hn h32) rfl rfl (by simp [cat_rf, cat_i, cat_l, cat_r, cat_n]) (by decide) (by assumption) (by assumption) ?_
        refine r_pc 27 rfl ?_
        refine e_ifne_b 37 dX4_listUnlessAhead_27 (by decide) (fun h27 => by contradiction) (fun h27 => ?_)
        refine r_pc 30 rfl ?_
        refine r_iload dX4_listUnlessAhead_30 rfl ?_
        refine e_bipush dX4_listUnlessAhead_32 (by decide +kernel) ?_
        refine e_ic_lt 40 dX4_listUnlessAhead_34 (by decide) ⟨by omega, by omega⟩ ⟨by omega, by omega⟩ (fun h34 => by exfalso; omega) (fun h34 => ?_)
        refine r_pc 37 rfl ?_
        refine r_iload dX4_listUnlessAhead_37 rfl ?_
        exact r_iret dX4_listUnlessAhead_39 rfl ⟨rfl, hh, hg⟩
  · refine ⟨s, f, by omega, fun g hh hg => ?_⟩
    refine e_start rfl (by show (lg_sl _).length ≤ 6; simp [lg_sl, cat_rf, cat_i, cat_l, cat_r, cat_n]) (lv := [(0, vr A 4 0), (1, vr A 3 k), (2, .int (iI n)), (3, .int x), (4, .int (iI (s : Int)))]) (by simp [lv_args, cat_rf, cat_i, cat_l, cat_r, cat_n]) ?_
    refine r_iload_n dX4_listUnlessAhead_0 rfl rfl ?_
    refine e_iconst dX4_listUnlessAhead_1 ?_
    refine r_iload_n dX4_listUnlessAhead_2 rfl rfl ?_
    refine r_ishl dX4_listUnlessAhead_3 ?_
    refine r_iand dX4_listUnlessAhead_4 ?_
    refine r_if_eq 12 dX4_listUnlessAhead_5 (by decide) (fun h5 => by contradiction) (fun h5 => ?_)
    refine r_pc 8 rfl ?_
    refine e_iconst dX4_listUnlessAhead_8 ?_
    refine r_goto 13 dX4_listUnlessAhead_9 (by decide) ?_
    refine r_istore dX4_listUnlessAhead_13 (by decide) ?_
    refine r_iload dX4_listUnlessAhead_15 rfl ?_
    refine e_if_ne 37 dX4_listUnlessAhead_17 (by decide) ⟨by omega, by omega⟩ (fun h17 => ?_) (fun h17 => by exfalso; omega)
    refine r_pc 37 rfl ?_
    refine r_iload dX4_listUnlessAhead_37 rfl ?_
    exact r_iret dX4_listUnlessAhead_39 rfl ⟨rfl, hh, hg⟩
theorem s_fillList {κ : KK} {A : Nat → Int → Nat} {σ : ST} {L : Int → List Int} {k : Int} (hk : Lv σ 3 k) (hT : WT σ) (hL : WL σ L) (hF' : WF σ) : ∃ (v : Nat) (f2 : Nat → Int), v ≤ 12 ∧ ∀ g, HR κ A g σ → Spec κ MX4_fillList 2 0 0 [vr A 4 0, vr A 3 k] g (QL κ A σ v f2) := by
  have main : ∀ (l : List Int) (q : Int) (s : Nat) (x : Int32) (f : Nat → Int), lo L q = l → (-1 ≤ q ∧ q < σ 99 3 0) → s ≤ 12 → ∃ (v : Nat) (f2 : Nat → Int), v ≤ 12 ∧ ∀ g, HR κ A g σ → LL A g f s → Wp κ MX4_fillList 2 0 0 7 [(0, vr A 4 0), (1, vr A 3 k), (2, .int (iI (s : Int))), (3, .int x), (4, vr A 3 q)] [] g (QL κ A σ v f2) := by
    intro l
    induction l with
    | nil =>
      intro q s x f hl hq hs
      have hq0 := lo_nil hL hq hl
      refine ⟨s, f, hs, fun g hh hg => ?_⟩
      refine r_aloadO dX4_fillList_7 rfl ?_
      refine e_ifnull 114 dX4_fillList_9 (by decide) (fun h9 => ?_) (fun h9 => by exfalso; omega)
      refine r_pc 114 rfl ?_
      refine r_iload_n dX4_fillList_114 rfl rfl ?_
      exact r_iret dX4_fillList_115 rfl ⟨rfl, hh, hg⟩
    | cons b l ih =>
      intro q s x f hl hq hs
      obtain ⟨hq0, rfl, hl'⟩ := lo_cons hL hq hl
      have hqk : Lv σ 3 q := ⟨hq0, hq.2⟩
      have hqp := (hT.2.2 q hqk).2.2.1
      have hz := wt_sz hT hqk
      obtain ⟨bv, hbv⟩ := s_nameBitsg (κ := κ) (A := A) hqk hT hF'
      have ord : ∀ (m : Nat) (j : Int) (s : Nat) (f : Nat → Int), 0 ≤ j → j + (m : Int) = σ 3 q 5 → s ≤ 12 → ∃ (v : Nat) (f2 : Nat → Int), v ≤ 12 ∧ ∀ g, HR κ A g σ → LL A g f s → Wp κ MX4_fillList 2 0 0 51 [(0, vr A 4 0), (1, vr A 3 k), (2, .int (iI (s : Int))), (3, .int x), (4, vr A 3 q), (5, .int (iI j))] [] g (QL κ A σ v f2) := by
        intro m
        induction m with
        | zero =>
          intro j s f hj0 hjm hs
          obtain ⟨v, f2, hv, hw⟩ := ih (σ 3 q 1) s (x ||| bv) f hl' hqp hs
          refine ⟨v, f2, hv, fun g hh hg => ?_⟩
          refine r_iload dX4_fillList_51 rfl ?_
          refine r_aloadO dX4_fillList_53 rfl ?_
          refine e_getI (t := 3) (k := 5) 5 dX4_fillList_55 cb3 (by decide) mf_X4_141 (by rfl) rfl (by assumption) (by assumption) ?_
          refine e_ic_ge 96 dX4_fillList_58 (by decide) ⟨by omega, by omega⟩ ⟨by omega, by omega⟩ (fun h58 => ?_) (fun h58 => by exfalso; omega)
          refine r_pc 96 rfl ?_
          refine r_iload_n dX4_fillList_96 rfl rfl ?_
          refine r_aloadO dX4_fillList_97 rfl ?_
          refine e_callVG (z := MX3_nameBits) dX4_fillList_99 ml_X4_381 cz_X3_nameBits mk_X3_nameBits ms_X3_nameBits cb3 (by decide) hbv rfl rfl (by simp [cat_rf, cat_i, cat_l, cat_r, cat_n]) (by decide) (by assumption) (by assumption) ?_
          refine r_pc 102 rfl ?_
          refine r_ior dX4_fillList_102 ?_
          refine r_istore_n dX4_fillList_103 rfl (by decide) ?_
          refine r_aloadO dX4_fillList_104 rfl ?_
          refine e_getR (t := 3) (k := 1) (t1 := 3) 1 dX4_fillList_106 cb3 (by decide) mf_X4_129 (by rfl) (by rfl) (by decide) rfl (by assumption) (by assumption) ?_
          refine r_astoreO dX4_fillList_109 (by decide) ?_
          refine r_goto 7 dX4_fillList_111 (by decide) ?_
          refine r_lv [(0, vr A 4 0), (1, vr A 3 k), (2, .int (iI (s : Int))), (3, .int (x ||| bv)), (4, vr A 3 (σ 3 q 1))] rfl ?_
          exact hw g hh hg
        | succ m ihj =>
          intro j s f hj0 hjm hs
          have ho := ((hF' q hqk).1 j (by omega)).1
          by_cases hc : σ 14 q j < 4
          · obtain ⟨v, f2, hv, hw⟩ := ihj (j + 1) s f (by omega) (by omega) hs
            refine ⟨v, f2, hv, fun g hh hg => ?_⟩
            refine r_iload dX4_fillList_51 rfl ?_
            refine r_aloadO dX4_fillList_53 rfl ?_
            refine e_getI (t := 3) (k := 5) 5 dX4_fillList_55 cb3 (by decide) mf_X4_141 (by rfl) rfl (by assumption) (by assumption) ?_
            refine e_ic_ge 96 dX4_fillList_58 (by decide) ⟨by omega, by omega⟩ ⟨by omega, by omega⟩ (fun h58 => by exfalso; omega) (fun h58 => ?_)
            refine r_pc 61 rfl ?_
            refine r_aloadO dX4_fillList_61 rfl ?_
            refine e_getF (t := 3) (k := 6) (t1 := 14) dX4_fillList_63 cb3 (by decide) mf_X4_300 (by rfl) (by rfl) (by decide) (by assumption) (by assumption) ?_
            refine r_iload dX4_fillList_66 rfl ?_
            refine e_iald (t := 14) dX4_fillList_68 (by decide) (by decide) (by rfl) (by intro _; rfl) (by assumption) (by first | assumption | exact lv_as 3 (by assumption) (by rfl)) (by have e : ln 14 = 12 := rfl; omega) ?_
            refine e_iconst dX4_fillList_69 ?_
            refine e_ic_lt 90 dX4_fillList_70 (by decide) ⟨by omega, by omega⟩ ⟨by omega, by omega⟩ (fun h70 => ?_) (fun h70 => by exfalso; omega)
            refine r_pc 90 rfl ?_
            refine e_iinc dX4_fillList_90 rfl (by decide) ?_
            refine r_stw (by repeat' first | exact True.intro | refine And.intro (fun h => by first | rfl | exact cat_rf _ | exact absurd h (by decide)) ?_) ?_
            refine r_goto 51 dX4_fillList_93 (by decide) ?_
            refine r_lv [(0, vr A 4 0), (1, vr A 3 k), (2, .int (iI (s : Int))), (3, .int x), (4, vr A 3 q), (5, .int (iI (j + 1)))] rfl ?_
            exact hw g hh hg
          · obtain ⟨u, f1, hu, hlu⟩ := s_listUn (κ := κ) (A := A) (x := x) (f := f) hqk ho hF' hs
            obtain ⟨v, f2, hv, hw⟩ := ihj (j + 1) u f1 (by omega) (by omega) hu
            refine ⟨v, f2, hv, fun g hh hg => ?_⟩
            refine r_iload dX4_fillList_51 rfl ?_
            refine r_aloadO dX4_fillList_53 rfl ?_
            refine e_getI (t := 3) (k := 5) 5 dX4_fillList_55 cb3 (by decide) mf_X4_141 (by rfl) rfl (by assumption) (by assumption) ?_
            refine e_ic_ge 96 dX4_fillList_58 (by decide) ⟨by omega, by omega⟩ ⟨by omega, by omega⟩ (fun h58 => by exfalso; omega) (fun h58 => ?_)
            refine r_pc 61 rfl ?_
            refine r_aloadO dX4_fillList_61 rfl ?_
            refine e_getF (t := 3) (k := 6) (t1 := 14) dX4_fillList_63 cb3 (by decide) mf_X4_300 (by rfl) (by rfl) (by decide) (by assumption) (by assumption) ?_
            refine r_iload dX4_fillList_66 rfl ?_
            refine e_iald (t := 14) dX4_fillList_68 (by decide) (by decide) (by rfl) (by intro _; rfl) (by assumption) (by first | assumption | exact lv_as 3 (by assumption) (by rfl)) (by have e : ln 14 = 12 := rfl; omega) ?_
            refine e_iconst dX4_fillList_69 ?_
            refine e_ic_lt 90 dX4_fillList_70 (by decide) ⟨by omega, by omega⟩ ⟨by omega, by omega⟩ (fun h70 => by exfalso; omega) (fun h70 => ?_)
            refine r_pc 73 rfl ?_
            refine r_aload_nO dX4_fillList_73 rfl rfl ?_
            refine r_aloadO dX4_fillList_74 rfl ?_
            refine r_aloadO dX4_fillList_76 rfl ?_
            refine e_getF (t := 3) (k := 6) (t1 := 14) dX4_fillList_78 cb3 (by decide) mf_X4_300 (by rfl) (by rfl) (by decide) (by assumption) (by assumption) ?_
            refine r_iload dX4_fillList_81 rfl ?_
            refine e_iald (t := 14) dX4_fillList_83 (by decide) (by decide) (by rfl) (by intro _; rfl) (by assumption) (by first | assumption | exact lv_as 3 (by assumption) (by rfl)) (by have e : ln 14 = 12 := rfl; omega) ?_
            refine r_iload_n dX4_fillList_84 rfl rfl ?_
            refine r_iload_n dX4_fillList_85 rfl rfl ?_
            refine e_callV (z := MX4_listUnlessAhead) (kc' := 0) (ks' := 0) dX4_fillList_86 ml_X4_377 cz_X4_listUnlessAhead mk_X4_listUnlessAhead ms_X4_listUnlessAhead cb4 (by decide) (by rfl) (by rfl) (by simp [cat_rf, cat_i, cat_l, cat_r, cat_n]) (by decide) (by assumption) (lv1 _ 4 (fun _ => rfl)) (hlu g hh hg) (by decide) (by decide) (fun w g hq => ?_)
            obtain ⟨rfl, hh, hg⟩ := hq
            refine r_pc 89 rfl ?_
            refine r_istore_n dX4_fillList_89 rfl (by decide) ?_
            refine r_stw (by repeat' first | exact True.intro | refine And.intro (fun h => by first | rfl | exact cat_rf _ | exact absurd h (by decide)) ?_) ?_
            refine e_iinc dX4_fillList_90 rfl (by decide) ?_
            refine r_stw (by repeat' first | exact True.intro | refine And.intro (fun h => by first | rfl | exact cat_rf _ | exact absurd h (by decide)) ?_) ?_
            refine r_goto 51 dX4_fillList_93 (by decide) ?_
            refine r_lv [(0, vr A 4 0), (1, vr A 3 k), (2, .int (iI (u : Int))), (3, .int x), (4, vr A 3 q), (5, .int (iI (j + 1)))] rfl ?_
            exact hw g hh hg
      have num : ∀ (m : Nat) (j : Int) (s : Nat) (f : Nat → Int), 0 ≤ j → j + (m : Int) = 4 → s ≤ 12 → ∃ (v : Nat) (f2 : Nat → Int), v ≤ 12 ∧ ∀ g, HR κ A g σ → LL A g f s → Wp κ MX4_fillList 2 0 0 15 [(0, vr A 4 0), (1, vr A 3 k), (2, .int (iI (s : Int))), (3, .int x), (4, vr A 3 q), (5, .int (iI j))] [] g (QL κ A σ v f2) := by
        intro m
        induction m with
        | zero =>
          intro j s f hj0 hjm hs
          obtain ⟨v, f2, hv, hw⟩ := ord (σ 3 q 5).toNat 0 s f (by omega) (by omega) hs
          refine ⟨v, f2, hv, fun g hh hg => ?_⟩
          refine r_iload dX4_fillList_15 rfl ?_
          refine e_iconst dX4_fillList_17 ?_
          refine e_ic_ge 48 dX4_fillList_18 (by decide) ⟨by omega, by omega⟩ ⟨by omega, by omega⟩ (fun h18 => ?_) (fun h18 => by exfalso; omega)
          refine r_pc 48 rfl ?_
          refine e_iconst dX4_fillList_48 ?_
          refine r_istore dX4_fillList_49 (by decide) ?_
          refine r_stw (by repeat' first | exact True.intro | refine And.intro (fun h => by first | rfl | exact cat_rf _ | exact absurd h (by decide)) ?_) ?_
          refine r_lv [(0, vr A 4 0), (1, vr A 3 k), (2, .int (iI (s : Int))), (3, .int x), (4, vr A 3 q), (5, .int (iI 0))] rfl ?_
          exact hw g hh hg
        | succ m ihj =>
          intro j s f hj0 hjm hs
          have hjn : 0 ≤ j ∧ j < 12 := by omega
          have h32 := ((hF' q hqk).2.1 j hjn).1
          by_cases hc : ¬ σ 15 q j = 0
          · obtain ⟨u, f1, hu, hlu⟩ := s_listUn (κ := κ) (A := A) (x := x) (f := f) hqk hjn hF' hs
            obtain ⟨v, f2, hv, hw⟩ := ihj (j + 1) u f1 (by omega) (by omega) hu
            refine ⟨v, f2, hv, fun g hh hg => ?_⟩
            refine r_iload dX4_fillList_15 rfl ?_
            refine e_iconst dX4_fillList_17 ?_
            refine e_ic_ge 48 dX4_fillList_18 (by decide) ⟨by omega, by omega⟩ ⟨by omega, by omega⟩ (fun h18 => by exfalso; omega) (fun h18 => ?_)
            refine r_pc 21 rfl ?_
            refine r_aloadO dX4_fillList_21 rfl ?_
            refine r_iload dX4_fillList_23 rfl ?_
            refine e_callVG (z := MX3_has) dX4_fillList_25 ml_X4_118 cz_X3_has mk_X3_has ms_X3_has cb3 (by decide) (s_hasg hqk hjn h32) rfl rfl (by simp [cat_rf, cat_i, cat_l, cat_r, cat_n]) (by decide) (by assumption) (by assumption) ?_
            refine r_pc 28 rfl ?_
            refine e_ifeq_b 42 dX4_fillList_28 (by decide) (fun h28 => by contradiction) (fun h28 => ?_)
            refine r_pc 31 rfl ?_
            refine r_aload_nO dX4_fillList_31 rfl rfl ?_
            refine r_aloadO dX4_fillList_32 rfl ?_
            refine r_iload dX4_fillList_34 rfl ?_
            refine r_iload_n dX4_fillList_36 rfl rfl ?_
            refine r_iload_n dX4_fillList_37 rfl rfl ?_
            refine e_callV (z := MX4_listUnlessAhead) (kc' := 0) (ks' := 0) dX4_fillList_38 ml_X4_377 cz_X4_listUnlessAhead mk_X4_listUnlessAhead ms_X4_listUnlessAhead cb4 (by decide) (by rfl) (by rfl) (by simp [cat_rf, cat_i, cat_l, cat_r, cat_n]) (by decide) (by assumption) (lv1 _ 4 (fun _ => rfl)) (hlu g hh hg) (by decide) (by decide) (fun w g hq => ?_)
            obtain ⟨rfl, hh, hg⟩ := hq
            refine r_pc 41 rfl ?_
            refine r_istore_n dX4_fillList_41 rfl (by decide) ?_
            refine r_stw (by repeat' first | exact True.intro | refine And.intro (fun h => by first | rfl | exact cat_rf _ | exact absurd h (by decide)) ?_) ?_
            refine e_iinc dX4_fillList_42 rfl (by decide) ?_
            refine r_stw (by repeat' first | exact True.intro | refine And.intro (fun h => by first | rfl | exact cat_rf _ | exact absurd h (by decide)) ?_) ?_
            refine r_goto 15 dX4_fillList_45 (by decide) ?_
            refine r_lv [(0, vr A 4 0), (1, vr A 3 k), (2, .int (iI (u : Int))), (3, .int x), (4, vr A 3 q), (5, .int (iI (j + 1)))] rfl ?_
            exact hw g hh hg
          · obtain ⟨v, f2, hv, hw⟩ := ihj (j + 1) s f (by omega) (by omega) hs
            refine ⟨v, f2, hv, fun g hh hg => ?_⟩
            refine r_iload dX4_fillList_15 rfl ?_
            refine e_iconst dX4_fillList_17 ?_
            refine e_ic_ge 48 dX4_fillList_18 (by decide) ⟨by omega, by omega⟩ ⟨by omega, by omega⟩ (fun h18 => by exfalso; omega) (fun h18 => ?_)
            refine r_pc 21 rfl ?_
            refine r_aloadO dX4_fillList_21 rfl ?_
            refine r_iload dX4_fillList_23 rfl ?_
            refine e_callVG (z := MX3_has) dX4_fillList_25 ml_X4_118 cz_X3_has mk_X3_has ms_X3_has cb3 (by decide) (s_hasg hqk hjn h32) rfl rfl (by simp [cat_rf, cat_i, cat_l, cat_r, cat_n]) (by decide) (by assumption) (by assumption) ?_
            refine r_pc 28 rfl ?_
            refine e_ifeq_b 42 dX4_fillList_28 (by decide) (fun h28 => ?_) (fun h28 => by contradiction)
            refine r_pc 42 rfl ?_
            refine e_iinc dX4_fillList_42 rfl (by decide) ?_
            refine r_stw (by repeat' first | exact True.intro | refine And.intro (fun h => by first | rfl | exact cat_rf _ | exact absurd h (by decide)) ?_) ?_
            refine r_goto 15 dX4_fillList_45 (by decide) ?_
            refine r_lv [(0, vr A 4 0), (1, vr A 3 k), (2, .int (iI (s : Int))), (3, .int x), (4, vr A 3 q), (5, .int (iI (j + 1)))] rfl ?_
            exact hw g hh hg
      obtain ⟨v, f2, hv, hw⟩ := num 4 0 s f (by omega) (by omega) hs
      refine ⟨v, f2, hv, fun g hh hg => ?_⟩
      refine r_aloadO dX4_fillList_7 rfl ?_
      refine e_ifnull 114 dX4_fillList_9 (by decide) (fun h9 => by exfalso; omega) (fun h9 => ?_)
      refine r_pc 12 rfl ?_
      refine e_iconst dX4_fillList_12 ?_
      refine r_istore dX4_fillList_13 (by decide) ?_
      refine r_stw (by repeat' first | exact True.intro | refine And.intro (fun h => by first | rfl | exact cat_rf _ | exact absurd h (by decide)) ?_) ?_
      refine r_lv [(0, vr A 4 0), (1, vr A 3 k), (2, .int (iI (s : Int))), (3, .int x), (4, vr A 3 q), (5, .int (iI 0))] rfl ?_
      exact hw g hh hg
  obtain ⟨v, f2, hv, hw⟩ := main (lo L k) k 0 (iI 0) (fun _ => 0) rfl ⟨by have := hk.1; omega, hk.2⟩ (by omega)
  refine ⟨v, f2, hv, fun g hh => ?_⟩
  refine e_start rfl (by show (lg_sl _).length ≤ 6; simp [lg_sl, cat_rf, cat_i, cat_l, cat_r, cat_n]) (lv := [(0, vr A 4 0), (1, vr A 3 k)]) (by simp [lv_args, cat_rf, cat_i, cat_l, cat_r, cat_n]) ?_
  refine e_iconst dX4_fillList_0 ?_
  refine r_istore_n dX4_fillList_1 rfl (by decide) ?_
  refine r_stw (by repeat' first | exact True.intro | refine And.intro (fun h => by first | rfl | exact cat_rf _ | exact absurd h (by decide)) ?_) ?_
  refine e_iconst dX4_fillList_2 ?_
  refine r_istore_n dX4_fillList_3 rfl (by decide) ?_
  refine r_aload_nO dX4_fillList_4 rfl rfl ?_
  refine r_astoreO dX4_fillList_5 (by decide) ?_
  refine r_lv [(0, vr A 4 0), (1, vr A 3 k), (2, .int (iI 0)), (3, .int (iI 0)), (4, vr A 3 k)] rfl ?_
  exact hw g hh (fun i hi => by omega)
theorem s_mixedg {κ : KK} {A : Nat → Int → Nat} {σ : ST} {d v : Int64} : PG κ A MX4_mixed 0 σ [.long d, .long v] (.long (d * 31 + v)) := by
  intro g hh
  refine e_start rfl (by show (lg_sl _).length ≤ 4; simp [lg_sl, cat_rf, cat_i, cat_l, cat_r, cat_n]) (lv := [(0, .long d), (2, .long v)]) (by simp [lv_args, cat_rf, cat_i, cat_l, cat_r, cat_n]) ?_
  refine r_lload_n dX4_mixed_0 rfl rfl ?_
  refine r_ldc2 dX4_mixed_1 md_X4_384 ?_
  refine r_lmul dX4_mixed_4 ?_
  refine r_lload_n dX4_mixed_5 rfl rfl ?_
  refine r_ladd dX4_mixed_6 ?_
  exact q_lretG dX4_mixed_7 rfl rfl
