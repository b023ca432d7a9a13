theorem s_withObject {κ : KK} {A : Nat → Int → Nat} {σ : ST} {L : Int → List Int} {k : Int} {d : Int64} (hk : Lv σ 3 k) (hT : WT σ) (hL : WL σ L) (hS : WS σ) (hP : WP σ) (hF' : WF σ) (hV : WV σ) : ∃ r : Int64, True ∧ PU κ A MX4_withObject 6 σ [vr A 4 0, .long d, vr A 3 k] (.long r) := by
  have hkd := kd3 hk
  obtain ⟨sv, -, hsv⟩ := s_saving (κ := κ) (A := A) hk hT hS hF'
  obtain ⟨dr, -, hdr⟩ := s_droppable (κ := κ) (A := A) hk hT hL hS hP
  obtain ⟨v, fl, hv12, hfl⟩ := s_fillList (κ := κ) (A := A) hk hT hL hF'
  have fin : ∀ d : Int64, ∃ r : Int64, True ∧ ∀ g, HR κ A g σ → Wp κ MX4_withObject 6 0 0 142 [(0, vr A 4 0), (3, vr A 3 k), (4, .long d)] [] g (PQ κ A σ (some (.long r))) := by
    intro d
    refine ⟨(d * 31 + (iI sv).toInt64) * 31 + (iI dr).toInt64, trivial, fun g hh => ?_⟩
    refine r_lload dX4_withObject_142 rfl ?_
    refine r_aload_nO dX4_withObject_144 rfl rfl ?_
    refine r_aload_nO dX4_withObject_145 rfl rfl ?_
    refine e_callVP (z := MX4_saving) dX4_withObject_146 ml_X4_226 cz_X4_saving mk_X4_saving ms_X4_saving cb4 (by decide) hsv rfl rfl (by simp [cat_rf, cat_i, cat_l, cat_r, cat_n]) (by decide) (by assumption) (lv1 _ 4 (fun _ => rfl)) (fun g hh => ?_)
    refine r_pc 149 rfl ?_
    refine r_i2l dX4_withObject_149 ?_
    refine e_callSG (z := MX4_mixed) dX4_withObject_150 ml_X4_231 cz_X4_mixed mk_X4_mixed s_mixedg rfl rfl (by simp [cat_rf, cat_i, cat_l, cat_r, cat_n]) (by decide) (by assumption) ?_
    refine r_pc 153 rfl ?_
    refine r_lstore dX4_withObject_153 (by decide) ?_
    refine r_stw2 (by repeat' first | exact True.intro | refine And.intro (fun h => by first | rfl | exact cat_rf _ | exact absurd h (by decide)) ?_) ?_
    refine r_lload dX4_withObject_155 rfl ?_
    refine r_aload_nO dX4_withObject_157 rfl rfl ?_
    refine r_aload_nO dX4_withObject_158 rfl rfl ?_
    refine e_callVP (z := MX4_droppable) dX4_withObject_159 ml_X4_223 cz_X4_droppable mk_X4_droppable ms_X4_droppable cb4 (by decide) hdr rfl rfl (by simp [cat_rf, cat_i, cat_l, cat_r, cat_n]) (by decide) (by assumption) (lv1 _ 4 (fun _ => rfl)) (fun g hh => ?_)
    refine r_pc 162 rfl ?_
    refine r_i2l dX4_withObject_162 ?_
    refine e_callSG (z := MX4_mixed) dX4_withObject_163 ml_X4_231 cz_X4_mixed mk_X4_mixed s_mixedg rfl rfl (by simp [cat_rf, cat_i, cat_l, cat_r, cat_n]) (by decide) (by assumption) ?_
    refine r_pc 166 rfl ?_
    exact q_lret dX4_withObject_166 rfl rfl (by assumption)
  have lst : ∀ (m j : Nat) (d : Int64), j + m = v → ∃ r : Int64, True ∧ ∀ g, HR κ A g σ → LL A g fl v → Wp κ MX4_withObject 6 0 0 107 [(0, vr A 4 0), (3, vr A 3 k), (4, .long d), (6, .int (iI (v : Int))), (7, .int (iI (j : Int)))] [] g (PQ κ A σ (some (.long r))) := by
    intro m
    induction m with
    | zero =>
      intro j d hjm
      obtain ⟨r, hr, hw⟩ := fin d
      refine ⟨r, trivial, fun g hh hg => ?_⟩
      refine r_iload dX4_withObject_107 rfl ?_
      refine r_iload dX4_withObject_109 rfl ?_
      refine e_ic_ge 142 dX4_withObject_111 (by decide) ⟨by omega, by omega⟩ ⟨by omega, by omega⟩ (fun h111 => ?_) (fun h111 => by exfalso; omega)
      refine r_pc 142 rfl ?_
      refine r_lv [(0, vr A 4 0), (3, vr A 3 k), (4, .long d)] rfl ?_
      exact hw g hh
    | succ m ih =>
      intro j d hjm
      obtain ⟨r, hr, hw⟩ := ih (j + 1) (d * 31 + (iI (fl j)).toInt64) (by omega)
      refine ⟨r, trivial, fun g hh hg => ?_⟩
      refine r_iload dX4_withObject_107 rfl ?_
      refine r_iload dX4_withObject_109 rfl ?_
      refine e_ic_ge 142 dX4_withObject_111 (by decide) ⟨by omega, by omega⟩ ⟨by omega, by omega⟩ (fun h111 => by exfalso; omega) (fun h111 => ?_)
      refine r_pc 114 rfl ?_
      refine r_iload dX4_withObject_114 rfl ?_
      refine e_bipush dX4_withObject_116 (by decide +kernel) ?_
      refine e_ic_ge 142 dX4_withObject_118 (by decide) ⟨by omega, by omega⟩ ⟨by omega, by omega⟩ (fun h118 => by exfalso; omega) (fun h118 => ?_)
      refine r_pc 121 rfl ?_
      refine r_lload dX4_withObject_121 rfl ?_
      refine r_aload_nO dX4_withObject_123 rfl rfl ?_
      refine e_getF (t := 4) (k := 5) (t1 := 9) dX4_withObject_124 cb4 (by decide) mf_X4_32 (by rfl) (by rfl) (by decide) (by assumption) (lv1 _ 4 (fun _ => rfl)) ?_
      refine r_iload dX4_withObject_127 rfl ?_
      refine e_ialdX (t := 9) dX4_withObject_129 (by decide) (by decide) (by rfl) (by assumption) (lv1 _ 9 (fun _ => rfl)) (by have e : ln 9 = 12 := rfl; omega) (show _ = iI (fl j) from hg j (by omega)) ?_
      refine r_i2l dX4_withObject_130 ?_
      refine e_callSG (z := MX4_mixed) dX4_withObject_131 ml_X4_231 cz_X4_mixed mk_X4_mixed s_mixedg rfl rfl (by simp [cat_rf, cat_i, cat_l, cat_r, cat_n]) (by decide) (by assumption) ?_
      refine r_pc 134 rfl ?_
      refine r_lstore dX4_withObject_134 (by decide) ?_
      refine r_stw2 (by repeat' first | exact True.intro | refine And.intro (fun h => by first | rfl | exact cat_rf _ | exact absurd h (by decide)) ?_) ?_
      refine e_iinc dX4_withObject_136 rfl (by decide) ?_
      refine r_goto 107 dX4_withObject_139 (by decide) ?_
      refine r_lv [(0, vr A 4 0), (3, vr A 3 k), (4, .long (d * 31 + (iI (fl j)).toInt64)), (6, .int (iI (v : Int))), (7, .int (iI ((j : Int) + 1)))] rfl ?_
      rw [show (j : Int) + 1 = ((j + 1 : Nat) : Int) by omega]
      exact hw g hh hg
  have nam : ∀ m : Nat, ∀ n : Int, ∀ d : Int64, 0 ≤ n → n + (m : Int) = 12 → ∃ r : Int64, True ∧ ∀ g, HR κ A g σ → Wp κ MX4_withObject 6 0 0 37 [(0, vr A 4 0), (3, vr A 3 k), (4, .long d), (6, .int (iI n))] [] g (PQ κ A σ (some (.long r))) := by
    intro m
    induction m with
    | zero =>
      intro n d hj0 hjm
      obtain ⟨r, hr, hw⟩ := lst v 0 d (by omega)
      refine ⟨r, trivial, fun g hh => ?_⟩
      refine r_iload dX4_withObject_37 rfl ?_
      refine e_bipush dX4_withObject_39 (by decide +kernel) ?_
      refine e_ic_ge 97 dX4_withObject_41 (by decide) ⟨by omega, by omega⟩ ⟨by omega, by omega⟩ (fun h41 => ?_) (fun h41 => by exfalso; omega)
      refine r_pc 97 rfl ?_
      refine r_aload_nO dX4_withObject_97 rfl rfl ?_
      refine r_aload_nO dX4_withObject_98 rfl rfl ?_
      refine e_callV (z := MX4_fillList) (kc' := 0) (ks' := 0) dX4_withObject_99 ml_X4_201 cz_X4_fillList mk_X4_fillList ms_X4_fillList cb4 (by decide) (by rfl) (by rfl) (by simp [cat_rf, cat_i, cat_l, cat_r, cat_n]) (by decide) (by assumption) (lv1 _ 4 (fun _ => rfl)) (hfl g hh) (by decide) (by decide) (fun w g hq => ?_)
      obtain ⟨rfl, hh, hg⟩ := hq
      refine r_pc 102 rfl ?_
      refine r_istore dX4_withObject_102 (by decide) ?_
      refine e_iconst dX4_withObject_104 ?_
      refine r_istore dX4_withObject_105 (by decide) ?_
      refine r_lv [(0, vr A 4 0), (3, vr A 3 k), (4, .long d), (6, .int (iI (v : Int))), (7, .int (iI 0))] rfl ?_
      exact hw g hh hg
    | succ m ih =>
      intro n d hj0 hjm
      have hn : 0 ≤ n ∧ n < 12 := by omega
      have ihn := ih
      have inn : ∀ m : Nat, ∀ q : Int, ∀ d : Int64, 0 ≤ q → q + (m : Int) = 7 → ∃ r : Int64, True ∧ ∀ g, HR κ A g σ → Wp κ MX4_withObject 6 0 0 62 [(0, vr A 4 0), (3, vr A 3 k), (4, .long d), (6, .int (iI n)), (7, .int (iI q))] [] g (PQ κ A σ (some (.long r))) := by
        intro m
        induction m with
        | zero =>
          intro q d hj0 hjm
          obtain ⟨r, hr, hw⟩ := ihn (n + 1) d (by omega) (by omega)
          refine ⟨r, trivial, fun g hh => ?_⟩
          refine r_iload dX4_withObject_62 rfl ?_
          refine e_bipush dX4_withObject_64 (by decide +kernel) ?_
          refine e_ic_gt 91 dX4_withObject_66 (by decide) ⟨by omega, by omega⟩ ⟨by omega, by omega⟩ (fun h66 => ?_) (fun h66 => by exfalso; omega)
          refine r_pc 91 rfl ?_
          refine e_iinc dX4_withObject_91 rfl (by decide) ?_
          refine r_goto 37 dX4_withObject_94 (by decide) ?_
          refine r_lv [(0, vr A 4 0), (3, vr A 3 k), (4, .long d), (6, .int (iI (n + 1)))] rfl ?_
          exact hw g hh
        | succ m ih =>
          intro q d hj0 hjm
          obtain ⟨u, hu⟩ := s_fFa (κ := κ) (A := A) hk hn hT hF' (w := q) (by omega)
          obtain ⟨r, hr, hw⟩ := ih (q + 1) (d * 31 + (iI u).toInt64) (by omega) (by omega)
          refine ⟨r, trivial, fun g hh => ?_⟩
          refine r_iload dX4_withObject_62 rfl ?_
          refine e_bipush dX4_withObject_64 (by decide +kernel) ?_
          refine e_ic_gt 91 dX4_withObject_66 (by decide) ⟨by omega, by omega⟩ ⟨by omega, by omega⟩ (fun h66 => by exfalso; omega) (fun h66 => ?_)
          refine r_pc 69 rfl ?_
          refine r_lload dX4_withObject_69 rfl ?_
          refine r_aload_nO dX4_withObject_71 rfl rfl ?_
          refine r_iload dX4_withObject_72 rfl ?_
          refine r_iload dX4_withObject_74 rfl ?_
          refine e_callVP (z := MX3_fieldFact) dX4_withObject_76 ml_X4_198 cz_X3_fieldFact mk_X3_fieldFact ms_X3_fieldFact cb3 (by decide) hu rfl rfl (by simp [cat_rf, cat_i, cat_l, cat_r, cat_n]) (by decide) (by assumption) (by assumption) (fun g hh => ?_)
          refine r_pc 79 rfl ?_
          refine r_i2l dX4_withObject_79 ?_
          refine e_callSG (z := MX4_mixed) dX4_withObject_80 ml_X4_231 cz_X4_mixed mk_X4_mixed s_mixedg rfl rfl (by simp [cat_rf, cat_i, cat_l, cat_r, cat_n]) (by decide) (by assumption) ?_
          refine r_pc 83 rfl ?_
          refine r_lstore dX4_withObject_83 (by decide) ?_
          refine r_stw2 (by repeat' first | exact True.intro | refine And.intro (fun h => by first | rfl | exact cat_rf _ | exact absurd h (by decide)) ?_) ?_
          refine e_iinc dX4_withObject_85 rfl (by decide) ?_
          refine r_goto 62 dX4_withObject_88 (by decide) ?_
          refine r_lv [(0, vr A 4 0), (3, vr A 3 k), (4, .long (d * 31 + (iI u).toInt64)), (6, .int (iI n)), (7, .int (iI (q + 1)))] rfl ?_
          exact hw g hh
      obtain ⟨r, hr, hw⟩ := inn 7 0 (d * 31 + (iI (rdv σ (lo L k) 6 n)).toInt64) (by omega) (by omega)
      refine ⟨r, trivial, fun g hh => ?_⟩
      refine r_iload dX4_withObject_37 rfl ?_
      refine e_bipush dX4_withObject_39 (by decide +kernel) ?_
      refine e_ic_ge 97 dX4_withObject_41 (by decide) ⟨by omega, by omega⟩ ⟨by omega, by omega⟩ (fun h41 => by exfalso; omega) (fun h41 => ?_)
      refine r_pc 44 rfl ?_
      refine r_lload dX4_withObject_44 rfl ?_
      refine r_aload_nO dX4_withObject_46 rfl rfl ?_
      refine r_aload_nO dX4_withObject_47 rfl rfl ?_
      refine r_iload dX4_withObject_48 rfl ?_
      refine e_callVP (z := MX4_valueOf) dX4_withObject_50 ml_X4_75 cz_X4_valueOf mk_X4_valueOf ms_X4_valueOf cb4 (by decide) (s_valueOf hk hn hT hL hF' hV) rfl rfl (by simp [cat_rf, cat_i, cat_l, cat_r, cat_n]) (by decide) (by assumption) (lv1 _ 4 (fun _ => rfl)) (fun g hh => ?_)
      refine r_pc 53 rfl ?_
      refine r_i2l dX4_withObject_53 ?_
      refine e_callSG (z := MX4_mixed) dX4_withObject_54 ml_X4_231 cz_X4_mixed mk_X4_mixed s_mixedg rfl rfl (by simp [cat_rf, cat_i, cat_l, cat_r, cat_n]) (by decide) (by assumption) ?_
      refine r_pc 57 rfl ?_
      refine r_lstore dX4_withObject_57 (by decide) ?_
      refine r_stw2 (by repeat' first | exact True.intro | refine And.intro (fun h => by first | rfl | exact cat_rf _ | exact absurd h (by decide)) ?_) ?_
      refine e_iconst dX4_withObject_59 ?_
      refine r_istore dX4_withObject_60 (by decide) ?_
      refine r_lv [(0, vr A 4 0), (3, vr A 3 k), (4, .long (d * 31 + (iI (rdv σ (lo L k) 6 n)).toInt64)), (6, .int (iI n)), (7, .int (iI 0))] rfl ?_
      exact hw g hh
  have obj : ∀ m : Nat, ∀ j : Int, ∀ d : Int64, 0 ≤ j → j + (m : Int) = 8 → ∃ r : Int64, True ∧ ∀ g, HR κ A g σ → Wp κ MX4_withObject 6 0 0 6 [(0, vr A 4 0), (3, vr A 3 k), (4, .long d), (6, .int (iI j))] [] g (PQ κ A σ (some (.long r))) := by
    intro m
    induction m with
    | zero =>
      intro j d hj0 hjm
      obtain ⟨r, hr, hw⟩ := nam 12 0 d (by omega) (by omega)
      refine ⟨r, trivial, fun g hh => ?_⟩
      refine r_iload dX4_withObject_6 rfl ?_
      refine e_bipush dX4_withObject_8 (by decide +kernel) ?_
      refine e_ic_gt 34 dX4_withObject_10 (by decide) ⟨by omega, by omega⟩ ⟨by omega, by omega⟩ (fun h10 => ?_) (fun h10 => by exfalso; omega)
      refine r_pc 34 rfl ?_
      refine e_iconst dX4_withObject_34 ?_
      refine r_istore dX4_withObject_35 (by decide) ?_
      refine r_lv [(0, vr A 4 0), (3, vr A 3 k), (4, .long d), (6, .int (iI 0))] rfl ?_
      exact hw g hh
    | succ m ih =>
      intro j d hj0 hjm
      obtain ⟨u, hu⟩ := s_oFa (κ := κ) (A := A) hk hT hL hS hP hF' hV (w := j) (by omega)
      obtain ⟨r, hr, hw⟩ := ih (j + 1) (d * 31 + (iI u).toInt64) (by omega) (by omega)
      refine ⟨r, trivial, fun g hh => ?_⟩
      refine r_iload dX4_withObject_6 rfl ?_
      refine e_bipush dX4_withObject_8 (by decide +kernel) ?_
      refine e_ic_gt 34 dX4_withObject_10 (by decide) ⟨by omega, by omega⟩ ⟨by omega, by omega⟩ (fun h10 => by exfalso; omega) (fun h10 => ?_)
      refine r_pc 13 rfl ?_
      refine r_lload dX4_withObject_13 rfl ?_
      refine r_aload_nO dX4_withObject_15 rfl rfl ?_
      refine r_aload_nO dX4_withObject_16 rfl rfl ?_
      refine r_iload dX4_withObject_17 rfl ?_
      refine e_callVP (z := MX4_objectFact) dX4_withObject_19 ml_X4_195 cz_X4_objectFact mk_X4_objectFact ms_X4_objectFact cb4 (by decide) hu rfl rfl (by simp [cat_rf, cat_i, cat_l, cat_r, cat_n]) (by decide) (by assumption) (lv1 _ 4 (fun _ => rfl)) (fun g hh => ?_)
      refine r_pc 22 rfl ?_
      refine r_i2l dX4_withObject_22 ?_
      refine e_callSG (z := MX4_mixed) dX4_withObject_23 ml_X4_231 cz_X4_mixed mk_X4_mixed s_mixedg rfl rfl (by simp [cat_rf, cat_i, cat_l, cat_r, cat_n]) (by decide) (by assumption) ?_
      refine r_pc 26 rfl ?_
      refine r_lstore dX4_withObject_26 (by decide) ?_
      refine r_stw2 (by repeat' first | exact True.intro | refine And.intro (fun h => by first | rfl | exact cat_rf _ | exact absurd h (by decide)) ?_) ?_
      refine e_iinc dX4_withObject_28 rfl (by decide) ?_
      refine r_goto 6 dX4_withObject_31 (by decide) ?_
      refine r_lv [(0, vr A 4 0), (3, vr A 3 k), (4, .long (d * 31 + (iI u).toInt64)), (6, .int (iI (j + 1)))] rfl ?_
      exact hw g hh
  obtain ⟨r, hr, hw⟩ := obj 8 0 d (by omega) (by omega)
  refine ⟨r, trivial, ?_⟩
  intro g hh
  refine e_start rfl (by show (lg_sl _).length ≤ 8; simp [lg_sl, cat_rf, cat_i, cat_l, cat_r, cat_n]) (lv := [(0, vr A 4 0), (1, .long d), (3, vr A 3 k)]) (by simp [lv_args, cat_rf, cat_i, cat_l, cat_r, cat_n]) ?_
  refine r_lload_n dX4_withObject_0 rfl rfl ?_
  refine r_lstore dX4_withObject_1 (by decide) ?_
  refine r_stw2 (by repeat' first | exact True.intro | refine And.intro (fun h => by first | rfl | exact cat_rf _ | exact absurd h (by decide)) ?_) ?_
  refine e_iconst dX4_withObject_3 ?_
  refine r_istore dX4_withObject_4 (by decide) ?_
  refine r_lv [(0, vr A 4 0), (3, vr A 3 k), (4, .long d), (6, .int (iI 0))] rfl ?_
  exact hw g hh
theorem s_withPlace {κ : KK} {A : Nat → Int → Nat} {σ : ST} {L : Int → List Int} {p : Int} {d : Int64} (hp : Lv σ 0 p) (hT : WT σ) (hL : WL σ L) (hS : WS σ) (hP : WP σ) (hF' : WF σ) (hV : WV σ) : ∃ r : Int64, True ∧ PU κ A MX4_withPlace 4 σ [vr A 4 0, .long d, vr A 0 p] (.long r) := by
  have hpz := (hP p hp).1
  have hn1 := hT.1
  have hn2 := hT.2.1
  have cst : ∀ m : Nat, ∀ j : Int, ∀ d : Int64, 0 ≤ j → j + (m : Int) = σ 99 3 0 → ∃ r : Int64, True ∧ ∀ g, HR κ A g σ → Wp κ MX4_withPlace 4 0 0 84 [(0, vr A 4 0), (3, vr A 0 p), (4, .long d), (6, .int (iI j))] [] g (PQ κ A σ (some (.long r))) := by
    intro m
    induction m with
    | zero =>
      intro j d hj0 hjm
      refine ⟨d, trivial, fun g hh => ?_⟩
      refine r_iload dX4_withPlace_84 rfl ?_
      refine r_aload_nO dX4_withPlace_86 rfl rfl ?_
      refine e_getI (t := 4) (k := 1) 1 dX4_withPlace_87 cb4 (by decide) mf_X4_40 (by rfl) rfl (by assumption) (lv1 _ 4 (fun _ => rfl)) ?_
      refine e_ic_ge 119 dX4_withPlace_90 (by decide) ⟨by omega, by omega⟩ ⟨by omega, by omega⟩ (fun h90 => ?_) (fun h90 => by exfalso; omega)
      refine r_pc 119 rfl ?_
      refine r_lload dX4_withPlace_119 rfl ?_
      exact q_lret dX4_withPlace_121 rfl rfl (by assumption)
    | succ m ih =>
      intro j d hj0 hjm
      have hjk : Lv σ 3 j := ⟨hj0, by show j < σ 99 3 0; omega⟩
      obtain ⟨u, -, hu⟩ := s_costAt (κ := κ) (A := A) hp hjk (n := 4) (by omega) hT hL hS hP hF' hV
      obtain ⟨r, hr, hw⟩ := ih (j + 1) (d * 31 + (iI u).toInt64) (by omega) (by omega)
      refine ⟨r, trivial, fun g hh => ?_⟩
      refine r_iload dX4_withPlace_84 rfl ?_
      refine r_aload_nO dX4_withPlace_86 rfl rfl ?_
      refine e_getI (t := 4) (k := 1) 1 dX4_withPlace_87 cb4 (by decide) mf_X4_40 (by rfl) rfl (by assumption) (lv1 _ 4 (fun _ => rfl)) ?_
      refine e_ic_ge 119 dX4_withPlace_90 (by decide) ⟨by omega, by omega⟩ ⟨by omega, by omega⟩ (fun h90 => by exfalso; omega) (fun h90 => ?_)
      refine r_pc 93 rfl ?_
      refine r_lload dX4_withPlace_93 rfl ?_
      refine r_aload_nO dX4_withPlace_95 rfl rfl ?_
      refine r_aload_nO dX4_withPlace_96 rfl rfl ?_
      refine e_getF (t := 4) (k := 0) (t1 := 6) dX4_withPlace_97 cb4 (by decide) mf_X4_11 (by rfl) (by rfl) (by decide) (by assumption) (lv1 _ 4 (fun _ => rfl)) ?_
      refine r_iload dX4_withPlace_100 rfl ?_
      refine e_aald (t := 6) (t1 := 3) dX4_withPlace_102 (by decide) (by decide) (by decide) (by intro _; rfl) (by decide) (by assumption) (lv1 _ 6 (fun _ => rfl)) (by have e : ln 6 = 24 := rfl; omega) ?_
      refine e_rv (hT.2.2 j hjk).1 ?_
      refine e_iconst dX4_withPlace_103 ?_
      refine e_callSP (z := MX4_costAt) dX4_withPlace_104 ml_X4_163 cz_X4_costAt mk_X4_costAt hu rfl rfl (by simp [cat_rf, cat_i, cat_l, cat_r, cat_n]) (by decide) (by assumption) (fun g hh => ?_)
      refine r_pc 107 rfl ?_
      refine r_i2l dX4_withPlace_107 ?_
      refine e_callSG (z := MX4_mixed) dX4_withPlace_108 ml_X4_231 cz_X4_mixed mk_X4_mixed s_mixedg rfl rfl (by simp [cat_rf, cat_i, cat_l, cat_r, cat_n]) (by decide) (by assumption) ?_
      refine r_pc 111 rfl ?_
      refine r_lstore dX4_withPlace_111 (by decide) ?_
      refine r_stw2 (by repeat' first | exact True.intro | refine And.intro (fun h => by first | rfl | exact cat_rf _ | exact absurd h (by decide)) ?_) ?_
      refine e_iinc dX4_withPlace_113 rfl (by decide) ?_
      refine r_goto 84 dX4_withPlace_116 (by decide) ?_
      refine r_lv [(0, vr A 4 0), (3, vr A 0 p), (4, .long (d * 31 + (iI u).toInt64)), (6, .int (iI (j + 1)))] rfl ?_
      exact hw g hh
  have ent : ∀ m : Nat, ∀ e : Int, ∀ d : Int64, 0 ≤ e → e + (m : Int) = σ 0 p 0 → ∃ r : Int64, True ∧ ∀ g, HR κ A g σ → Wp κ MX4_withPlace 4 0 0 35 [(0, vr A 4 0), (3, vr A 0 p), (4, .long d), (6, .int (iI e))] [] g (PQ κ A σ (some (.long r))) := by
    intro m
    induction m with
    | zero =>
      intro e d hj0 hjm
      obtain ⟨r, hr, hw⟩ := cst (σ 99 3 0).toNat 0 d (by omega) (by omega)
      refine ⟨r, trivial, fun g hh => ?_⟩
      refine r_iload dX4_withPlace_35 rfl ?_
      refine r_aload_nO dX4_withPlace_37 rfl rfl ?_
      refine e_getI (t := 0) (k := 0) 0 dX4_withPlace_38 cb0 (by decide) mf_X4_186 (by rfl) rfl (by assumption) (by assumption) ?_
      refine e_ic_ge 81 dX4_withPlace_41 (by decide) ⟨by omega, by omega⟩ ⟨by omega, by omega⟩ (fun h41 => ?_) (fun h41 => by exfalso; omega)
      refine r_pc 81 rfl ?_
      refine e_iconst dX4_withPlace_81 ?_
      refine r_istore dX4_withPlace_82 (by decide) ?_
      refine r_lv [(0, vr A 4 0), (3, vr A 0 p), (4, .long d), (6, .int (iI 0))] rfl ?_
      exact hw g hh
    | succ m ih =>
      intro e d hj0 hjm
      have he : 0 ≤ e ∧ e < σ 0 p 0 := by omega
      have ihe := ih
      have inn : ∀ m : Nat, ∀ q : Int, ∀ d : Int64, 0 ≤ q → q + (m : Int) = 3 → ∃ r : Int64, True ∧ ∀ g, HR κ A g σ → Wp κ MX4_withPlace 4 0 0 47 [(0, vr A 4 0), (3, vr A 0 p), (4, .long d), (6, .int (iI e)), (7, .int (iI q))] [] g (PQ κ A σ (some (.long r))) := by
        intro m
        induction m with
        | zero =>
          intro q d hj0 hjm
          obtain ⟨r, hr, hw⟩ := ihe (e + 1) d (by omega) (by omega)
          refine ⟨r, trivial, fun g hh => ?_⟩
          refine r_iload dX4_withPlace_47 rfl ?_
          refine e_iconst dX4_withPlace_49 ?_
          refine e_ic_gt 75 dX4_withPlace_50 (by decide) ⟨by omega, by omega⟩ ⟨by omega, by omega⟩ (fun h50 => ?_) (fun h50 => by exfalso; omega)
          refine r_pc 75 rfl ?_
          refine e_iinc dX4_withPlace_75 rfl (by decide) ?_
          refine r_goto 35 dX4_withPlace_78 (by decide) ?_
          refine r_lv [(0, vr A 4 0), (3, vr A 0 p), (4, .long d), (6, .int (iI (e + 1)))] rfl ?_
          exact hw g hh
        | succ m ih =>
          intro q d hj0 hjm
          obtain ⟨u, hu⟩ := s_eFa (κ := κ) (A := A) hp hP hS he (w := q) (by omega)
          obtain ⟨r, hr, hw⟩ := ih (q + 1) (d * 31 + (iI u).toInt64) (by omega) (by omega)
          refine ⟨r, trivial, fun g hh => ?_⟩
          refine r_iload dX4_withPlace_47 rfl ?_
          refine e_iconst dX4_withPlace_49 ?_
          refine e_ic_gt 75 dX4_withPlace_50 (by decide) ⟨by omega, by omega⟩ ⟨by omega, by omega⟩ (fun h50 => by exfalso; omega) (fun h50 => ?_)
          refine r_pc 53 rfl ?_
          refine r_lload dX4_withPlace_53 rfl ?_
          refine r_aload_nO dX4_withPlace_55 rfl rfl ?_
          refine r_iload dX4_withPlace_56 rfl ?_
          refine r_iload dX4_withPlace_58 rfl ?_
          refine e_callVP (z := MX0_entryFact) dX4_withPlace_60 ml_X4_192 cz_X0_entryFact mk_X0_entryFact ms_X0_entryFact cb0 (by decide) hu rfl rfl (by simp [cat_rf, cat_i, cat_l, cat_r, cat_n]) (by decide) (by assumption) (by assumption) (fun g hh => ?_)
          refine r_pc 63 rfl ?_
          refine r_i2l dX4_withPlace_63 ?_
          refine e_callSG (z := MX4_mixed) dX4_withPlace_64 ml_X4_231 cz_X4_mixed mk_X4_mixed s_mixedg rfl rfl (by simp [cat_rf, cat_i, cat_l, cat_r, cat_n]) (by decide) (by assumption) ?_
          refine r_pc 67 rfl ?_
          refine r_lstore dX4_withPlace_67 (by decide) ?_
          refine r_stw2 (by repeat' first | exact True.intro | refine And.intro (fun h => by first | rfl | exact cat_rf _ | exact absurd h (by decide)) ?_) ?_
          refine e_iinc dX4_withPlace_69 rfl (by decide) ?_
          refine r_goto 47 dX4_withPlace_72 (by decide) ?_
          refine r_lv [(0, vr A 4 0), (3, vr A 0 p), (4, .long (d * 31 + (iI u).toInt64)), (6, .int (iI e)), (7, .int (iI (q + 1)))] rfl ?_
          exact hw g hh
      obtain ⟨r, hr, hw⟩ := inn 3 0 d (by omega) (by omega)
      refine ⟨r, trivial, fun g hh => ?_⟩
      refine r_iload dX4_withPlace_35 rfl ?_
      refine r_aload_nO dX4_withPlace_37 rfl rfl ?_
      refine e_getI (t := 0) (k := 0) 0 dX4_withPlace_38 cb0 (by decide) mf_X4_186 (by rfl) rfl (by assumption) (by assumption) ?_
      refine e_ic_ge 81 dX4_withPlace_41 (by decide) ⟨by omega, by omega⟩ ⟨by omega, by omega⟩ (fun h41 => by exfalso; omega) (fun h41 => ?_)
      refine r_pc 44 rfl ?_
      refine e_iconst dX4_withPlace_44 ?_
      refine r_istore dX4_withPlace_45 (by decide) ?_
      refine r_lv [(0, vr A 4 0), (3, vr A 0 p), (4, .long d), (6, .int (iI e)), (7, .int (iI 0))] rfl ?_
      exact hw g hh
  have fct : ∀ m : Nat, ∀ j : Int, ∀ d : Int64, 0 ≤ j → j + (m : Int) = 6 → ∃ r : Int64, True ∧ ∀ g, HR κ A g σ → Wp κ MX4_withPlace 4 0 0 6 [(0, vr A 4 0), (3, vr A 0 p), (4, .long d), (6, .int (iI j))] [] g (PQ κ A σ (some (.long r))) := by
    intro m
    induction m with
    | zero =>
      intro j d hj0 hjm
      obtain ⟨r, hr, hw⟩ := ent (σ 0 p 0).toNat 0 d (by omega) (by omega)
      refine ⟨r, trivial, fun g hh => ?_⟩
      refine r_iload dX4_withPlace_6 rfl ?_
      refine e_iconst dX4_withPlace_8 ?_
      refine e_ic_gt 32 dX4_withPlace_9 (by decide) ⟨by omega, by omega⟩ ⟨by omega, by omega⟩ (fun h9 => ?_) (fun h9 => by exfalso; omega)
      refine r_pc 32 rfl ?_
      refine e_iconst dX4_withPlace_32 ?_
      refine r_istore dX4_withPlace_33 (by decide) ?_
      refine r_lv [(0, vr A 4 0), (3, vr A 0 p), (4, .long d), (6, .int (iI 0))] rfl ?_
      exact hw g hh
    | succ m ih =>
      intro j d hj0 hjm
      obtain ⟨u, hu⟩ := s_facta (κ := κ) (A := A) hp (w := j) (by omega)
      obtain ⟨r, hr, hw⟩ := ih (j + 1) (d * 31 + (iI u).toInt64) (by omega) (by omega)
      refine ⟨r, trivial, fun g hh => ?_⟩
      refine r_iload dX4_withPlace_6 rfl ?_
      refine e_iconst dX4_withPlace_8 ?_
      refine e_ic_gt 32 dX4_withPlace_9 (by decide) ⟨by omega, by omega⟩ ⟨by omega, by omega⟩ (fun h9 => by exfalso; omega) (fun h9 => ?_)
      refine r_pc 12 rfl ?_
      refine r_lload dX4_withPlace_12 rfl ?_
      refine r_aload_nO dX4_withPlace_14 rfl rfl ?_
      refine r_iload dX4_withPlace_15 rfl ?_
      refine e_callVP (z := MX0_fact) dX4_withPlace_17 ml_X4_182 cz_X0_fact mk_X0_fact ms_X0_fact cb0 (by decide) hu rfl rfl (by simp [cat_rf, cat_i, cat_l, cat_r, cat_n]) (by decide) (by assumption) (by assumption) (fun g hh => ?_)
      refine r_pc 20 rfl ?_
      refine r_i2l dX4_withPlace_20 ?_
      refine e_callSG (z := MX4_mixed) dX4_withPlace_21 ml_X4_231 cz_X4_mixed mk_X4_mixed s_mixedg rfl rfl (by simp [cat_rf, cat_i, cat_l, cat_r, cat_n]) (by decide) (by assumption) ?_
      refine r_pc 24 rfl ?_
      refine r_lstore dX4_withPlace_24 (by decide) ?_
      refine r_stw2 (by repeat' first | exact True.intro | refine And.intro (fun h => by first | rfl | exact cat_rf _ | exact absurd h (by decide)) ?_) ?_
      refine e_iinc dX4_withPlace_26 rfl (by decide) ?_
      refine r_goto 6 dX4_withPlace_29 (by decide) ?_
      refine r_lv [(0, vr A 4 0), (3, vr A 0 p), (4, .long (d * 31 + (iI u).toInt64)), (6, .int (iI (j + 1)))] rfl ?_
      exact hw g hh
  obtain ⟨r, hr, hw⟩ := fct 6 0 d (by omega) (by omega)
  refine ⟨r, trivial, ?_⟩
  intro g hh
  refine e_start rfl (by show (lg_sl _).length ≤ 8; simp [lg_sl, cat_rf, cat_i, cat_l, cat_r, cat_n]) (lv := [(0, vr A 4 0), (1, .long d), (3, vr A 0 p)]) (by simp [lv_args, cat_rf, cat_i, cat_l, cat_r, cat_n]) ?_
  refine r_lload_n dX4_withPlace_0 rfl rfl ?_
  refine r_lstore dX4_withPlace_1 (by decide) ?_
  refine r_stw2 (by repeat' first | exact True.intro | refine And.intro (fun h => by first | rfl | exact cat_rf _ | exact absurd h (by decide)) ?_) ?_
  refine e_iconst dX4_withPlace_3 ?_
  refine r_istore dX4_withPlace_4 (by decide) ?_
  refine r_lv [(0, vr A 4 0), (3, vr A 0 p), (4, .long d), (6, .int (iI 0))] rfl ?_
  exact hw g hh
theorem s_digest {κ : KK} {A : Nat → Int → Nat} {σ : ST} {L : Int → List Int} (hT : WT σ) (hL : WL σ L) (hS : WS σ) (hP : WP σ) (hF' : WF σ) (hV : WV σ) : ∃ r : Int64, True ∧ PU κ A MX4_digest 7 σ [vr A 4 0] (.long r) := by
  have hn1 := hT.1
  have hn2 := hT.2.1
  have hs1 := hS.1
  have hs2 := hS.2.1
  have plc : ∀ m : Nat, ∀ j : Int, ∀ d : Int64, 0 ≤ j → j + (m : Int) = 6 → ∃ r : Int64, True ∧ ∀ g, HR κ A g σ → Wp κ MX4_digest 7 0 0 115 [(0, vr A 4 0), (1, .long d), (3, .int (iI j))] [] g (PQ κ A σ (some (.long r))) := by
    intro m
    induction m with
    | zero =>
      intro j d hj0 hjm
      refine ⟨d, trivial, fun g hh => ?_⟩
      refine r_iload_n dX4_digest_115 rfl rfl ?_
      refine e_bipush dX4_digest_116 (by decide +kernel) ?_
      refine e_ic_ge 139 dX4_digest_118 (by decide) ⟨by omega, by omega⟩ ⟨by omega, by omega⟩ (fun h118 => ?_) (fun h118 => by exfalso; omega)
      refine r_pc 139 rfl ?_
      refine r_lload_n dX4_digest_139 rfl rfl ?_
      exact q_lret dX4_digest_140 rfl rfl (by assumption)
    | succ m ih =>
      intro j d hj0 hjm
      have hp : Lv σ 0 j := ⟨hj0, by show j < 6; omega⟩
      obtain ⟨u, -, hu⟩ := s_withPlace (κ := κ) (A := A) (d := d) hp hT hL hS hP hF' hV
      obtain ⟨r, hr, hw⟩ := ih (j + 1) u (by omega) (by omega)
      refine ⟨r, trivial, fun g hh => ?_⟩
      refine r_iload_n dX4_digest_115 rfl rfl ?_
      refine e_bipush dX4_digest_116 (by decide +kernel) ?_
      refine e_ic_ge 139 dX4_digest_118 (by decide) ⟨by omega, by omega⟩ ⟨by omega, by omega⟩ (fun h118 => by exfalso; omega) (fun h118 => ?_)
      refine r_pc 121 rfl ?_
      refine r_aload_nO dX4_digest_121 rfl rfl ?_
      refine r_lload_n dX4_digest_122 rfl rfl ?_
      refine r_aload_nO dX4_digest_123 rfl rfl ?_
      refine e_getF (t := 4) (k := 3) (t1 := 7) dX4_digest_124 cb4 (by decide) mf_X4_24 (by rfl) (by rfl) (by decide) (by assumption) (lv1 _ 4 (fun _ => rfl)) ?_
      refine r_iload_n dX4_digest_127 rfl rfl ?_
      refine e_aald7 dX4_digest_128 (by assumption) (by have e : ln 7 = 6 := rfl; omega) ?_
      refine e_callVP (z := MX4_withPlace) dX4_digest_129 ml_X4_239 cz_X4_withPlace mk_X4_withPlace ms_X4_withPlace cb4 (by decide) hu rfl rfl (by simp [cat_rf, cat_i, cat_l, cat_r, cat_n]) (by decide) (by assumption) (lv1 _ 4 (fun _ => rfl)) (fun g hh => ?_)
      refine r_pc 132 rfl ?_
      refine r_lstore_n dX4_digest_132 rfl (by decide) ?_
      refine r_stw2 (by repeat' first | exact True.intro | refine And.intro (fun h => by first | rfl | exact cat_rf _ | exact absurd h (by decide)) ?_) ?_
      refine e_iinc dX4_digest_133 rfl (by decide) ?_
      refine r_goto 115 dX4_digest_136 (by decide) ?_
      refine r_lv [(0, vr A 4 0), (1, .long u), (3, .int (iI (j + 1)))] rfl ?_
      exact hw g hh
  have shp : ∀ m : Nat, ∀ s : Int, ∀ d : Int64, 0 ≤ s → s + (m : Int) = σ 99 1 0 → ∃ r : Int64, True ∧ ∀ g, HR κ A g σ → Wp κ MX4_digest 7 0 0 59 [(0, vr A 4 0), (1, .long d), (3, .int (iI s))] [] g (PQ κ A σ (some (.long r))) := by
    intro m
    induction m with
    | zero =>
      intro s d hj0 hjm
      obtain ⟨r, hr, hw⟩ := plc 6 0 d (by omega) (by omega)
      refine ⟨r, trivial, fun g hh => ?_⟩
      refine r_iload_n dX4_digest_59 rfl rfl ?_
      refine r_aload_nO dX4_digest_60 rfl rfl ?_
      refine e_getF (t := 4) (k := 2) (t1 := 2) dX4_digest_61 cb4 (by decide) mf_X4_18 (by rfl) (by rfl) (by decide) (by assumption) (lv1 _ 4 (fun _ => rfl)) ?_
      refine e_getI (t := 2) (k := 1) 1 dX4_digest_64 cb2 (by decide) mf_X4_206 (by rfl) rfl (by assumption) (lv1 _ 2 (fun _ => rfl)) ?_
      refine e_ic_ge 113 dX4_digest_67 (by decide) ⟨by omega, by omega⟩ ⟨by omega, by omega⟩ (fun h67 => ?_) (fun h67 => by exfalso; omega)
      refine r_pc 113 rfl ?_
      refine e_iconst dX4_digest_113 ?_
      refine r_istore_n dX4_digest_114 rfl (by decide) ?_
      refine r_lv [(0, vr A 4 0), (1, .long d), (3, .int (iI 0))] rfl ?_
      exact hw g hh
    | succ m ih =>
      intro s d hj0 hjm
      have hsk : Lv σ 1 s := ⟨hj0, by show s < σ 99 1 0; omega⟩
      have ihs := ih
      have inn : ∀ m : Nat, ∀ q : Int, ∀ d : Int64, 0 ≤ q → q + (m : Int) = 7 → ∃ r : Int64, True ∧ ∀ g, HR κ A g σ → Wp κ MX4_digest 7 0 0 73 [(0, vr A 4 0), (1, .long d), (3, .int (iI s)), (4, .int (iI q))] [] g (PQ κ A σ (some (.long r))) := by
        intro m
        induction m with
        | zero =>
          intro q d hj0 hjm
          obtain ⟨r, hr, hw⟩ := ihs (s + 1) d (by omega) (by omega)
          refine ⟨r, trivial, fun g hh => ?_⟩
          refine r_iload dX4_digest_73 rfl ?_
          refine e_bipush dX4_digest_75 (by decide +kernel) ?_
          refine e_ic_gt 107 dX4_digest_77 (by decide) ⟨by omega, by omega⟩ ⟨by omega, by omega⟩ (fun h77 => ?_) (fun h77 => by exfalso; omega)
          refine r_pc 107 rfl ?_
          refine e_iinc dX4_digest_107 rfl (by decide) ?_
          refine r_goto 59 dX4_digest_110 (by decide) ?_
          refine r_lv [(0, vr A 4 0), (1, .long d), (3, .int (iI (s + 1)))] rfl ?_
          exact hw g hh
        | succ m ih =>
          intro q d hj0 hjm
          obtain ⟨u, hu⟩ := s_sFa (κ := κ) (A := A) hsk hT hS hP (w := q) (by omega)
          obtain ⟨r, hr, hw⟩ := ih (q + 1) (d * 31 + (iI u).toInt64) (by omega) (by omega)
          refine ⟨r, trivial, fun g hh => ?_⟩
          refine r_iload dX4_digest_73 rfl ?_
          refine e_bipush dX4_digest_75 (by decide +kernel) ?_
          refine e_ic_gt 107 dX4_digest_77 (by decide) ⟨by omega, by omega⟩ ⟨by omega, by omega⟩ (fun h77 => by exfalso; omega) (fun h77 => ?_)
          refine r_pc 80 rfl ?_
          refine r_lload_n dX4_digest_80 rfl rfl ?_
          refine r_aload_nO dX4_digest_81 rfl rfl ?_
          refine r_aload_nO dX4_digest_82 rfl rfl ?_
          refine e_getF (t := 4) (k := 2) (t1 := 2) dX4_digest_83 cb4 (by decide) mf_X4_18 (by rfl) (by rfl) (by decide) (by assumption) (lv1 _ 4 (fun _ => rfl)) ?_
          refine e_getF (t := 2) (k := 0) (t1 := 10) dX4_digest_86 cb2 (by decide) mf_X4_209 (by rfl) (by rfl) (by decide) (by assumption) (lv1 _ 2 (fun _ => rfl)) ?_
          refine r_iload_n dX4_digest_89 rfl rfl ?_
          refine e_aald (t := 10) (t1 := 1) dX4_digest_90 (by decide) (by decide) (by decide) (by intro _; rfl) (by decide) (by assumption) (lv1 _ 10 (fun _ => rfl)) (by have e : ln 10 = 80 := rfl; omega) ?_
          refine e_rv (hS.2.2 s hsk).1 ?_
          refine r_iload dX4_digest_91 rfl ?_
          refine e_callVP (z := MX4_shapeFact) dX4_digest_93 ml_X4_213 cz_X4_shapeFact mk_X4_shapeFact ms_X4_shapeFact cb4 (by decide) hu rfl rfl (by simp [cat_rf, cat_i, cat_l, cat_r, cat_n]) (by decide) (by assumption) (lv1 _ 4 (fun _ => rfl)) (fun g hh => ?_)
          refine r_pc 96 rfl ?_
          refine r_i2l dX4_digest_96 ?_
          refine e_callSG (z := MX4_mixed) dX4_digest_97 ml_X4_231 cz_X4_mixed mk_X4_mixed s_mixedg rfl rfl (by simp [cat_rf, cat_i, cat_l, cat_r, cat_n]) (by decide) (by assumption) ?_
          refine r_pc 100 rfl ?_
          refine r_lstore_n dX4_digest_100 rfl (by decide) ?_
          refine r_stw2 (by repeat' first | exact True.intro | refine And.intro (fun h => by first | rfl | exact cat_rf _ | exact absurd h (by decide)) ?_) ?_
          refine e_iinc dX4_digest_101 rfl (by decide) ?_
          refine r_goto 73 dX4_digest_104 (by decide) ?_
          refine r_lv [(0, vr A 4 0), (1, .long (d * 31 + (iI u).toInt64)), (3, .int (iI s)), (4, .int (iI (q + 1)))] rfl ?_
          exact hw g hh
      obtain ⟨r, hr, hw⟩ := inn 7 0 d (by omega) (by omega)
      refine ⟨r, trivial, fun g hh => ?_⟩
      refine r_iload_n dX4_digest_59 rfl rfl ?_
      refine r_aload_nO dX4_digest_60 rfl rfl ?_
      refine e_getF (t := 4) (k := 2) (t1 := 2) dX4_digest_61 cb4 (by decide) mf_X4_18 (by rfl) (by rfl) (by decide) (by assumption) (lv1 _ 4 (fun _ => rfl)) ?_
      refine e_getI (t := 2) (k := 1) 1 dX4_digest_64 cb2 (by decide) mf_X4_206 (by rfl) rfl (by assumption) (lv1 _ 2 (fun _ => rfl)) ?_
      refine e_ic_ge 113 dX4_digest_67 (by decide) ⟨by omega, by omega⟩ ⟨by omega, by omega⟩ (fun h67 => by exfalso; omega) (fun h67 => ?_)
      refine r_pc 70 rfl ?_
      refine e_iconst dX4_digest_70 ?_
      refine r_istore dX4_digest_71 (by decide) ?_
      refine r_lv [(0, vr A 4 0), (1, .long d), (3, .int (iI s)), (4, .int (iI 0))] rfl ?_
      exact hw g hh
  have thg : ∀ m : Nat, ∀ j : Int, ∀ d : Int64, 0 ≤ j → j + (m : Int) = σ 99 3 0 → ∃ r : Int64, True ∧ ∀ g, HR κ A g σ → Wp κ MX4_digest 7 0 0 31 [(0, vr A 4 0), (1, .long d), (3, .int (iI j))] [] g (PQ κ A σ (some (.long r))) := by
    intro m
    induction m with
    | zero =>
      intro j d hj0 hjm
      obtain ⟨r, hr, hw⟩ := shp (σ 99 1 0).toNat 0 d (by omega) (by omega)
      refine ⟨r, trivial, fun g hh => ?_⟩
      refine r_iload_n dX4_digest_31 rfl rfl ?_
      refine r_aload_nO dX4_digest_32 rfl rfl ?_
      refine e_getI (t := 4) (k := 1) 1 dX4_digest_33 cb4 (by decide) mf_X4_40 (by rfl) rfl (by assumption) (lv1 _ 4 (fun _ => rfl)) ?_
      refine e_ic_ge 57 dX4_digest_36 (by decide) ⟨by omega, by omega⟩ ⟨by omega, by omega⟩ (fun h36 => ?_) (fun h36 => by exfalso; omega)
      refine r_pc 57 rfl ?_
      refine e_iconst dX4_digest_57 ?_
      refine r_istore_n dX4_digest_58 rfl (by decide) ?_
      refine r_lv [(0, vr A 4 0), (1, .long d), (3, .int (iI 0))] rfl ?_
      exact hw g hh
    | succ m ih =>
      intro j d hj0 hjm
      have hjk : Lv σ 3 j := ⟨hj0, by show j < σ 99 3 0; omega⟩
      obtain ⟨u, -, hu⟩ := s_withObject (κ := κ) (A := A) (d := d) hjk hT hL hS hP hF' hV
      obtain ⟨r, hr, hw⟩ := ih (j + 1) u (by omega) (by omega)
      refine ⟨r, trivial, fun g hh => ?_⟩
      refine r_iload_n dX4_digest_31 rfl rfl ?_
      refine r_aload_nO dX4_digest_32 rfl rfl ?_
      refine e_getI (t := 4) (k := 1) 1 dX4_digest_33 cb4 (by decide) mf_X4_40 (by rfl) rfl (by assumption) (lv1 _ 4 (fun _ => rfl)) ?_
      refine e_ic_ge 57 dX4_digest_36 (by decide) ⟨by omega, by omega⟩ ⟨by omega, by omega⟩ (fun h36 => by exfalso; omega) (fun h36 => ?_)
      refine r_pc 39 rfl ?_
      refine r_aload_nO dX4_digest_39 rfl rfl ?_
      refine r_lload_n dX4_digest_40 rfl rfl ?_
      refine r_aload_nO dX4_digest_41 rfl rfl ?_
      refine e_getF (t := 4) (k := 0) (t1 := 6) dX4_digest_42 cb4 (by decide) mf_X4_11 (by rfl) (by rfl) (by decide) (by assumption) (lv1 _ 4 (fun _ => rfl)) ?_
      refine r_iload_n dX4_digest_45 rfl rfl ?_
      refine e_aald (t := 6) (t1 := 3) dX4_digest_46 (by decide) (by decide) (by decide) (by intro _; rfl) (by decide) (by assumption) (lv1 _ 6 (fun _ => rfl)) (by have e : ln 6 = 24 := rfl; omega) ?_
      refine e_rv (hT.2.2 j hjk).1 ?_
      refine e_callVP (z := MX4_withObject) dX4_digest_47 ml_X4_235 cz_X4_withObject mk_X4_withObject ms_X4_withObject cb4 (by decide) hu rfl rfl (by simp [cat_rf, cat_i, cat_l, cat_r, cat_n]) (by decide) (by assumption) (lv1 _ 4 (fun _ => rfl)) (fun g hh => ?_)
      refine r_pc 50 rfl ?_
      refine r_lstore_n dX4_digest_50 rfl (by decide) ?_
      refine r_stw2 (by repeat' first | exact True.intro | refine And.intro (fun h => by first | rfl | exact cat_rf _ | exact absurd h (by decide)) ?_) ?_
      refine e_iinc dX4_digest_51 rfl (by decide) ?_
      refine r_goto 31 dX4_digest_54 (by decide) ?_
      refine r_lv [(0, vr A 4 0), (1, .long u), (3, .int (iI (j + 1)))] rfl ?_
      exact hw g hh
  have tot : ∀ m : Nat, ∀ j : Int, ∀ d : Int64, 0 ≤ j → j + (m : Int) = 11 → ∃ r : Int64, True ∧ ∀ g, HR κ A g σ → Wp κ MX4_digest 7 0 0 6 [(0, vr A 4 0), (1, .long d), (3, .int (iI j))] [] g (PQ κ A σ (some (.long r))) := by
    intro m
    induction m with
    | zero =>
      intro j d hj0 hjm
      obtain ⟨r, hr, hw⟩ := thg (σ 99 3 0).toNat 0 d (by omega) (by omega)
      refine ⟨r, trivial, fun g hh => ?_⟩
      refine r_iload_n dX4_digest_6 rfl rfl ?_
      refine e_bipush dX4_digest_7 (by decide +kernel) ?_
      refine e_ic_gt 29 dX4_digest_9 (by decide) ⟨by omega, by omega⟩ ⟨by omega, by omega⟩ (fun h9 => ?_) (fun h9 => by exfalso; omega)
      refine r_pc 29 rfl ?_
      refine e_iconst dX4_digest_29 ?_
      refine r_istore_n dX4_digest_30 rfl (by decide) ?_
      refine r_lv [(0, vr A 4 0), (1, .long d), (3, .int (iI 0))] rfl ?_
      exact hw g hh
    | succ m ih =>
      intro j d hj0 hjm
      obtain ⟨u, hu⟩ := s_tota (κ := κ) (A := A) hT hS hF' (w := j) (by omega)
      obtain ⟨r, hr, hw⟩ := ih (j + 1) (d * 31 + (iI u).toInt64) (by omega) (by omega)
      refine ⟨r, trivial, fun g hh => ?_⟩
      refine r_iload_n dX4_digest_6 rfl rfl ?_
      refine e_bipush dX4_digest_7 (by decide +kernel) ?_
      refine e_ic_gt 29 dX4_digest_9 (by decide) ⟨by omega, by omega⟩ ⟨by omega, by omega⟩ (fun h9 => by exfalso; omega) (fun h9 => ?_)
      refine r_pc 12 rfl ?_
      refine r_lload_n dX4_digest_12 rfl rfl ?_
      refine r_aload_nO dX4_digest_13 rfl rfl ?_
      refine r_iload_n dX4_digest_14 rfl rfl ?_
      refine e_callVP (z := MX4_total) dX4_digest_15 ml_X4_217 cz_X4_total mk_X4_total ms_X4_total cb4 (by decide) hu rfl rfl (by simp [cat_rf, cat_i, cat_l, cat_r, cat_n]) (by decide) (by assumption) (lv1 _ 4 (fun _ => rfl)) (fun g hh => ?_)
      refine r_pc 18 rfl ?_
      refine r_i2l dX4_digest_18 ?_
      refine e_callSG (z := MX4_mixed) dX4_digest_19 ml_X4_231 cz_X4_mixed mk_X4_mixed s_mixedg rfl rfl (by simp [cat_rf, cat_i, cat_l, cat_r, cat_n]) (by decide) (by assumption) ?_
      refine r_pc 22 rfl ?_
      refine r_lstore_n dX4_digest_22 rfl (by decide) ?_
      refine r_stw2 (by repeat' first | exact True.intro | refine And.intro (fun h => by first | rfl | exact cat_rf _ | exact absurd h (by decide)) ?_) ?_
      refine e_iinc dX4_digest_23 rfl (by decide) ?_
      refine r_goto 6 dX4_digest_26 (by decide) ?_
      refine r_lv [(0, vr A 4 0), (1, .long (d * 31 + (iI u).toInt64)), (3, .int (iI (j + 1)))] rfl ?_
      exact hw g hh
  obtain ⟨r, hr, hw⟩ := tot 11 0 7615 (by omega) (by omega)
  refine ⟨r, trivial, ?_⟩
  intro g hh
  refine e_start rfl (by show (lg_sl _).length ≤ 5; simp [lg_sl, cat_rf, cat_i, cat_l, cat_r, cat_n]) (lv := [(0, vr A 4 0)]) (by simp [lv_args, cat_rf, cat_i, cat_l, cat_r, cat_n]) ?_
  refine r_ldc2 dX4_digest_0 md_X4_229 ?_
  refine r_lstore_n dX4_digest_3 rfl (by decide) ?_
  refine r_stw2 (by repeat' first | exact True.intro | refine And.intro (fun h => by first | rfl | exact cat_rf _ | exact absurd h (by decide)) ?_) ?_
  refine e_iconst dX4_digest_4 ?_
  refine r_istore_n dX4_digest_5 rfl (by decide) ?_
  refine r_lv [(0, vr A 4 0), (1, .long 7615), (3, .int (iI 0))] rfl ?_
  exact hw g hh
theorem s_differs {κ : KK} {A : Nat → Int → Nat} {σ : ST} {L : Int → List Int} {k : Int} (hk : Lv σ 3 k) (hT : WT σ) (hL : WL σ L) (hS : WS σ) (hP : WP σ) (hF' : WF σ) (hV : WV σ) : PU κ A MX4_differs 3 σ [vr A 4 0, .int (iI k), .int (iI k)] (.int (iI 0)) := by
  intro g hh
  have loop : ∀ m : Nat, ∀ j : Int, 0 ≤ j → j + (m : Int) = 12 → ∀ g, HR κ A g σ → Wp κ MX4_differs 3 0 0 19 [(0, vr A 4 0), (3, vr A 3 k), (4, vr A 3 k), (5, .int (iI 0)), (6, .int (iI j))] [] g (PQ κ A σ (some (.int (iI 0)))) := by
    intro m
    induction m with
    | zero =>
      intro j hj0 hjm g hh
      refine r_iload dX4_differs_19 rfl ?_
      refine e_bipush dX4_differs_21 (by decide +kernel) ?_
      refine e_ic_ge 53 dX4_differs_23 (by decide) ⟨by omega, by omega⟩ ⟨by omega, by omega⟩ (fun h23 => ?_) (fun h23 => by exfalso; omega)
      refine r_pc 53 rfl ?_
      refine r_iload dX4_differs_53 rfl ?_
      exact q_iret dX4_differs_55 rfl (by rfl) (by assumption)
    | succ m ih =>
      intro j hj0 hjm g hh
      have hj12 : 0 ≤ j ∧ j < 12 := by omega
      refine r_iload dX4_differs_19 rfl ?_
      refine e_bipush dX4_differs_21 (by decide +kernel) ?_
      refine e_ic_ge 53 dX4_differs_23 (by decide) ⟨by omega, by omega⟩ ⟨by omega, by omega⟩ (fun h23 => by exfalso; omega) (fun h23 => ?_)
      refine r_pc 26 rfl ?_
      refine r_aload_nO dX4_differs_26 rfl rfl ?_
      refine r_aload_nO dX4_differs_27 rfl rfl ?_
      refine r_iload dX4_differs_28 rfl ?_
      refine e_callVP (z := MX4_valueOf) dX4_differs_30 ml_X4_75 cz_X4_valueOf mk_X4_valueOf ms_X4_valueOf cb4 (by decide) (s_valueOf hk hj12 hT hL hF' hV) rfl rfl (by simp [cat_rf, cat_i, cat_l, cat_r, cat_n]) (by decide) (by assumption) (lv1 _ 4 (fun _ => rfl)) (fun g hh => ?_)
      refine r_pc 33 rfl ?_
      refine r_aload_nO dX4_differs_33 rfl rfl ?_
      refine r_aloadO dX4_differs_34 rfl ?_
      refine r_iload dX4_differs_36 rfl ?_
      refine e_callVP (z := MX4_valueOf) dX4_differs_38 ml_X4_75 cz_X4_valueOf mk_X4_valueOf ms_X4_valueOf cb4 (by decide) (s_valueOf hk hj12 hT hL hF' hV) rfl rfl (by simp [cat_rf, cat_i, cat_l, cat_r, cat_n]) (by decide) (by assumption) (lv1 _ 4 (fun _ => rfl)) (fun g hh => ?_)
      refine r_pc 41 rfl ?_
      refine r_ic_eq 47 dX4_differs_41 (by decide) (fun h41 => ?_) (fun h41 => by exact absurd rfl h41)
      refine r_pc 47 rfl ?_
      refine e_iinc dX4_differs_47 rfl (by decide) ?_
      refine r_goto 19 dX4_differs_50 (by decide) ?_
      refine r_lv [(0, vr A 4 0), (3, vr A 3 k), (4, vr A 3 k), (5, .int (iI 0)), (6, .int (iI (j + 1)))] rfl ?_
      exact ih (j + 1) (by omega) (by omega) g hh
  refine e_start rfl (by show (lg_sl _).length ≤ 7; simp [lg_sl, cat_rf, cat_i, cat_l, cat_r, cat_n]) (lv := [(0, vr A 4 0), (1, .int (iI k)), (2, .int (iI k))]) (by simp [lv_args, cat_rf, cat_i, cat_l, cat_r, cat_n]) ?_
  refine r_aload_nO dX4_differs_0 rfl rfl ?_
  refine r_iload_n dX4_differs_1 rfl rfl ?_
  refine e_callVP (z := MX4_thingAt) dX4_differs_2 ml_X4_69 cz_X4_thingAt mk_X4_thingAt ms_X4_thingAt cb4 (by decide) (s_thingAt hk hT) rfl rfl (by simp [cat_rf, cat_i, cat_l, cat_r, cat_n]) (by decide) (by assumption) (lv1 _ 4 (fun _ => rfl)) (fun g hh => ?_)
  refine r_pc 5 rfl ?_
  refine r_astore_nO dX4_differs_5 rfl (by decide) ?_
  refine r_aload_nO dX4_differs_6 rfl rfl ?_
  refine r_iload_n dX4_differs_7 rfl rfl ?_
  refine e_callVP (z := MX4_thingAt) dX4_differs_8 ml_X4_69 cz_X4_thingAt mk_X4_thingAt ms_X4_thingAt cb4 (by decide) (s_thingAt hk hT) rfl rfl (by simp [cat_rf, cat_i, cat_l, cat_r, cat_n]) (by decide) (by assumption) (lv1 _ 4 (fun _ => rfl)) (fun g hh => ?_)
  refine r_pc 11 rfl ?_
  refine r_astoreO dX4_differs_11 (by decide) ?_
  refine r_stw (by repeat' first | exact True.intro | refine And.intro (fun h => by first | rfl | exact cat_rf _ | exact absurd h (by decide)) ?_) ?_
  refine e_iconst dX4_differs_13 ?_
  refine r_istore dX4_differs_14 (by decide) ?_
  refine r_stw (by repeat' first | exact True.intro | refine And.intro (fun h => by first | rfl | exact cat_rf _ | exact absurd h (by decide)) ?_) ?_
  refine e_iconst dX4_differs_16 ?_
  refine r_istore dX4_differs_17 (by decide) ?_
  refine r_lv [(0, vr A 4 0), (3, vr A 3 k), (4, vr A 3 k), (5, .int (iI 0)), (6, .int (iI 0))] rfl ?_
  exact loop 12 0 (by omega) (by omega) g hh
