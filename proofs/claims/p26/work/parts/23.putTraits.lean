/-- a name comes to a Thing: ahead of its traits -/
def apS (σ : ST) (k n : Int) : ST := up (up σ 14 k (σ 3 k 5) n) 3 k 5 (σ 3 k 5 + 1)
def PTm (σ : ST) (k n t : Int) (σ1 : ST) : Prop := (¬ σ 15 k n = 0 ∧ σ1 = up (up σ 3 k 2 (-1)) 15 k n t) ∨ (σ 15 k n = 0 ∧ ∃ (σ2 : ST) (v : Int), σ1 = up (up σ2 3 k 2 v) 15 k n t ∧ (0 ≤ v → 0 ≤ σ 3 k 2 ∧ σ 1 (σ 3 k 2) 5 < 8) ∧
  ((σ2 = apS σ k n ∧ (-1 ≤ v ∧ v < σ 99 1 0) ∧ (0 ≤ v → σ 1 v 1 = σ 3 k 2 ∧ σ 1 v 3 = n ∧ σ 1 v 4 = t)) ∨ (σ 99 1 0 < 80 ∧ σ2 = nsS (apS σ k n) (σ 3 k 2) (σ 1 (σ 3 k 2) 2) n t ∧ v = σ 99 1 0)))
def XQ (κ : KK) (R : Option Value → (Nat → Int → Nat) → ST → Prop) : Option Value → GG → Prop := fun r h => ∃ (A' : Nat → Int → Nat) (σ' : ST), HR κ A' h σ' ∧ R r A' σ'
def PTs (A : Nat → Int → Nat) (σ : ST) (L : Int → List Int) (k n t : Int) : Option Value → (Nat → Int → Nat) → ST → Prop := fun r A' σ' => r = none ∧ (∀ t', t' ≠ 1 → A' t' = A t') ∧ ((σ 15 k n = t ∧ σ' = σ) ∨ (¬ σ 15 k n = t ∧ ∃ σ1, PTm σ k n t σ1 ∧ DE σ1 L k σ'))
theorem s_putTraits {κ : KK} {A : Nat → Int → Nat} {σ : ST} {g : GG} {L : Int → List Int} {k n t : Int} (hk : Lv σ 3 k) (hn : 0 ≤ n ∧ n < 12) (ht : TrOk t) (h32 : TrOk (σ 15 k n)) (hsz : σ 15 k n = 0 → σ 3 k 5 < 12) (hT : WT σ) (hL : WL σ L) (hS : WS σ) (hP : WP σ) (hh : HR κ A g σ) : Spec κ MX4_putTraits 4 1 6 [vr A 4 0, vr A 3 k, .int (iI n), .int (iI t)] g (XQ κ (PTs A σ L k n t)) := by
  have hsd := (hT.2.2 k hk).2.2.2.1
  have hs2 := hS.2.1
  have hz := wt_sz hT hk
  have ht15 : 0 ≤ t ∧ t ≤ 15 := by unfold TrOk at ht; omega
  have h15 : 0 ≤ σ 15 k n ∧ σ 15 k n ≤ 15 := by unfold TrOk at h32; omega
  have hm1 : -1 ≤ (-1 : Int) ∧ (-1 : Int) < cnt σ 1 := ⟨by omega, by show (-1 : Int) < σ 99 1 0; omega⟩
  refine e_start rfl (by show (lg_sl _).length ≤ 4; simp [lg_sl, cat_rf, cat_i, cat_l, cat_r, cat_n]) (lv := [(0, vr A 4 0), (1, vr A 3 k), (2, .int (iI n)), (3, .int (iI t))]) (by simp [lv_args, cat_rf, cat_i, cat_l, cat_r, cat_n]) ?_
  refine r_aload_nO dX4_putTraits_0 rfl rfl ?_
  refine e_getF (t := 3) (k := 7) (t1 := 15) dX4_putTraits_1 cb3 (by decide) mf_X4_290 (by rfl) (by rfl) (by decide) (by assumption) (by assumption) ?_
  refine r_iload_n dX4_putTraits_4 rfl rfl ?_
  refine e_iald (t := 15) dX4_putTraits_5 (by decide) (by decide) (by rfl) (by intro _; rfl) (by assumption) (by first | assumption | exact lv_as 3 (by assumption) (by rfl)) (by have e : ln 15 = 12 := rfl; omega) ?_
  refine r_iload_n dX4_putTraits_6 rfl rfl ?_
  refine e_ic_ne 11 dX4_putTraits_7 (by decide) ⟨by omega, by omega⟩ ⟨by omega, by omega⟩ (fun h7 => ?_) (fun h7 => ?_)
  · refine r_pc 11 rfl ?_
    refine r_aload_nO dX4_putTraits_11 rfl rfl ?_
    refine r_iload_n dX4_putTraits_12 rfl rfl ?_
    refine e_callVP (z := MX3_has) dX4_putTraits_13 ml_X4_118 cz_X3_has mk_X3_has ms_X3_has cb3 (by decide) (s_has hk hn h32) rfl rfl (by simp [cat_rf, cat_i, cat_l, cat_r, cat_n]) (by decide) (by assumption) (by assumption) (fun g hh => ?_)
    refine r_pc 16 rfl ?_
    refine e_ifeq_b 27 dX4_putTraits_16 (by decide) (fun h16 => ?_) (fun h16 => ?_)
    · refine r_pc 27 rfl ?_
      refine r_aload_nO dX4_putTraits_27 rfl rfl ?_
      refine r_iload_n dX4_putTraits_28 rfl rfl ?_
      refine e_callVV (z := MX3_append) dX4_putTraits_29 ml_X4_293 cz_X3_append mk_X3_append ms_X3_append cb3 (by decide) (s_append hk hn ⟨hz.1, hsz (by omega)⟩) rfl rfl (by simp [cat_rf, cat_i, cat_l, cat_r, cat_n]) (by decide) (by assumption) (by assumption) (fun g hh => ?_)
      refine r_pc 32 rfl ?_
      refine r_aload_nO dX4_putTraits_32 rfl rfl ?_
      refine r_aload_nO dX4_putTraits_33 rfl rfl ?_
      refine e_getF (t := 4) (k := 2) (t1 := 2) dX4_putTraits_34 cb4 (by decide) mf_X4_18 (by rfl) (by rfl) (by decide) (by assumption) (lv1 _ 4 (fun _ => rfl)) ?_
      refine r_aload_nO dX4_putTraits_37 rfl rfl ?_
      refine e_getR (t := 3) (k := 2) (t1 := 1) 2 dX4_putTraits_38 cb3 (by decide) mf_X4_62 (by rfl) (by rfl) (by decide) rfl (by assumption) (by assumption) ?_
      refine e_rv (show _ = σ 3 k 2 from rfl) ?_
      refine r_iload_n dX4_putTraits_41 rfl rfl ?_
      refine r_iload_n dX4_putTraits_42 rfl rfl ?_
      refine e_callV (z := MX2_beneath) (kc' := 0) (ks' := 0) dX4_putTraits_43 ml_X4_296 cz_X2_beneath mk_X2_beneath ms_X2_beneath cb2 (by decide) (by rfl) (by rfl) (by simp [cat_rf, cat_i, cat_l, cat_r, cat_n]) (by decide) (by assumption) (lv1 _ 2 (fun _ => rfl)) (s_beneath (σ := apS σ k n) (a := σ 3 k 2) hsd hn ht15 (ws_u3 (ws_u14 hS)) hh) (by decide) (by decide) (fun w g hq => ?_)
      obtain ⟨A', σ2, v, hh, rfl, hB, hv5⟩ := hq
      have hX : (∀ t', t' ≠ 1 → A' t' = A t') ∧ WT σ2 ∧ WL σ2 L ∧ WS σ2 ∧ WP σ2 ∧ Lv σ2 3 k ∧ (-1 ≤ v ∧ v < cnt σ2 1) := by
        rcases hB with ⟨rfl, rfl, c, -⟩ | ⟨h80, b, rfl, rfl, rfl⟩
        · exact ⟨fun _ _ => rfl, wt_u35 (wt_u14 hT) ⟨by omega, by have := hsz (by omega); omega⟩, wl_u35 (wl_u14 hL), ws_u3 (ws_u14 hS), wp_u3 (wp_u14 hP), hk, c⟩
        · have h58 := hv5 hs2.1
          have hrp := (hS.2.2 _ (show Lv σ 1 (σ 3 k 2) from ⟨h58.1, hsd.2⟩)).2.2.2.1
          exact ⟨fun t' h1 => by funext r; exact gA_ne (fun q => h1 q.1), wt_ns (wt_u35 (wt_u14 hT) ⟨by omega, by have := hsz (by omega); omega⟩), wl_ns (wl_u35 (wl_u14 hL)), ws_ns (ws_u3 (ws_u14 hS)) h80 hsd (fun _ => h58.2) hrp ⟨by omega, hn.2⟩ ht15, wp_ns (wp_u3 (wp_u14 hP)), hk, ⟨by have : 0 ≤ apS σ k n 99 1 0 := hs2.1; omega, by show apS σ k n 99 1 0 < apS σ k n 99 1 0 + 1; omega⟩⟩
      obtain ⟨hA, hT2, hL2, hS2, hP2, hk2, hvd⟩ := hX
      have e3 : vr A 3 k = vr A' 3 k := by unfold vr rf; rw [hA 3 (by decide)]
      have e4 : vr A 4 0 = vr A' 4 0 := by unfold vr rf; rw [hA 4 (by decide)]
      refine r_st (show [vr A' 1 v, vr A 3 k] = [vr A' 1 v, vr A' 3 k] by rw [e3]) ?_
      rw [e3, e4]
      refine r_pc 46 rfl ?_
      refine e_putR (t := 3) (k := 2) (t1 := 1) 2 dX4_putTraits_46 cb3 (by decide) mf_X4_62 (by rfl) (by rfl) (by intro z; cases z <;> rfl) (by intro z; cases z <;> rfl) (by rfl) (by rfl) (by decide) (by rfl) rfl (by assumption) (by assumption) (by assumption) (fun g hh => ?_)
      refine r_aload_nO dX4_putTraits_49 rfl rfl ?_
      refine e_getF (t := 3) (k := 7) (t1 := 15) dX4_putTraits_50 cb3 (by decide) mf_X4_290 (by rfl) (by rfl) (by decide) (by assumption) (by assumption) ?_
      refine r_iload_n dX4_putTraits_53 rfl rfl ?_
      refine r_iload_n dX4_putTraits_54 rfl rfl ?_
      refine e_iast (t := 15) dX4_putTraits_55 (by decide) (by decide) (by rfl) (by intro _; rfl) (by assumption) (by first | assumption | exact lv_as 3 (by assumption) (by rfl)) (by have e : ln 15 = 12 := rfl; omega) (fun g hh => ?_)
      refine r_aload_nO dX4_putTraits_56 rfl rfl ?_
      refine r_aload_nO dX4_putTraits_57 rfl rfl ?_
      refine e_callV (z := MX4_dropEntries) (kc' := 0) (ks' := 0) dX4_putTraits_58 ml_X4_125 cz_X4_dropEntries mk_X4_dropEntries ms_X4_dropEntries cb4 (by decide) (by rfl) (by rfl) (by simp [cat_rf, cat_i, cat_l, cat_r, cat_n]) (by decide) (by assumption) (lv1 _ 4 (fun _ => rfl)) (s_drop (σ := up (up σ2 3 k 2 v) 15 k n t) hk2 (wt_u15 (wt_u32 hT2 hvd)) (wl_u15 (wl_u32 hL2)) (ws_u15 (ws_u3 hS2)) (wp_u15 (wp_u3 hP2)) hh) (by decide) (by decide) (fun w g hq => ?_)
      obtain ⟨σ', hh, rfl, hD⟩ := hq
      refine r_pc 61 rfl ?_
      exact r_vret dX4_putTraits_61 rfl ⟨A', σ', hh, rfl, hA, Or.inr ⟨h7, _, Or.inr ⟨by omega, σ2, v, rfl, hv5, hB.elim (fun ⟨_, b, c, e⟩ => Or.inl ⟨b, c, e⟩) (fun ⟨a, _, _, c, e⟩ => Or.inr ⟨a, c, e⟩)⟩, hD⟩⟩
    · refine r_pc 19 rfl ?_
      refine r_aload_nO dX4_putTraits_19 rfl rfl ?_
      refine e_null A 1 dX4_putTraits_20 ?_
      refine e_putR (t := 3) (k := 2) (t1 := 1) 2 dX4_putTraits_21 cb3 (by decide) mf_X4_62 (by rfl) (by rfl) (by intro z; cases z <;> rfl) (by intro z; cases z <;> rfl) (by rfl) (by rfl) (by decide) (by rfl) rfl (by assumption) (by assumption) (by assumption) (fun g hh => ?_)
      refine r_goto 49 dX4_putTraits_24 (by decide) ?_
      refine r_aload_nO dX4_putTraits_49 rfl rfl ?_
      refine e_getF (t := 3) (k := 7) (t1 := 15) dX4_putTraits_50 cb3 (by decide) mf_X4_290 (by rfl) (by rfl) (by decide) (by assumption) (by assumption) ?_
      refine r_iload_n dX4_putTraits_53 rfl rfl ?_
      refine r_iload_n dX4_putTraits_54 rfl rfl ?_
      refine e_iast (t := 15) dX4_putTraits_55 (by decide) (by decide) (by rfl) (by intro _; rfl) (by assumption) (by first | assumption | exact lv_as 3 (by assumption) (by rfl)) (by have e : ln 15 = 12 := rfl; omega) (fun g hh => ?_)
      refine r_aload_nO dX4_putTraits_56 rfl rfl ?_
      refine r_aload_nO dX4_putTraits_57 rfl rfl ?_
      refine e_callV (z := MX4_dropEntries) (kc' := 1) (ks' := 6) dX4_putTraits_58 ml_X4_125 cz_X4_dropEntries mk_X4_dropEntries ms_X4_dropEntries cb4 (by decide) (by rfl) (by rfl) (by simp [cat_rf, cat_i, cat_l, cat_r, cat_n]) (by decide) (by assumption) (lv1 _ 4 (fun _ => rfl)) (s_drop (σ := up (up σ 3 k 2 (-1)) 15 k n t) hk (wt_u15 (wt_u32 hT hm1)) (wl_u15 (wl_u32 hL)) (ws_u15 (ws_u3 hS)) (wp_u15 (wp_u3 hP)) hh) (by decide) (by decide) (fun w g hq => ?_)
      obtain ⟨σ', hh, rfl, hD⟩ := hq
      refine r_pc 61 rfl ?_
      exact r_vret dX4_putTraits_61 rfl ⟨A, σ', hh, rfl, fun _ _ => rfl, Or.inr ⟨h7, _, Or.inl ⟨h16, rfl⟩, hD⟩⟩
  · refine r_pc 10 rfl ?_
    exact r_vret dX4_putTraits_10 rfl ⟨A, σ, hh, rfl, fun _ _ => rfl, Or.inl ⟨h7, rfl⟩⟩
