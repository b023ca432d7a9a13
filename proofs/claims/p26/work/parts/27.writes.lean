/-- one of two, by a claim -/
noncomputable def cI {α : Type} (p : Prop) (a b : α) : α := @ite α p (Classical.propDecidable p) a b
theorem cI_t {α : Type} {p : Prop} {a b : α} (h : p) : cI p a b = a := if_pos h
theorem cI_f {α : Type} {p : Prop} {a b : α} (h : ¬ p) : cI p a b = b := if_neg h
/-- a call that may change the court: its answer, and what own sees then -/
def SQ (κ : KK) (A : Nat → Int → Nat) (σ : ST) (T : Int) (τ : ST) (r : Option Value) : Option Value → GG → Prop := fun w h => ∃ (A' : Nat → Int → Nat) (σ' : ST) (L' Sc' : Int → List Int), HR κ A' h σ' ∧ w = r ∧ (∀ t, t ≠ 1 → A' t = A t) ∧ CO σ' L' Sc' T ∧ AgV τ σ' ∧ σ 99 1 0 ≤ σ' 99 1 0
theorem sq_id {κ : KK} {A : Nat → Int → Nat} {σ τ : ST} {L Sc : Int → List Int} {T : Int} {r : Option Value} {h : GG} (hc : CO σ L Sc T) (hh : HR κ A h σ) (e : τ = σ) : SQ κ A σ T τ r r h := ⟨A, σ, L, Sc, hh, rfl, fun _ _ => rfl, hc, by rw [e]; exact AgV.rf' σ, Int.le_refl _⟩
/-- whether a field may be put -/
def canD (σ : ST) (k n : Int) : Prop := (σ 15 k n = 0 → σ 3 k 3 = 0) ∧ (¬ σ 15 k n = 0 → ¬ isFx (σ 15 k n))
theorem md_can {σ : ST} {k n : Int} (hs : σ 3 k 3 = 0 ∨ σ 3 k 3 = 1) : (if σ 15 k n = 0 then 1 - σ 3 k 3 else 1 - bI (isFx (σ 15 k n))) = bI (canD σ k n) := by
  by_cases h : σ 15 k n = 0
  · rw [if_pos h]
    rcases hs with e | e
    · rw [bI_t ⟨fun _ => e, fun q => absurd h q⟩]; omega
    · rw [bI_f (fun q => by have := q.1 h; omega)]; omega
  · rw [if_neg h]
    by_cases q : isFx (σ 15 k n)
    · rw [bI_t q, bI_f (fun z => z.2 h q)]; rfl
    · rw [bI_f q, bI_t ⟨fun z => absurd z h, fun _ => q⟩]; rfl
/-- a plain write, where h has the field -/
def wpO (σ : ST) (k h n : Int) : Prop := ¬ (0 ≤ h ∧ isFx (σ 15 h n)) ∧ (h = k ∨ σ 3 k 3 = 0)
noncomputable def wpM (σ : ST) (k h n v : Int) : ST := cI (wpO σ k h n) (cI (h = k) (fil σ k n v (-1) (-1) 0) (putM σ k n 1 v (-1) (-1) 0)) σ
/-- a write, so many setters on: whether it is done; and what it does -/
def wrP (σ : ST) (l : List Int) (n : Int) : Prop := 0 ≤ hF σ n l ∧ isPr (σ 15 (hF σ n l) n)
def wrO (σ : ST) (l : List Int) (k : Int) : Nat → Int → Int → Prop
  | 0, n, _ => ¬ wrP σ l n ∧ wpO σ k (hF σ n l) n
  | m + 1, n, v => (wrP σ l n → ¬ σ 18 (hF σ n l) n = -1 ∧ wrO σ l k m (σ 18 (hF σ n l) n) (raI v (σ 19 (hF σ n l) n))) ∧ (¬ wrP σ l n → wpO σ k (hF σ n l) n)
noncomputable def wrM (σ : ST) (l : List Int) (k : Int) : Nat → Int → Int → ST
  | 0, n, v => cI (wrP σ l n) σ (wpM σ k (hF σ n l) n v)
  | m + 1, n, v => cI (wrP σ l n) (cI (σ 18 (hF σ n l) n = -1) σ (wrM σ l k m (σ 18 (hF σ n l) n) (raI v (σ 19 (hF σ n l) n)))) (wpM σ k (hF σ n l) n v)
theorem wr_pl {σ : ST} {l : List Int} {k : Int} (m : Nat) {n v : Int} (h : ¬ wrP σ l n) : (wrO σ l k m n v ↔ wpO σ k (hF σ n l) n) ∧ wrM σ l k m n v = wpM σ k (hF σ n l) n v := by
  cases m with
  | zero => exact ⟨⟨fun q => q.2, fun q => ⟨h, q⟩⟩, cI_f h⟩
  | succ m => exact ⟨⟨fun q => q.2 h, fun q => ⟨fun z => absurd z h, fun _ => q⟩⟩, cI_f h⟩
theorem wr_no {σ : ST} {l : List Int} {k : Int} {m : Nat} {n v : Int} (h : wrP σ l n) (h2 : m = 0 ∨ σ 18 (hF σ n l) n = -1) : ¬ wrO σ l k m n v ∧ wrM σ l k m n v = σ := by
  cases m with
  | zero => exact ⟨fun q => q.1 h, cI_t h⟩
  | succ m =>
    have h3 : σ 18 (hF σ n l) n = -1 := h2.resolve_left (by omega)
    exact ⟨fun q => (q.1 h).1 h3, by rw [wrM, cI_t h, cI_t h3]⟩
theorem wr_on {σ : ST} {l : List Int} {k : Int} {m : Nat} {n v : Int} (h : wrP σ l n) (h2 : ¬ σ 18 (hF σ n l) n = -1) : (wrO σ l k (m + 1) n v ↔ wrO σ l k m (σ 18 (hF σ n l) n) (raI v (σ 19 (hF σ n l) n))) ∧ wrM σ l k (m + 1) n v = wrM σ l k m (σ 18 (hF σ n l) n) (raI v (σ 19 (hF σ n l) n)) :=
  ⟨⟨fun q => (q.1 h).2, fun q => ⟨fun _ => ⟨h2, q⟩, fun z => absurd h z⟩⟩, by rw [wrM, cI_t h, cI_f h2]⟩
/-- a number that may be written -/
def VAL (σ : ST) (v : Int) : Prop := (-1000 ≤ v ∧ v ≤ 999) ∨ (1000 ≤ v ∧ v < 1000 + σ 99 3 0)
theorem s_needValue {κ : KK} {A : Nat → Int → Nat} {σ : ST} {v : Int} (hv : VAL σ v) (hT : WT σ) : PV κ A MX4_needValue 1 σ [vr A 4 0, .int (iI v)] none σ := by
  intro g hh
  have h1 := hT.1
  have h2 := hT.2.1
  have hvv := hv
  unfold VAL at hvv
  refine e_start rfl (by show (lg_sl _).length ≤ 3; simp [lg_sl, cat_rf, cat_i, cat_l, cat_r, cat_n]) (lv := [(0, vr A 4 0), (1, .int (iI v))]) (by simp [lv_args, cat_rf, cat_i, cat_l, cat_r, cat_n]) ?_
  refine r_iload_n dX4_needValue_0 rfl rfl ?_
  refine e_sipush dX4_needValue_1 (by decide +kernel) ?_
  refine e_ic_lt 23 dX4_needValue_4 (by decide) ⟨by omega, by omega⟩ ⟨by omega, by omega⟩ (fun h4 => ?_) (fun h4 => ?_)
  · refine r_pc 23 rfl ?_
    refine e_iconst dX4_needValue_23 ?_
    refine r_istore_n dX4_needValue_24 rfl (by decide) ?_
    refine r_iload_n dX4_needValue_25 rfl rfl ?_
    refine e_callSP (z := MX4_isNumber) dX4_needValue_26 ml_X4_257 cz_X4_isNumber mk_X4_isNumber (s_isNumber (by omega)) rfl rfl (by simp [cat_rf, cat_i, cat_l, cat_r, cat_n]) (by decide) (by assumption) (fun g hh => ?_)
    refine r_pc 29 rfl ?_
    refine e_ifne_b 54 dX4_needValue_29 (by decide) (fun h29 => ?_) (fun h29 => ?_)
    · refine r_pc 54 rfl ?_
      exact q_vret dX4_needValue_54 rfl (by assumption)
    · refine r_pc 32 rfl ?_
      refine r_iload_n dX4_needValue_32 rfl rfl ?_
      refine e_sipush dX4_needValue_33 (by decide +kernel) ?_
      refine e_ic_eq 54 dX4_needValue_36 (by decide) ⟨by omega, by omega⟩ ⟨by omega, by omega⟩ (fun h36 => ?_) (fun h36 => by exfalso; omega)
      refine r_pc 54 rfl ?_
      exact q_vret dX4_needValue_54 rfl (by assumption)
  · refine r_pc 7 rfl ?_
    refine r_iload_n dX4_needValue_7 rfl rfl ?_
    refine e_sipush dX4_needValue_8 (by decide +kernel) ?_
    first | refine e_isub dX4_needValue_11 ?_ | refine r_isub dX4_needValue_11 ?_
    refine r_aload_nO dX4_needValue_12 rfl rfl ?_
    refine e_getI (t := 4) (k := 1) 1 dX4_needValue_13 cb4 (by decide) mf_X4_40 (by rfl) rfl (by assumption) (lv1 _ 4 (fun _ => rfl)) ?_
    refine e_ic_ge 23 dX4_needValue_16 (by decide) ⟨by omega, by omega⟩ ⟨by omega, by omega⟩ (fun h16 => by exfalso; omega) (fun h16 => ?_)
    refine r_pc 19 rfl ?_
    refine e_iconst dX4_needValue_19 ?_
    refine r_goto 24 dX4_needValue_20 (by decide) ?_
    refine r_istore_n dX4_needValue_24 rfl (by decide) ?_
    refine r_iload_n dX4_needValue_25 rfl rfl ?_
    refine e_callSP (z := MX4_isNumber) dX4_needValue_26 ml_X4_257 cz_X4_isNumber mk_X4_isNumber (s_isNumber (by omega)) rfl rfl (by simp [cat_rf, cat_i, cat_l, cat_r, cat_n]) (by decide) (by assumption) (fun g hh => ?_)
    refine r_pc 29 rfl ?_
    refine e_ifne_b 54 dX4_needValue_29 (by decide) (fun h29 => ?_) (fun h29 => ?_)
    · refine r_pc 54 rfl ?_
      exact q_vret dX4_needValue_54 rfl (by assumption)
    · refine r_pc 32 rfl ?_
      refine r_iload_n dX4_needValue_32 rfl rfl ?_
      refine e_sipush dX4_needValue_33 (by decide +kernel) ?_
      refine e_ic_eq 54 dX4_needValue_36 (by decide) ⟨by omega, by omega⟩ ⟨by omega, by omega⟩ (fun h36 => ?_) (fun h36 => ?_)
      · refine r_pc 54 rfl ?_
        exact q_vret dX4_needValue_54 rfl (by assumption)
      · refine r_pc 39 rfl ?_
        refine r_iload_n dX4_needValue_39 rfl rfl ?_
        refine e_if_ne 54 dX4_needValue_40 (by decide) ⟨by omega, by omega⟩ (fun h40 => ?_) (fun h40 => by exfalso; omega)
        refine r_pc 54 rfl ?_
        exact q_vret dX4_needValue_54 rfl (by assumption)
theorem s_needPair {κ : KK} {A : Nat → Int → Nat} {σ : ST} {a b n : Int} (ha : -1 ≤ a ∧ a < 12) (hb : -1 ≤ b ∧ b < 12) (hab : ¬ (a = -1 ∧ b = -1)) (hn : -99 ≤ n ∧ n ≤ 99) : PV κ A MX4_needPair 1 σ [.int (iI a), .int (iI b), .int (iI n)] none σ := by
  intro g hh
  refine e_start rfl (by show (lg_sl _).length ≤ 3; simp [lg_sl, cat_rf, cat_i, cat_l, cat_r, cat_n]) (lv := [(0, .int (iI a)), (1, .int (iI b)), (2, .int (iI n))]) (by simp [lv_args, cat_rf, cat_i, cat_l, cat_r, cat_n]) ?_
  refine r_iload_n dX4_needPair_0 rfl rfl ?_
  refine e_iconst dX4_needPair_1 ?_
  refine e_ic_eq 23 dX4_needPair_2 (by decide) ⟨by omega, by omega⟩ ⟨by omega, by omega⟩ (fun h2 => ?_) (fun h2 => ?_)
  · refine r_pc 23 rfl ?_
    refine r_iload_n dX4_needPair_23 rfl rfl ?_
    refine e_iconst dX4_needPair_24 ?_
    refine e_ic_eq 46 dX4_needPair_25 (by decide) ⟨by omega, by omega⟩ ⟨by omega, by omega⟩ (fun h25 => ?_) (fun h25 => ?_)
    · refine r_pc 46 rfl ?_
      refine r_iload_n dX4_needPair_46 rfl rfl ?_
      refine e_iconst dX4_needPair_47 ?_
      refine e_ic_ne 67 dX4_needPair_48 (by decide) ⟨by omega, by omega⟩ ⟨by omega, by omega⟩ (fun h48 => ?_) (fun h48 => ?_)
      · refine r_pc 67 rfl ?_
        refine r_iload_n dX4_needPair_67 rfl rfl ?_
        refine e_bipush dX4_needPair_68 (by decide +kernel) ?_
        refine e_ic_lt 79 dX4_needPair_70 (by decide) ⟨by omega, by omega⟩ ⟨by omega, by omega⟩ (fun h70 => by exfalso; omega) (fun h70 => ?_)
        refine r_pc 73 rfl ?_
        refine r_iload_n dX4_needPair_73 rfl rfl ?_
        refine e_bipush dX4_needPair_74 (by decide +kernel) ?_
        refine e_ic_le 90 dX4_needPair_76 (by decide) ⟨by omega, by omega⟩ ⟨by omega, by omega⟩ (fun h76 => ?_) (fun h76 => by exfalso; omega)
        refine r_pc 90 rfl ?_
        exact q_vret dX4_needPair_90 rfl (by assumption)
      · refine r_pc 51 rfl ?_
        refine r_iload_n dX4_needPair_51 rfl rfl ?_
        refine e_iconst dX4_needPair_52 ?_
        refine e_ic_ne 67 dX4_needPair_53 (by decide) ⟨by omega, by omega⟩ ⟨by omega, by omega⟩ (fun h53 => ?_) (fun h53 => by exfalso; omega)
        refine r_pc 67 rfl ?_
        refine r_iload_n dX4_needPair_67 rfl rfl ?_
        refine e_bipush dX4_needPair_68 (by decide +kernel) ?_
        refine e_ic_lt 79 dX4_needPair_70 (by decide) ⟨by omega, by omega⟩ ⟨by omega, by omega⟩ (fun h70 => by exfalso; omega) (fun h70 => ?_)
        refine r_pc 73 rfl ?_
        refine r_iload_n dX4_needPair_73 rfl rfl ?_
        refine e_bipush dX4_needPair_74 (by decide +kernel) ?_
        refine e_ic_le 90 dX4_needPair_76 (by decide) ⟨by omega, by omega⟩ ⟨by omega, by omega⟩ (fun h76 => ?_) (fun h76 => by exfalso; omega)
        refine r_pc 90 rfl ?_
        exact q_vret dX4_needPair_90 rfl (by assumption)
    · refine r_pc 28 rfl ?_
      refine r_iload_n dX4_needPair_28 rfl rfl ?_
      refine e_callSP (z := MX4_isName) dX4_needPair_29 ml_X4_247 cz_X4_isName mk_X4_isName (s_isName (by omega)) rfl rfl (by simp [cat_rf, cat_i, cat_l, cat_r, cat_n]) (by decide) (by assumption) (fun g hh => ?_)
      refine r_pc 32 rfl ?_
      refine e_if_ne 46 dX4_needPair_32 (by decide) ⟨by omega, by omega⟩ (fun h32 => ?_) (fun h32 => by exfalso; omega)
      refine r_pc 46 rfl ?_
      refine r_iload_n dX4_needPair_46 rfl rfl ?_
      refine e_iconst dX4_needPair_47 ?_
      refine e_ic_ne 67 dX4_needPair_48 (by decide) ⟨by omega, by omega⟩ ⟨by omega, by omega⟩ (fun h48 => ?_) (fun h48 => ?_)
      · refine r_pc 67 rfl ?_
        refine r_iload_n dX4_needPair_67 rfl rfl ?_
        refine e_bipush dX4_needPair_68 (by decide +kernel) ?_
        refine e_ic_lt 79 dX4_needPair_70 (by decide) ⟨by omega, by omega⟩ ⟨by omega, by omega⟩ (fun h70 => by exfalso; omega) (fun h70 => ?_)
        refine r_pc 73 rfl ?_
        refine r_iload_n dX4_needPair_73 rfl rfl ?_
        refine e_bipush dX4_needPair_74 (by decide +kernel) ?_
        refine e_ic_le 90 dX4_needPair_76 (by decide) ⟨by omega, by omega⟩ ⟨by omega, by omega⟩ (fun h76 => ?_) (fun h76 => by exfalso; omega)
        refine r_pc 90 rfl ?_
        exact q_vret dX4_needPair_90 rfl (by assumption)
      · refine r_pc 51 rfl ?_
        refine r_iload_n dX4_needPair_51 rfl rfl ?_
        refine e_iconst dX4_needPair_52 ?_
        refine e_ic_ne 67 dX4_needPair_53 (by decide) ⟨by omega, by omega⟩ ⟨by omega, by omega⟩ (fun h53 => ?_) (fun h53 => by exfalso; omega)
        refine r_pc 67 rfl ?_
        refine r_iload_n dX4_needPair_67 rfl rfl ?_
        refine e_bipush dX4_needPair_68 (by decide +kernel) ?_
        refine e_ic_lt 79 dX4_needPair_70 (by decide) ⟨by omega, by omega⟩ ⟨by omega, by omega⟩ (fun h70 => by exfalso; omega) (fun h70 => ?_)
        refine r_pc 73 rfl ?_
        refine r_iload_n dX4_needPair_73 rfl rfl ?_
        refine e_bipush dX4_needPair_74 (by decide +kernel) ?_
        refine e_ic_le 90 dX4_needPair_76 (by decide) ⟨by omega, by omega⟩ ⟨by omega, by omega⟩ (fun h76 => ?_) (fun h76 => by exfalso; omega)
        refine r_pc 90 rfl ?_
        exact q_vret dX4_needPair_90 rfl (by assumption)
  · refine r_pc 5 rfl ?_
    refine r_iload_n dX4_needPair_5 rfl rfl ?_
    refine e_callSP (z := MX4_isName) dX4_needPair_6 ml_X4_247 cz_X4_isName mk_X4_isName (s_isName (by omega)) rfl rfl (by simp [cat_rf, cat_i, cat_l, cat_r, cat_n]) (by decide) (by assumption) (fun g hh => ?_)
    refine r_pc 9 rfl ?_
    refine e_if_ne 23 dX4_needPair_9 (by decide) ⟨by omega, by omega⟩ (fun h9 => ?_) (fun h9 => by exfalso; omega)
    refine r_pc 23 rfl ?_
    refine r_iload_n dX4_needPair_23 rfl rfl ?_
    refine e_iconst dX4_needPair_24 ?_
    refine e_ic_eq 46 dX4_needPair_25 (by decide) ⟨by omega, by omega⟩ ⟨by omega, by omega⟩ (fun h25 => ?_) (fun h25 => ?_)
    · refine r_pc 46 rfl ?_
      refine r_iload_n dX4_needPair_46 rfl rfl ?_
      refine e_iconst dX4_needPair_47 ?_
      refine e_ic_ne 67 dX4_needPair_48 (by decide) ⟨by omega, by omega⟩ ⟨by omega, by omega⟩ (fun h48 => ?_) (fun h48 => ?_)
      · refine r_pc 67 rfl ?_
        refine r_iload_n dX4_needPair_67 rfl rfl ?_
        refine e_bipush dX4_needPair_68 (by decide +kernel) ?_
        refine e_ic_lt 79 dX4_needPair_70 (by decide) ⟨by omega, by omega⟩ ⟨by omega, by omega⟩ (fun h70 => by exfalso; omega) (fun h70 => ?_)
        refine r_pc 73 rfl ?_
        refine r_iload_n dX4_needPair_73 rfl rfl ?_
        refine e_bipush dX4_needPair_74 (by decide +kernel) ?_
        refine e_ic_le 90 dX4_needPair_76 (by decide) ⟨by omega, by omega⟩ ⟨by omega, by omega⟩ (fun h76 => ?_) (fun h76 => by exfalso; omega)
        refine r_pc 90 rfl ?_
        exact q_vret dX4_needPair_90 rfl (by assumption)
      · refine r_pc 51 rfl ?_
        refine r_iload_n dX4_needPair_51 rfl rfl ?_
        refine e_iconst dX4_needPair_52 ?_
        refine e_ic_ne 67 dX4_needPair_53 (by decide) ⟨by omega, by omega⟩ ⟨by omega, by omega⟩ (fun h53 => ?_) (fun h53 => by exfalso; omega)
        refine r_pc 67 rfl ?_
        refine r_iload_n dX4_needPair_67 rfl rfl ?_
        refine e_bipush dX4_needPair_68 (by decide +kernel) ?_
        refine e_ic_lt 79 dX4_needPair_70 (by decide) ⟨by omega, by omega⟩ ⟨by omega, by omega⟩ (fun h70 => by exfalso; omega) (fun h70 => ?_)
        refine r_pc 73 rfl ?_
        refine r_iload_n dX4_needPair_73 rfl rfl ?_
        refine e_bipush dX4_needPair_74 (by decide +kernel) ?_
        refine e_ic_le 90 dX4_needPair_76 (by decide) ⟨by omega, by omega⟩ ⟨by omega, by omega⟩ (fun h76 => ?_) (fun h76 => by exfalso; omega)
        refine r_pc 90 rfl ?_
        exact q_vret dX4_needPair_90 rfl (by assumption)
    · refine r_pc 28 rfl ?_
      refine r_iload_n dX4_needPair_28 rfl rfl ?_
      refine e_callSP (z := MX4_isName) dX4_needPair_29 ml_X4_247 cz_X4_isName mk_X4_isName (s_isName (by omega)) rfl rfl (by simp [cat_rf, cat_i, cat_l, cat_r, cat_n]) (by decide) (by assumption) (fun g hh => ?_)
      refine r_pc 32 rfl ?_
      refine e_if_ne 46 dX4_needPair_32 (by decide) ⟨by omega, by omega⟩ (fun h32 => ?_) (fun h32 => by exfalso; omega)
      refine r_pc 46 rfl ?_
      refine r_iload_n dX4_needPair_46 rfl rfl ?_
      refine e_iconst dX4_needPair_47 ?_
      refine e_ic_ne 67 dX4_needPair_48 (by decide) ⟨by omega, by omega⟩ ⟨by omega, by omega⟩ (fun h48 => ?_) (fun h48 => ?_)
      · refine r_pc 67 rfl ?_
        refine r_iload_n dX4_needPair_67 rfl rfl ?_
        refine e_bipush dX4_needPair_68 (by decide +kernel) ?_
        refine e_ic_lt 79 dX4_needPair_70 (by decide) ⟨by omega, by omega⟩ ⟨by omega, by omega⟩ (fun h70 => by exfalso; omega) (fun h70 => ?_)
        refine r_pc 73 rfl ?_
        refine r_iload_n dX4_needPair_73 rfl rfl ?_
        refine e_bipush dX4_needPair_74 (by decide +kernel) ?_
        refine e_ic_le 90 dX4_needPair_76 (by decide) ⟨by omega, by omega⟩ ⟨by omega, by omega⟩ (fun h76 => ?_) (fun h76 => by exfalso; omega)
        refine r_pc 90 rfl ?_
        exact q_vret dX4_needPair_90 rfl (by assumption)
      · refine r_pc 51 rfl ?_
        refine r_iload_n dX4_needPair_51 rfl rfl ?_
        refine e_iconst dX4_needPair_52 ?_
        refine e_ic_ne 67 dX4_needPair_53 (by decide) ⟨by omega, by omega⟩ ⟨by omega, by omega⟩ (fun h53 => ?_) (fun h53 => by exfalso; omega)
        refine r_pc 67 rfl ?_
        refine r_iload_n dX4_needPair_67 rfl rfl ?_
        refine e_bipush dX4_needPair_68 (by decide +kernel) ?_
        refine e_ic_lt 79 dX4_needPair_70 (by decide) ⟨by omega, by omega⟩ ⟨by omega, by omega⟩ (fun h70 => by exfalso; omega) (fun h70 => ?_)
        refine r_pc 73 rfl ?_
        refine r_iload_n dX4_needPair_73 rfl rfl ?_
        refine e_bipush dX4_needPair_74 (by decide +kernel) ?_
        refine e_ic_le 90 dX4_needPair_76 (by decide) ⟨by omega, by omega⟩ ⟨by omega, by omega⟩ (fun h76 => ?_) (fun h76 => by exfalso; omega)
        refine r_pc 90 rfl ?_
        exact q_vret dX4_needPair_90 rfl (by assumption)
theorem s_writePlain {κ : KK} {A : Nat → Int → Nat} {σ : ST} {g : GG} {L Sc : Int → List Int} {T : Int} {k h n v : Int} (hc : CO σ L Sc T) (hk : Lv σ 3 k) (hhd : -1 ≤ h ∧ h < σ 99 3 0) (hn : 0 ≤ n ∧ n < 12) (hv : -1000 ≤ v ∧ v ≤ 2000) (hpr : ¬ (0 ≤ h ∧ isPr (σ 15 h n))) (hh : HR κ A g σ) : Spec κ MX4_writePlain 5 1 6 [vr A 4 0, vr A 3 k, vr A 3 h, .int (iI n), .int (iI v)] g (SQ κ A σ T (wpM σ k h n v) (some (.int (iI (bI (wpO σ k h n)))))) := by
  have hT := hc.wt
  have hL := hc.wl
  have hS := hc.ws
  have hP := hc.wp
  have hF' := hc.wf
  have hV := hc.wv
  have hkd := kd3 hk
  have hz := wt_sz hT hk
  have h32 := ((hF' k hk).2.1 n hn).1
  have hsh := (hT.2.2 k hk).2.2.2.2.1
  refine e_start rfl (by show (lg_sl _).length ≤ 5; simp [lg_sl, cat_rf, cat_i, cat_l, cat_r, cat_n]) (lv := [(0, vr A 4 0), (1, vr A 3 k), (2, vr A 3 h), (3, .int (iI n)), (4, .int (iI v))]) (by simp [lv_args, cat_rf, cat_i, cat_l, cat_r, cat_n]) ?_
  refine r_aload_nO dX4_writePlain_0 rfl rfl ?_
  refine e_ifnull 15 dX4_writePlain_1 (by decide) (fun h1 => ?_) (fun h1 => ?_)
  · refine r_pc 15 rfl ?_
    have hfx : ¬ (0 ≤ h ∧ isFx (σ 15 h n)) := fun q => by have := q.1; omega
    refine r_aload_nO dX4_writePlain_15 rfl rfl ?_
    refine r_aload_nO dX4_writePlain_16 rfl rfl ?_
    refine e_ac_eq (t := 3) 36 dX4_writePlain_17 (by decide) (by assumption) (by decide) hhd hkd (fun h17 => ?_) (fun h17 => ?_)
    · refine r_pc 36 rfl ?_
      subst h17
      have hnp : ¬ isPr (σ 15 h n) := fun q => hpr ⟨hk.1, q⟩
      refine r_aload_nO dX4_writePlain_36 rfl rfl ?_
      refine r_iload_n dX4_writePlain_37 rfl rfl ?_
      refine r_iload dX4_writePlain_38 rfl ?_
      refine e_iconst dX4_writePlain_40 ?_
      refine e_iconst dX4_writePlain_41 ?_
      refine e_iconst dX4_writePlain_42 ?_
      refine e_callVV (z := MX3_fill) dX4_writePlain_43 ml_X4_110 cz_X3_fill mk_X3_fill ms_X3_fill cb3 (by decide) (s_fill hk hn) rfl rfl (by simp [cat_rf, cat_i, cat_l, cat_r, cat_n]) (by decide) (by assumption) (by assumption) (fun g hh => ?_)
      refine r_pc 46 rfl ?_
      refine e_iconst dX4_writePlain_46 ?_
      have hfc := fil_co (n := n) (a := v) (b := -1) (c := -1) (d := 0) (hc.cx h) hk (hF' h hk) (hc.wk h hk) (fun p x a b _ => hc.we p x a b) (AgV.rf' σ) (fun m hm _ => CX.wvk hc h hk (lv_m1 hk) m hm) rfl ⟨by omega, by omega, hv, by omega, fun q => absurd q hnp, fun _ => rfl⟩
      have hok : wpO σ h h n := ⟨hfx, Or.inl rfl⟩
      have eM : wpM σ h h n v = fil σ h n v (-1) (-1) 0 := by rw [wpM, cI_t hok, cI_t rfl]
      exact r_zret dX4_writePlain_47 rfl (narrow_01 (by omega)) ⟨A, _, L, Sc, hh, by rw [bI_t hok], fun _ _ => rfl, hfc, by rw [eM]; exact AgV.rf' _, Int.le_refl _⟩
    · refine r_pc 20 rfl ?_
      refine r_aload_nO dX4_writePlain_20 rfl rfl ?_
      refine e_getI (t := 3) (k := 3) 3 dX4_writePlain_21 cb3 (by decide) mf_X4_133 (by rfl) rfl (by assumption) (by assumption) ?_
      refine e_if_eq 29 dX4_writePlain_24 (by decide) ⟨by omega, by omega⟩ (fun h24 => ?_) (fun h24 => ?_)
      · refine r_pc 29 rfl ?_
        refine r_aload_nO dX4_writePlain_29 rfl rfl ?_
        refine r_aload_nO dX4_writePlain_30 rfl rfl ?_
        refine r_iload_n dX4_writePlain_31 rfl rfl ?_
        refine e_iconst dX4_writePlain_32 ?_
        refine e_callV (z := MX4_putTraits) (kc' := 0) (ks' := 0) dX4_writePlain_33 ml_X4_106 cz_X4_putTraits mk_X4_putTraits ms_X4_putTraits cb4 (by decide) (by rfl) (by rfl) (by simp [cat_rf, cat_i, cat_l, cat_r, cat_n]) (by decide) (by assumption) (lv1 _ 4 (fun _ => rfl)) (s_putTraits (t := 1) hk hn (Or.inr (Or.inl rfl)) h32 (fun q => wf_room (hF' k hk) hz hn q) hT hL hS hP hh) (by decide) (by decide) (fun w g hq => ?_)
        obtain ⟨A', σ', hh, rfl, hPT⟩ := hq
        obtain ⟨Sc', hco, hag, hle, hA, hk'⟩ := pt_co (t := 1) hc hk hn (Or.inr (Or.inl rfl)) (by decide) ⟨rfl, hPT⟩ (show PV5 1 v (-1) (-1) 0 from ⟨by omega, by omega, hv, by omega, fun q => absurd q (by unfold isPr; omega), fun _ => rfl⟩)
        have e3 : vr A 3 k = vr A' 3 k := by unfold vr rf; rw [hA 3 (by decide)]
        rw [e3]
        refine r_pc 36 rfl ?_
        refine r_aload_nO dX4_writePlain_36 rfl rfl ?_
        refine r_iload_n dX4_writePlain_37 rfl rfl ?_
        refine r_iload dX4_writePlain_38 rfl ?_
        refine e_iconst dX4_writePlain_40 ?_
        refine e_iconst dX4_writePlain_41 ?_
        refine e_iconst dX4_writePlain_42 ?_
        refine e_callVV (z := MX3_fill) dX4_writePlain_43 ml_X4_110 cz_X3_fill mk_X3_fill ms_X3_fill cb3 (by decide) (s_fill (σ := σ') hk' hn) rfl rfl (by simp [cat_rf, cat_i, cat_l, cat_r, cat_n]) (by decide) (by assumption) (by assumption) (fun g hh => ?_)
        refine r_pc 46 rfl ?_
        refine e_iconst dX4_writePlain_46 ?_
        have hok : wpO σ k h n := ⟨hfx, Or.inr h24⟩
        have eM : wpM σ k h n v = putM σ k n 1 v (-1) (-1) 0 := by rw [wpM, cI_t hok, cI_f h17]
        exact r_zret dX4_writePlain_47 rfl (narrow_01 (by omega)) ⟨A', _, L, Sc', hh, by rw [bI_t hok], hA, hco, by rw [eM]; exact hag, hle⟩
      · refine r_pc 27 rfl ?_
        refine e_iconst dX4_writePlain_27 ?_
        have hok : ¬ wpO σ k h n := fun q => q.2.elim h17 h24
        exact r_zret dX4_writePlain_28 rfl (narrow_01 (by omega)) (by rw [bI_f hok]; exact sq_id hc hh (cI_f hok))
  · refine r_pc 4 rfl ?_
    have hhk : Lv σ 3 h := ⟨h1, hhd.2⟩
    refine r_aload_nO dX4_writePlain_4 rfl rfl ?_
    refine r_iload_n dX4_writePlain_5 rfl rfl ?_
    refine e_iconst dX4_writePlain_6 ?_
    refine e_callVP (z := MX3_is) dX4_writePlain_7 ml_X4_86 cz_X3_is mk_X3_is ms_X3_is cb3 (by decide) (s_is4 hhk hn ((hF' h hhk).2.1 n hn).1) rfl rfl (by simp [cat_rf, cat_i, cat_l, cat_r, cat_n]) (by decide) (by assumption) (by assumption) (fun g hh => ?_)
    refine r_pc 10 rfl ?_
    refine e_ifeq_b 15 dX4_writePlain_10 (by decide) (fun h10 => ?_) (fun h10 => ?_)
    · refine r_pc 15 rfl ?_
      have hfx : ¬ (0 ≤ h ∧ isFx (σ 15 h n)) := fun q => h10 q.2
      refine r_aload_nO dX4_writePlain_15 rfl rfl ?_
      refine r_aload_nO dX4_writePlain_16 rfl rfl ?_
      refine e_ac_eq (t := 3) 36 dX4_writePlain_17 (by decide) (by assumption) (by decide) hhd hkd (fun h17 => ?_) (fun h17 => ?_)
      · refine r_pc 36 rfl ?_
        subst h17
        have hnp : ¬ isPr (σ 15 h n) := fun q => hpr ⟨hk.1, q⟩
        refine r_aload_nO dX4_writePlain_36 rfl rfl ?_
        refine r_iload_n dX4_writePlain_37 rfl rfl ?_
        refine r_iload dX4_writePlain_38 rfl ?_
        refine e_iconst dX4_writePlain_40 ?_
        refine e_iconst dX4_writePlain_41 ?_
        refine e_iconst dX4_writePlain_42 ?_
        refine e_callVV (z := MX3_fill) dX4_writePlain_43 ml_X4_110 cz_X3_fill mk_X3_fill ms_X3_fill cb3 (by decide) (s_fill hk hn) rfl rfl (by simp [cat_rf, cat_i, cat_l, cat_r, cat_n]) (by decide) (by assumption) (by assumption) (fun g hh => ?_)
        refine r_pc 46 rfl ?_
        refine e_iconst dX4_writePlain_46 ?_
        have hfc := fil_co (n := n) (a := v) (b := -1) (c := -1) (d := 0) (hc.cx h) hk (hF' h hk) (hc.wk h hk) (fun p x a b _ => hc.we p x a b) (AgV.rf' σ) (fun m hm _ => CX.wvk hc h hk (lv_m1 hk) m hm) rfl ⟨by omega, by omega, hv, by omega, fun q => absurd q hnp, fun _ => rfl⟩
        have hok : wpO σ h h n := ⟨hfx, Or.inl rfl⟩
        have eM : wpM σ h h n v = fil σ h n v (-1) (-1) 0 := by rw [wpM, cI_t hok, cI_t rfl]
        exact r_zret dX4_writePlain_47 rfl (narrow_01 (by omega)) ⟨A, _, L, Sc, hh, by rw [bI_t hok], fun _ _ => rfl, hfc, by rw [eM]; exact AgV.rf' _, Int.le_refl _⟩
      · refine r_pc 20 rfl ?_
        refine r_aload_nO dX4_writePlain_20 rfl rfl ?_
        refine e_getI (t := 3) (k := 3) 3 dX4_writePlain_21 cb3 (by decide) mf_X4_133 (by rfl) rfl (by assumption) (by assumption) ?_
        refine e_if_eq 29 dX4_writePlain_24 (by decide) ⟨by omega, by omega⟩ (fun h24 => ?_) (fun h24 => ?_)
        · refine r_pc 29 rfl ?_
          refine r_aload_nO dX4_writePlain_29 rfl rfl ?_
          refine r_aload_nO dX4_writePlain_30 rfl rfl ?_
          refine r_iload_n dX4_writePlain_31 rfl rfl ?_
          refine e_iconst dX4_writePlain_32 ?_
          refine e_callV (z := MX4_putTraits) (kc' := 0) (ks' := 0) dX4_writePlain_33 ml_X4_106 cz_X4_putTraits mk_X4_putTraits ms_X4_putTraits cb4 (by decide) (by rfl) (by rfl) (by simp [cat_rf, cat_i, cat_l, cat_r, cat_n]) (by decide) (by assumption) (lv1 _ 4 (fun _ => rfl)) (s_putTraits (t := 1) hk hn (Or.inr (Or.inl rfl)) h32 (fun q => wf_room (hF' k hk) hz hn q) hT hL hS hP hh) (by decide) (by decide) (fun w g hq => ?_)
          obtain ⟨A', σ', hh, rfl, hPT⟩ := hq
          obtain ⟨Sc', hco, hag, hle, hA, hk'⟩ := pt_co (t := 1) hc hk hn (Or.inr (Or.inl rfl)) (by decide) ⟨rfl, hPT⟩ (show PV5 1 v (-1) (-1) 0 from ⟨by omega, by omega, hv, by omega, fun q => absurd q (by unfold isPr; omega), fun _ => rfl⟩)
          have e3 : vr A 3 k = vr A' 3 k := by unfold vr rf; rw [hA 3 (by decide)]
          rw [e3]
          refine r_pc 36 rfl ?_
          refine r_aload_nO dX4_writePlain_36 rfl rfl ?_
          refine r_iload_n dX4_writePlain_37 rfl rfl ?_
          refine r_iload dX4_writePlain_38 rfl ?_
          refine e_iconst dX4_writePlain_40 ?_
          refine e_iconst dX4_writePlain_41 ?_
          refine e_iconst dX4_writePlain_42 ?_
          refine e_callVV (z := MX3_fill) dX4_writePlain_43 ml_X4_110 cz_X3_fill mk_X3_fill ms_X3_fill cb3 (by decide) (s_fill (σ := σ') hk' hn) rfl rfl (by simp [cat_rf, cat_i, cat_l, cat_r, cat_n]) (by decide) (by assumption) (by assumption) (fun g hh => ?_)
          refine r_pc 46 rfl ?_
          refine e_iconst dX4_writePlain_46 ?_
          have hok : wpO σ k h n := ⟨hfx, Or.inr h24⟩
          have eM : wpM σ k h n v = putM σ k n 1 v (-1) (-1) 0 := by rw [wpM, cI_t hok, cI_f h17]
          exact r_zret dX4_writePlain_47 rfl (narrow_01 (by omega)) ⟨A', _, L, Sc', hh, by rw [bI_t hok], hA, hco, by rw [eM]; exact hag, hle⟩
        · refine r_pc 27 rfl ?_
          refine e_iconst dX4_writePlain_27 ?_
          have hok : ¬ wpO σ k h n := fun q => q.2.elim h17 h24
          exact r_zret dX4_writePlain_28 rfl (narrow_01 (by omega)) (by rw [bI_f hok]; exact sq_id hc hh (cI_f hok))
    · refine r_pc 13 rfl ?_
      refine e_iconst dX4_writePlain_13 ?_
      have hok : ¬ wpO σ k h n := fun q => q.1 ⟨h1, h10⟩
      exact r_zret dX4_writePlain_14 rfl (narrow_01 (by omega)) (by rw [bI_f hok]; exact sq_id hc hh (cI_f hok))
theorem s_write {κ : KK} {A : Nat → Int → Nat} {σ : ST} {g : GG} {L Sc : Int → List Int} {T : Int} {k n0 v0 : Int} (hc : CO σ L Sc T) (hk : Lv σ 3 k) (hn : 0 ≤ n0 ∧ n0 < 12) (hv : VAL σ v0) (hh : HR κ A g σ) : Spec κ MX4_write 6 1 6 [vr A 4 0, .int (iI k), .int (iI n0), .int (iI v0)] g (SQ κ A σ T (wrM σ (lo L k) k 6 n0 v0) (some (.int (iI (bI (wrO σ (lo L k) k 6 n0 v0)))))) := by
  have hT := hc.wt
  have hL := hc.wl
  have hS := hc.ws
  have hP := hc.wp
  have hF' := hc.wf
  have hV := hc.wv
  have hkd := kd3 hk
  have hz := wt_sz hT hk
  have h32 := ((hF' k hk).2.1 n0 hn).1
  have loop : ∀ (m s : Nat) (n v : Int), s + m = 6 → (0 ≤ n ∧ n < 12) → (-1000 ≤ v ∧ v ≤ 2000) → ∀ g, HR κ A g σ → Wp κ MX4_write 6 1 6 25 [(0, vr A 4 0), (4, vr A 3 k), (5, .int (iI n)), (6, .int (iI v)), (7, .int (iI (s : Int)))] [] g (SQ κ A σ T (wrM σ (lo L k) k m n v) (some (.int (iI (bI (wrO σ (lo L k) k m n v)))))) := by
    intro m
    induction m with
    | zero =>
      intro s n v hs hn hv g hh
      have hhd := hF_dom hT hL hkd (n := n)
      refine r_iload dX4_write_25 rfl ?_
      refine e_bipush dX4_write_27 (by decide +kernel) ?_
      refine e_ic_gt 109 dX4_write_29 (by decide) ⟨by omega, by omega⟩ ⟨by omega, by omega⟩ (fun h29 => by exfalso; omega) (fun h29 => ?_)
      refine r_pc 32 rfl ?_
      refine r_aloadO dX4_write_32 rfl ?_
      refine r_iload dX4_write_34 rfl ?_
      refine e_callSP (z := MX4_holderOf) dX4_write_36 ml_X4_82 cz_X4_holderOf mk_X4_holderOf (s_holderOf hkd hn hT hL hF') rfl rfl (by simp [cat_rf, cat_i, cat_l, cat_r, cat_n]) (by decide) (by assumption) (fun g hh => ?_)
      refine r_pc 39 rfl ?_
      refine r_astoreO dX4_write_39 (by decide) ?_
      refine r_aloadO dX4_write_41 rfl ?_
      refine e_ifnull 57 dX4_write_43 (by decide) (fun h43 => ?_) (fun h43 => ?_)
      · refine r_pc 57 rfl ?_
        have hwp : ¬ wrP σ (lo L k) n := fun q => by have := q.1; omega
        refine r_aload_nO dX4_write_57 rfl rfl ?_
        refine r_aloadO dX4_write_58 rfl ?_
        refine r_aloadO dX4_write_60 rfl ?_
        refine r_iload dX4_write_62 rfl ?_
        refine r_iload dX4_write_64 rfl ?_
        refine e_callV (z := MX4_writePlain) (kc' := 0) (ks' := 0) dX4_write_66 ml_X4_90 cz_X4_writePlain mk_X4_writePlain ms_X4_writePlain cb4 (by decide) (by rfl) (by rfl) (by simp [cat_rf, cat_i, cat_l, cat_r, cat_n]) (by decide) (by assumption) (lv1 _ 4 (fun _ => rfl)) (s_writePlain hc hk hhd hn hv hwp hh) (by decide) (by decide) (fun w g hq => ?_)
        obtain ⟨A', σ', L', Sc', hh, rfl, hA, hco, hag, hle⟩ := hq
        obtain ⟨eO, eM⟩ := wr_pl (k := k) (v := v) 0 hwp
        refine r_pc 69 rfl ?_
        exact r_zret dX4_write_69 rfl (narrow_01 (bI_01 _)) ⟨A', σ', L', Sc', hh, by rw [bI_eq eO], hA, hco, by rw [eM]; exact hag, hle⟩
      · refine r_pc 46 rfl ?_
        have hhk := hF_lv hT hL hkd h43
        have hV2 := hV _ n hhk hn
        refine r_aloadO dX4_write_46 rfl ?_
        refine r_iload dX4_write_48 rfl ?_
        refine e_iconst dX4_write_50 ?_
        refine e_callVP (z := MX3_is) dX4_write_51 ml_X4_86 cz_X3_is mk_X3_is ms_X3_is cb3 (by decide) (s_is2 hhk hn ((hF' _ hhk).2.1 n hn).1) rfl rfl (by simp [cat_rf, cat_i, cat_l, cat_r, cat_n]) (by decide) (by assumption) (by assumption) (fun g hh => ?_)
        refine r_pc 54 rfl ?_
        refine e_ifne_b 70 dX4_write_54 (by decide) (fun h54 => ?_) (fun h54 => ?_)
        · refine r_pc 70 rfl ?_
          have hwp : wrP σ (lo L k) n := ⟨h43, h54⟩
          refine r_iload dX4_write_70 rfl ?_
          refine r_aloadO dX4_write_72 rfl ?_
          refine e_getF (t := 3) (k := 11) (t1 := 19) dX4_write_74 cb3 (by decide) mf_X4_94 (by rfl) (by rfl) (by decide) (by assumption) (by assumption) ?_
          refine r_iload dX4_write_77 rfl ?_
          refine e_iald (t := 19) dX4_write_79 (by decide) (by decide) (by rfl) (by intro _; rfl) (by assumption) (by first | assumption | exact lv_as 3 (by assumption) (by rfl)) (by have e : ln 19 = 12 := rfl; omega) ?_
          refine e_callSP (z := MX4_raised) dX4_write_80 ml_X4_95 cz_X4_raised mk_X4_raised (s_raised hv hV2.2.2.2.1) rfl rfl (by simp [cat_rf, cat_i, cat_l, cat_r, cat_n]) (by decide) (by assumption) (fun g hh => ?_)
          refine r_pc 83 rfl ?_
          refine r_istore dX4_write_83 (by decide) ?_
          refine r_aloadO dX4_write_85 rfl ?_
          refine e_getF (t := 3) (k := 10) (t1 := 18) dX4_write_87 cb3 (by decide) mf_X4_99 (by rfl) (by rfl) (by decide) (by assumption) (by assumption) ?_
          refine r_iload dX4_write_90 rfl ?_
          refine e_iald (t := 18) dX4_write_92 (by decide) (by decide) (by rfl) (by intro _; rfl) (by assumption) (by first | assumption | exact lv_as 3 (by assumption) (by rfl)) (by have e : ln 18 = 12 := rfl; omega) ?_
          refine r_istore dX4_write_93 (by decide) ?_
          refine r_stw (by repeat' first | exact True.intro | refine And.intro (fun h => by first | rfl | exact cat_rf _ | exact absurd h (by decide)) ?_) ?_
          refine r_iload dX4_write_95 rfl ?_
          refine e_iconst dX4_write_97 ?_
          refine e_ic_ne 103 dX4_write_98 (by decide) ⟨by omega, by omega⟩ ⟨by omega, by omega⟩ (fun h98 => ?_) (fun h98 => ?_)
          · refine r_pc 103 rfl ?_
            refine e_iinc dX4_write_103 rfl (by decide) ?_
            refine r_goto 25 dX4_write_106 (by decide) ?_
            refine r_iload dX4_write_25 rfl ?_
            refine e_bipush dX4_write_27 (by decide +kernel) ?_
            refine e_ic_gt 109 dX4_write_29 (by decide) ⟨by omega, by omega⟩ ⟨by omega, by omega⟩ (fun h29 => ?_) (fun h29 => by exfalso; omega)
            refine r_pc 109 rfl ?_
            refine e_iconst dX4_write_109 ?_
            obtain ⟨eO, eM⟩ := wr_no (k := k) (m := 0) (v := v) hwp (Or.inl rfl)
            exact r_zret dX4_write_110 rfl (narrow_01 (by omega)) (by rw [bI_f eO]; exact sq_id hc hh eM)
          · refine r_pc 101 rfl ?_
            refine e_iconst dX4_write_101 ?_
            obtain ⟨eO, eM⟩ := wr_no (k := k) (m := 0) (v := v) hwp (Or.inr h98)
            exact r_zret dX4_write_102 rfl (narrow_01 (by omega)) (by rw [bI_f eO]; exact sq_id hc hh eM)
        · refine r_pc 57 rfl ?_
          have hwp : ¬ wrP σ (lo L k) n := fun q => h54 q.2
          refine r_aload_nO dX4_write_57 rfl rfl ?_
          refine r_aloadO dX4_write_58 rfl ?_
          refine r_aloadO dX4_write_60 rfl ?_
          refine r_iload dX4_write_62 rfl ?_
          refine r_iload dX4_write_64 rfl ?_
          refine e_callV (z := MX4_writePlain) (kc' := 0) (ks' := 0) dX4_write_66 ml_X4_90 cz_X4_writePlain mk_X4_writePlain ms_X4_writePlain cb4 (by decide) (by rfl) (by rfl) (by simp [cat_rf, cat_i, cat_l, cat_r, cat_n]) (by decide) (by assumption) (lv1 _ 4 (fun _ => rfl)) (s_writePlain hc hk hhd hn hv hwp hh) (by decide) (by decide) (fun w g hq => ?_)
          obtain ⟨A', σ', L', Sc', hh, rfl, hA, hco, hag, hle⟩ := hq
          obtain ⟨eO, eM⟩ := wr_pl (k := k) (v := v) 0 hwp
          refine r_pc 69 rfl ?_
          exact r_zret dX4_write_69 rfl (narrow_01 (bI_01 _)) ⟨A', σ', L', Sc', hh, by rw [bI_eq eO], hA, hco, by rw [eM]; exact hag, hle⟩
    | succ m ih =>
      intro s n v hs hn hv g hh
      have hhd := hF_dom hT hL hkd (n := n)
      refine r_iload dX4_write_25 rfl ?_
      refine e_bipush dX4_write_27 (by decide +kernel) ?_
      refine e_ic_gt 109 dX4_write_29 (by decide) ⟨by omega, by omega⟩ ⟨by omega, by omega⟩ (fun h29 => by exfalso; omega) (fun h29 => ?_)
      refine r_pc 32 rfl ?_
      refine r_aloadO dX4_write_32 rfl ?_
      refine r_iload dX4_write_34 rfl ?_
      refine e_callSP (z := MX4_holderOf) dX4_write_36 ml_X4_82 cz_X4_holderOf mk_X4_holderOf (s_holderOf hkd hn hT hL hF') rfl rfl (by simp [cat_rf, cat_i, cat_l, cat_r, cat_n]) (by decide) (by assumption) (fun g hh => ?_)
      refine r_pc 39 rfl ?_
      refine r_astoreO dX4_write_39 (by decide) ?_
      refine r_aloadO dX4_write_41 rfl ?_
      refine e_ifnull 57 dX4_write_43 (by decide) (fun h43 => ?_) (fun h43 => ?_)
      · refine r_pc 57 rfl ?_
        have hwp : ¬ wrP σ (lo L k) n := fun q => by have := q.1; omega
        refine r_aload_nO dX4_write_57 rfl rfl ?_
        refine r_aloadO dX4_write_58 rfl ?_
        refine r_aloadO dX4_write_60 rfl ?_
        refine r_iload dX4_write_62 rfl ?_
        refine r_iload dX4_write_64 rfl ?_
        refine e_callV (z := MX4_writePlain) (kc' := 0) (ks' := 0) dX4_write_66 ml_X4_90 cz_X4_writePlain mk_X4_writePlain ms_X4_writePlain cb4 (by decide) (by rfl) (by rfl) (by simp [cat_rf, cat_i, cat_l, cat_r, cat_n]) (by decide) (by assumption) (lv1 _ 4 (fun _ => rfl)) (s_writePlain hc hk hhd hn hv hwp hh) (by decide) (by decide) (fun w g hq => ?_)
        obtain ⟨A', σ', L', Sc', hh, rfl, hA, hco, hag, hle⟩ := hq
        obtain ⟨eO, eM⟩ := wr_pl (k := k) (v := v) (m + 1) hwp
        refine r_pc 69 rfl ?_
        exact r_zret dX4_write_69 rfl (narrow_01 (bI_01 _)) ⟨A', σ', L', Sc', hh, by rw [bI_eq eO], hA, hco, by rw [eM]; exact hag, hle⟩
      · refine r_pc 46 rfl ?_
        have hhk := hF_lv hT hL hkd h43
        have hV2 := hV _ n hhk hn
        refine r_aloadO dX4_write_46 rfl ?_
        refine r_iload dX4_write_48 rfl ?_
        refine e_iconst dX4_write_50 ?_
        refine e_callVP (z := MX3_is) dX4_write_51 ml_X4_86 cz_X3_is mk_X3_is ms_X3_is cb3 (by decide) (s_is2 hhk hn ((hF' _ hhk).2.1 n hn).1) rfl rfl (by simp [cat_rf, cat_i, cat_l, cat_r, cat_n]) (by decide) (by assumption) (by assumption) (fun g hh => ?_)
        refine r_pc 54 rfl ?_
        refine e_ifne_b 70 dX4_write_54 (by decide) (fun h54 => ?_) (fun h54 => ?_)
        · refine r_pc 70 rfl ?_
          have hwp : wrP σ (lo L k) n := ⟨h43, h54⟩
          refine r_iload dX4_write_70 rfl ?_
          refine r_aloadO dX4_write_72 rfl ?_
          refine e_getF (t := 3) (k := 11) (t1 := 19) dX4_write_74 cb3 (by decide) mf_X4_94 (by rfl) (by rfl) (by decide) (by assumption) (by assumption) ?_
          refine r_iload dX4_write_77 rfl ?_
          refine e_iald (t := 19) dX4_write_79 (by decide) (by decide) (by rfl) (by intro _; rfl) (by assumption) (by first | assumption | exact lv_as 3 (by assumption) (by rfl)) (by have e : ln 19 = 12 := rfl; omega) ?_
          refine e_callSP (z := MX4_raised) dX4_write_80 ml_X4_95 cz_X4_raised mk_X4_raised (s_raised hv hV2.2.2.2.1) rfl rfl (by simp [cat_rf, cat_i, cat_l, cat_r, cat_n]) (by decide) (by assumption) (fun g hh => ?_)
          refine r_pc 83 rfl ?_
          refine r_istore dX4_write_83 (by decide) ?_
          refine r_aloadO dX4_write_85 rfl ?_
          refine e_getF (t := 3) (k := 10) (t1 := 18) dX4_write_87 cb3 (by decide) mf_X4_99 (by rfl) (by rfl) (by decide) (by assumption) (by assumption) ?_
          refine r_iload dX4_write_90 rfl ?_
          refine e_iald (t := 18) dX4_write_92 (by decide) (by decide) (by rfl) (by intro _; rfl) (by assumption) (by first | assumption | exact lv_as 3 (by assumption) (by rfl)) (by have e : ln 18 = 12 := rfl; omega) ?_
          refine r_istore dX4_write_93 (by decide) ?_
          refine r_stw (by repeat' first | exact True.intro | refine And.intro (fun h => by first | rfl | exact cat_rf _ | exact absurd h (by decide)) ?_) ?_
          refine r_iload dX4_write_95 rfl ?_
          refine e_iconst dX4_write_97 ?_
          refine e_ic_ne 103 dX4_write_98 (by decide) ⟨by omega, by omega⟩ ⟨by omega, by omega⟩ (fun h98 => ?_) (fun h98 => ?_)
          · refine r_pc 103 rfl ?_
            refine e_iinc dX4_write_103 rfl (by decide) ?_
            refine r_goto 25 dX4_write_106 (by decide) ?_
            refine r_lv [(0, vr A 4 0), (4, vr A 3 k), (5, .int (iI (σ 18 (hF σ n (lo L k)) n))), (6, .int (iI (raI v (σ 19 (hF σ n (lo L k)) n)))), (7, .int (iI ((s : Int) + 1)))] rfl ?_
            obtain ⟨eO, eM⟩ := wr_on (k := k) (m := m) (v := v) hwp h98
            rw [eM, bI_eq eO, show (s : Int) + 1 = ((s + 1 : Nat) : Int) by omega]
            exact ih (s + 1) _ _ (by omega) (by omega) (raI_r hv) g hh
          · refine r_pc 101 rfl ?_
            refine e_iconst dX4_write_101 ?_
            obtain ⟨eO, eM⟩ := wr_no (k := k) (m := (m + 1)) (v := v) hwp (Or.inr h98)
            exact r_zret dX4_write_102 rfl (narrow_01 (by omega)) (by rw [bI_f eO]; exact sq_id hc hh eM)
        · refine r_pc 57 rfl ?_
          have hwp : ¬ wrP σ (lo L k) n := fun q => h54 q.2
          refine r_aload_nO dX4_write_57 rfl rfl ?_
          refine r_aloadO dX4_write_58 rfl ?_
          refine r_aloadO dX4_write_60 rfl ?_
          refine r_iload dX4_write_62 rfl ?_
          refine r_iload dX4_write_64 rfl ?_
          refine e_callV (z := MX4_writePlain) (kc' := 0) (ks' := 0) dX4_write_66 ml_X4_90 cz_X4_writePlain mk_X4_writePlain ms_X4_writePlain cb4 (by decide) (by rfl) (by rfl) (by simp [cat_rf, cat_i, cat_l, cat_r, cat_n]) (by decide) (by assumption) (lv1 _ 4 (fun _ => rfl)) (s_writePlain hc hk hhd hn hv hwp hh) (by decide) (by decide) (fun w g hq => ?_)
          obtain ⟨A', σ', L', Sc', hh, rfl, hA, hco, hag, hle⟩ := hq
          obtain ⟨eO, eM⟩ := wr_pl (k := k) (v := v) (m + 1) hwp
          refine r_pc 69 rfl ?_
          exact r_zret dX4_write_69 rfl (narrow_01 (bI_01 _)) ⟨A', σ', L', Sc', hh, by rw [bI_eq eO], hA, hco, by rw [eM]; exact hag, hle⟩
  refine e_start rfl (by show (lg_sl _).length ≤ 9; simp [lg_sl, cat_rf, cat_i, cat_l, cat_r, cat_n]) (lv := [(0, vr A 4 0), (1, .int (iI k)), (2, .int (iI n0)), (3, .int (iI v0))]) (by simp [lv_args, cat_rf, cat_i, cat_l, cat_r, cat_n]) ?_
  refine r_aload_nO dX4_write_0 rfl rfl ?_
  refine r_iload_n dX4_write_1 rfl rfl ?_
  refine e_callVP (z := MX4_thingAt) dX4_write_2 ml_X4_69 cz_X4_thingAt mk_X4_thingAt ms_X4_thingAt cb4 (by decide) (s_thingAt hk hT) rfl rfl (by simp [cat_rf, cat_i, cat_l, cat_r, cat_n]) (by decide) (by assumption) (lv1 _ 4 (fun _ => rfl)) (fun g hh => ?_)
  refine r_pc 5 rfl ?_
  refine r_astoreO dX4_write_5 (by decide) ?_
  refine r_iload_n dX4_write_7 rfl rfl ?_
  refine e_callSV (z := MX4_needName) dX4_write_8 ml_X4_72 cz_X4_needName mk_X4_needName (s_needName hn) rfl rfl (by simp [cat_rf, cat_i, cat_l, cat_r, cat_n]) (by decide) (by assumption) (fun g hh => ?_)
  refine r_pc 11 rfl ?_
  refine r_aload_nO dX4_write_11 rfl rfl ?_
  refine r_iload_n dX4_write_12 rfl rfl ?_
  refine e_callVV (z := MX4_needValue) dX4_write_13 ml_X4_79 cz_X4_needValue mk_X4_needValue ms_X4_needValue cb4 (by decide) (s_needValue hv hT) rfl rfl (by simp [cat_rf, cat_i, cat_l, cat_r, cat_n]) (by decide) (by assumption) (lv1 _ 4 (fun _ => rfl)) (fun g hh => ?_)
  refine r_pc 16 rfl ?_
  refine r_iload_n dX4_write_16 rfl rfl ?_
  refine r_istore dX4_write_17 (by decide) ?_
  refine r_stw (by repeat' first | exact True.intro | refine And.intro (fun h => by first | rfl | exact cat_rf _ | exact absurd h (by decide)) ?_) ?_
  refine r_iload_n dX4_write_19 rfl rfl ?_
  refine r_istore dX4_write_20 (by decide) ?_
  refine e_iconst dX4_write_22 ?_
  refine r_istore dX4_write_23 (by decide) ?_
  refine r_lv [(0, vr A 4 0), (4, vr A 3 k), (5, .int (iI n0)), (6, .int (iI v0)), (7, .int (iI 0))] rfl ?_
  unfold VAL at hv
  have hN := hT.2.1
  exact loop 6 0 n0 v0 rfl hn (by omega) g hh
