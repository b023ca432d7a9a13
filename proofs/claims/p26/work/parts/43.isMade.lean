/-! court and own side by side -/
def VE (τ σ : ST) : Prop := (∀ t r c, vt t = true → vo t = false → σ t r c = τ t r c) ∧ (∀ k c, c ≠ 2 → c ≠ 4 → σ 3 k c = τ 3 k c) ∧ σ 99 3 0 = τ 99 3 0
theorem VE.rf' (σ : ST) : VE σ σ := ⟨fun _ _ _ _ _ => rfl, fun _ _ _ _ => rfl, rfl⟩
theorem VE.tr {σ σ1 σ2 : ST} (h : VE σ σ1) (k : VE σ1 σ2) : VE σ σ2 := ⟨fun t r c a b => (k.1 t r c a b).trans (h.1 t r c a b), fun q c a b => (k.2.1 q c a b).trans (h.2.1 q c a b), k.2.2.trans h.2.2⟩
theorem AgV.ve {τ σ : ST} (h : AgV τ σ) : VE τ σ := ⟨fun t r c a _ => h.1 t r c a, h.2.1, h.2.2.1⟩
theorem OF.ve {σ σ' : ST} (h : OF σ σ') : VE σ σ' := ⟨fun t r c a b => h.1 t r c b (by rintro rfl; cases a), fun k c _ _ => h.1 3 k c rfl (by decide), h.2.2⟩
theorem VE.up {τ σ : ST} (h : VE τ σ) (t : Nat) (r c v : Int) (ht : t ≠ 99) : VE (up τ t r c v) (up σ t r c v) := by
  refine ⟨fun t' r' c' a b => ?_, fun q c' a b => ?_, ?_⟩
  · by_cases z : t' = t ∧ r' = r ∧ c' = c
    · rw [z.1, z.2.1, z.2.2, up_at, up_at]
    · rw [up_ne z, up_ne z]
      exact h.1 t' r' c' a b
  · by_cases z : 3 = t ∧ q = r ∧ c' = c
    · rw [z.1, z.2.1, z.2.2, up_at, up_at]
    · rw [up_ne z, up_ne z]
      exact h.2.1 q c' a b
  · rw [up_ne (fun z => ht z.1.symm), up_ne (fun z => ht z.1.symm)]
    exact h.2.2
theorem VE.at15 {τ σ : ST} (h : VE τ σ) (k n : Int) : σ 15 k n = τ 15 k n := h.1 15 k n rfl rfl
theorem VE.putT {τ σ : ST} (h : VE τ σ) (k n t : Int) : VE (putT τ k n t) (putT σ k n t) := by
  by_cases z : τ 15 k n = 0
  · rw [putT_c z, putT_c ((h.at15 k n).trans z)]
    unfold apS
    rw [h.2.1 k 5 (by decide) (by decide)]
    exact ((h.up 14 k _ n (by decide)).up 3 k 5 _ (by decide)).up 15 k n t (by decide)
  · rw [putT_h z, putT_h (by rw [h.at15]; exact z)]
    exact h.up 15 k n t (by decide)
theorem VE.fil {τ σ : ST} (h : VE τ σ) (k n a b c d : Int) : VE (fil τ k n a b c d) (fil σ k n a b c d) := (((h.up 16 k n a (by decide)).up 17 k n b (by decide)).up 18 k n c (by decide)).up 19 k n d (by decide)
theorem VE.putM {τ σ : ST} (h : VE τ σ) (k n t a b c d : Int) : VE (putM τ k n t a b c d) (putM σ k n t a b c d) := (h.putT k n t).fil k n a b c d
theorem OWN.ve {τ τ' σ : ST} (h : OWN τ σ) (ha : VE τ τ') : OWN τ' σ := by
  have e3 : ∀ k c, c ≠ 2 → c ≠ 4 → τ' 3 k c = τ 3 k c := ha.2.1
  have l3 : ∀ r, Lv τ' 3 r ↔ Lv τ 3 r := fun r => by unfold Lv; rw [show cnt τ' 3 = τ' 99 3 0 from rfl, ha.2.2]; exact Iff.rfl
  refine ⟨by rw [ha.2.2]; exact h.1, fun k hk => ?_, fun k j hk hj => ?_, fun k j k' j' hk hj hk' hj' => ?_, fun k hk => ?_, h.2.2.2.2.2⟩
  · rw [e3 k 1 (by decide) (by decide), e3 k 5 (by decide) (by decide), e3 k 3 (by decide) (by decide)]
    exact h.2.1 k ((l3 k).mp hk)
  · rw [e3 k 5 (by decide) (by decide)] at hj
    have w := h.2.2.1 k j ((l3 k).mp hk) hj
    unfold OR at w ⊢
    rw [ha.1 14 k j rfl rfl, ha.1 15 k _ rfl rfl, ha.1 16 k _ rfl rfl, ha.1 17 k _ rfl rfl, ha.1 18 k _ rfl rfl, ha.1 19 k _ rfl rfl]
    exact w
  · rw [e3 k 5 (by decide) (by decide)] at hj
    rw [e3 k' 5 (by decide) (by decide)] at hj'
    exact h.2.2.2.1 k j k' j' ((l3 k).mp hk) hj ((l3 k').mp hk') hj'
  · rw [ha.2.2] at hk
    exact h.2.2.2.2.1 k hk
/-- what a change of the court's side leaves of own's -/
def CF (σ σ' : ST) : Prop := (∀ t r c, vo t = true → σ' t r c = σ t r c) ∧ σ' 99 25 0 = σ 99 25 0
theorem CF.rf' (σ : ST) : CF σ σ := ⟨fun _ _ _ _ => rfl, rfl⟩
theorem CF.tr {σ σ1 σ2 : ST} (h : CF σ σ1) (k : CF σ1 σ2) : CF σ σ2 := ⟨fun t r c a => (k.1 t r c a).trans (h.1 t r c a), k.2.trans h.2⟩
theorem CF.u {σ σ1 : ST} (h : CF σ σ1) (t : Nat) (r c v : Int) (ht : vo t = false) (h9 : t ≠ 99) : CF σ (up σ1 t r c v) := by
  refine ⟨fun t' r' c' a => ?_, ?_⟩
  · rw [up_ne (by rintro ⟨rfl, -⟩; rw [ht] at a; cases a)]
    exact h.1 t' r' c' a
  · rw [up_ne (fun z => h9 z.1.symm)]
    exact h.2
theorem AgV.cf {τ σ : ST} (h : AgV τ σ) : CF τ σ := ⟨fun t r c a => h.1 t r c (vt_of a), h.2.2.2⟩
theorem cf_fil {σ σ1 : ST} (h : CF σ σ1) (k n a b c d : Int) : CF σ (fil σ1 k n a b c d) := (((h.u 16 k n a rfl (by decide)).u 17 k n b rfl (by decide)).u 18 k n c rfl (by decide)).u 19 k n d rfl (by decide)
theorem cf_putM (σ : ST) (k n t a b c d : Int) : CF σ (putM σ k n t a b c d) := by
  refine cf_fil ?_ k n a b c d
  by_cases z : σ 15 k n = 0
  · rw [putT_c z]
    exact ((((CF.rf' σ).u 14 k _ n rfl (by decide)).u 3 k 5 _ rfl (by decide)).u 15 k n t rfl (by decide))
  · rw [putT_h z]
    exact (CF.rf' σ).u 15 k n t rfl (by decide)
theorem cf_wpM (σ : ST) (k h n v : Int) : CF σ (wpM σ k h n v) := by
  by_cases z : wpO σ k h n
  · by_cases y : h = k
    · rw [wpM, cI_t z, cI_t y]
      exact cf_fil (CF.rf' σ) k n _ _ _ _
    · rw [wpM_new z y]
      exact cf_putM σ k n _ _ _ _ _
  · rw [wpM_no z]
    exact CF.rf' σ
theorem cf_wrM (σ : ST) (l : List Int) (k : Int) : ∀ (m : Nat) (n v : Int), CF σ (wrM σ l k m n v) := by
  intro m
  induction m with
  | zero =>
    intro n v
    by_cases z : wrP σ l n
    · rw [(wr_no (k := k) (m := 0) (v := v) z (Or.inl rfl)).2]
      exact CF.rf' σ
    · rw [(wr_pl (k := k) (v := v) 0 z).2]
      exact cf_wpM σ k _ n v
  | succ m ih =>
    intro n v
    by_cases z : wrP σ l n
    · by_cases y : σ 18 (hF σ n l) n = -1
      · rw [(wr_no (k := k) (m := m + 1) (v := v) z (Or.inr y)).2]
        exact CF.rf' σ
      · rw [(wr_on (k := k) (m := m) (v := v) z y).2]
        exact ih _ _
    · rw [(wr_pl (k := k) (v := v) (m + 1) z).2]
      exact cf_wpM σ k _ n v
theorem OWN.cf {τ σ σ' : ST} (h : OWN τ σ) (hc : CF σ σ') : OWN τ σ' := h.sg hc.1 hc.2
/-! the sum of all sizes -/
def SZS (σ : ST) : Int := sumI (fun k => σ 3 k 5) (σ 99 3 0).toNat
def SD (σ σ' : ST) : Prop := -1 ≤ SZS σ' - SZS σ ∧ SZS σ' - SZS σ ≤ 1 ∧ σ 99 3 0 ≤ σ' 99 3 0
theorem SD.rf' (σ : ST) : SD σ σ := by unfold SD; omega
theorem szs_ve {τ σ : ST} (h : VE τ σ) : SZS σ = SZS τ := by
  unfold SZS
  rw [h.2.2]
  exact sumI_congr _ fun j _ => h.2.1 j 5 (by decide) (by decide)
theorem SD.ve {σ τ σ' : ST} (h : SD σ τ) (k : VE τ σ') : SD σ σ' := by
  unfold SD at *
  rw [szs_ve k, k.2.2]
  exact h
theorem SD.of {σ σ' : ST} {k : Int} (h3 : σ' 99 3 0 = σ 99 3 0) (ho : ∀ j, j ≠ k → σ' 3 j 5 = σ 3 j 5) (hd : -1 ≤ σ' 3 k 5 - σ 3 k 5 ∧ σ' 3 k 5 - σ 3 k 5 ≤ 1) : SD σ σ' := by
  unfold SD SZS
  rw [h3, sumI_one (F := fun k => σ 3 k 5) (F' := fun k => σ' 3 k 5) (p := k) _ ho]
  split <;> omega
theorem sd_putM (σ : ST) (k n t a b c d : Int) : SD σ (putM σ k n t a b c d) := by
  by_cases z : σ 15 k n = 0
  · refine SD.of (k := k) putM_N (fun j hj => ?_) ?_
    · rw [putM_3c z, if_neg (fun y => hj y.2)]
    · rw [putM_3c z, if_pos ⟨rfl, rfl⟩]
      omega
  · refine SD.of (k := k) putM_N (fun j hj => putM_3h z j 5) ?_
    rw [putM_3h z]
    omega
theorem sd_wpM (σ : ST) (k h n v : Int) : SD σ (wpM σ k h n v) := by
  by_cases z : wpO σ k h n
  · by_cases y : h = k
    · rw [wpM, cI_t z, cI_t y]
      exact SD.rf' σ
    · rw [wpM_new z y]
      exact sd_putM σ k n _ _ _ _ _
  · rw [wpM_no z]
    exact SD.rf' σ
theorem sd_wrM (σ : ST) (l : List Int) (k : Int) : ∀ (m : Nat) (n v : Int), SD σ (wrM σ l k m n v) := by
  intro m
  induction m with
  | zero =>
    intro n v
    by_cases z : wrP σ l n
    · rw [(wr_no (k := k) (m := 0) (v := v) z (Or.inl rfl)).2]
      exact SD.rf' σ
    · rw [(wr_pl (k := k) (v := v) 0 z).2]
      exact sd_wpM σ k _ n v
  | succ m ih =>
    intro n v
    by_cases z : wrP σ l n
    · by_cases y : σ 18 (hF σ n l) n = -1
      · rw [(wr_no (k := k) (m := m + 1) (v := v) z (Or.inr y)).2]
        exact SD.rf' σ
      · rw [(wr_on (k := k) (m := m) (v := v) z y).2]
        exact ih _ _
    · rw [(wr_pl (k := k) (v := v) (m + 1) z).2]
      exact sd_wpM σ k _ n v
theorem sd_cI {σ a b : ST} {p : Prop} (h1 : SD σ a) (h2 : SD σ b) : SD σ (cI p a b) := by
  by_cases h : p
  · rw [cI_t h]; exact h1
  · rw [cI_f h]; exact h2
theorem cf_cI {σ a b : ST} {p : Prop} (h1 : CF σ a) (h2 : CF σ b) : CF σ (cI p a b) := by
  by_cases h : p
  · rw [cI_t h]; exact h1
  · rw [cI_f h]; exact h2
theorem cf_tkF (σ : ST) (k q n : Int) : CF σ (tkF σ k q n) := by
  refine ⟨fun t r c ht => tk_rx σ k q n t r c ?_, tk_rx σ k q n _ _ _ (by omega)⟩
  have e : ¬ (14 ≤ t ∧ t ≤ 19) ∧ t ≠ 3 := by
    unfold vo at ht
    split at ht <;> first | omega | cases ht
  omega
theorem cf_frM (σ : ST) (k m : Int) : CF σ (frM σ k m) := by
  refine ⟨fun t r c ht => if_neg ?_, if_neg (by omega)⟩
  rintro ⟨rfl, -⟩
  cases ht
theorem sd_frM (σ : ST) (k m : Int) : SD σ (frM σ k m) := by
  have e : ∀ j, frM σ k m 3 j 5 = σ 3 j 5 := fun j => if_neg (by omega)
  refine SD.of (k := 0) (if_neg (by omega)) (fun j _ => e j) ?_
  rw [e]
  omega
theorem sd_u3 (σ : ST) (k c v : Int) (hc : c ≠ 5) : SD σ (up σ 3 k c v) := by
  have e : ∀ j, up σ 3 k c v 3 j 5 = σ 3 j 5 := fun j => up_ne (fun y => hc y.2.2.symm)
  refine SD.of (k := 0) (up_ne (by omega)) (fun j _ => e j) ?_
  rw [e]
  omega
theorem SD.tr0 {σ σ1 σ2 : ST} (h : SD σ σ1) (k : SD σ1 σ2) (e : SZS σ1 = SZS σ) : SD σ σ2 := by
  unfold SD at *
  omega
theorem sd_tkF (σ : ST) (k q n : Int) : SD σ (tkF σ k q n) := by
  refine SD.of (k := k) (tk_rx σ k q n _ _ _ (by omega)) (fun j hj => tk_rx σ k q n _ _ _ (by omega)) ?_
  rw [tk_5]
  omega
/-- the law's step: court and own are right again, and it answers 1 -/
def LQ (κ : KK) (A : Nat → Int → Nat) (σ : ST) (T : Int) : Option Value → GG → Prop := fun w h => ∃ (A' : Nat → Int → Nat) (σ' : ST) (L' Sc' : Int → List Int), HR κ A' h σ' ∧ w = some (.int (iI 1)) ∧ (A' 4 = A 4 ∧ A' 5 = A 5) ∧ CO σ' L' Sc' T ∧ OWN σ' σ' ∧ σ 99 1 0 ≤ σ' 99 1 0 ∧ SD σ σ' ∧ σ 99 3 0 ≤ σ' 99 3 0
theorem lq_end {κ : KK} {A A' : Nat → Int → Nat} {σ σ' τ : ST} {L' Sc' : Int → List Int} {T : Int} {h : GG} (hh : HR κ A' h σ') (hA : A' 4 = A 4 ∧ A' 5 = A 5) (hco : CO σ' L' Sc' T) (hO : OWN τ σ') (hv : VE τ σ') (hle : σ 99 1 0 ≤ σ' 99 1 0) (hs : SD σ τ) : LQ κ A σ T (some (.int (iI 1))) h :=
  ⟨A', σ', L', Sc', hh, rfl, hA, hco, hO.ve hv, hle, hs.ve hv, by rw [hv.2.2]; exact hs.2.2⟩
theorem own_mk {σ σa σ' : ST} {q : Int} (hO : OWN σ σ) (h0 : 0 ≤ σ 99 3 0) (h24 : σ 99 3 0 < 24) (ha : σa = up (up σ 20 0 (σ 99 3 0) q) 5 0 4 (σ 99 3 0 + 1)) (hm : MK σa σ' q) : OWN σ' σ' ∧ SD σ σ' ∧ σ 99 3 0 ≤ σ' 99 3 0 := by
  obtain ⟨⟨c3, c25⟩, mo', m3, ⟨n1, n3, n5⟩, mt, hle⟩ := hm
  have eN : σa 99 3 0 = σ 99 3 0 := by rw [ha]; rfl
  have e25 : σa 99 25 0 = σ 99 25 0 := by rw [ha]; rfl
  rw [eN] at c3 m3 n1 n3 n5 mt
  have ao : ∀ t r c, t ≠ 20 → t ≠ 5 → σa t r c = σ t r c := fun t r c a b => by rw [ha, up_ne (fun y => b y.1), up_ne (fun y => a y.1)]
  have a20 : ∀ k, k ≠ σ 99 3 0 → σa 20 0 k = σ 20 0 k := fun k hk => by rw [ha, up_ne (by omega), up_ne (fun y => hk y.2.2)]
  have a20n : σa 20 0 (σ 99 3 0) = q := by rw [ha, up_ne (by omega), up_at]
  have a5 : σa 5 0 4 = σ 99 3 0 + 1 := by rw [ha, up_at]
  have l3 : ∀ r, Lv σ' 3 r → Lv σ 3 r ∨ r = σ 99 3 0 := fun r hr => by
    have a := hr.1
    have b : r < σ' 99 3 0 := hr.2
    by_cases z : r = σ 99 3 0
    · exact Or.inr z
    · exact Or.inl ⟨a, by show r < σ 99 3 0; omega⟩
  have ne : ∀ r, Lv σ 3 r → r ≠ σ 99 3 0 := fun r hr => by have : r < σ 99 3 0 := hr.2; omega
  have f3 : ∀ k c, k ≠ σ 99 3 0 → c ≠ 2 → c ≠ 4 → σ' 3 k c = σ 3 k c := fun k c a b d => (m3 k c a b d).trans (ao 3 k c (by decide) (by decide))
  have ft : ∀ t k c, 14 ≤ t → t ≤ 19 → k ≠ σ 99 3 0 → σ' t k c = σ t k c := fun t k c a b d => (mt t k c a b d).trans (ao t k c (by omega) (by omega))
  have fo : ∀ t r c, vo t = true → t ≠ 20 → t ≠ 5 → σ' t r c = σ t r c := fun t r c a b d => (mo' t r c a).trans (ao t r c b d)
  refine ⟨⟨by rw [mo' 5 0 4 rfl, a5, c3], fun k hk => ?_, fun k j hk hj => ?_, fun k j k' j' hk hj hk' hj' => ?_, fun k hk hk2 => ?_, by rw [c25, e25]; exact hO.2.2.2.2.2⟩, ?_, by omega⟩
  · rw [mo' 20 0 k rfl, fo 23 0 k rfl (by decide) (by decide), fo 24 0 k rfl (by decide) (by decide)]
    rcases l3 k hk with hk' | rfl
    · have hn := ne k hk'
      rw [a20 k hn, f3 k 1 hn (by decide) (by decide), f3 k 5 hn (by decide) (by decide), f3 k 3 hn (by decide) (by decide)]
      exact hO.2.1 k hk'
    · have w := hO.2.2.2.2.1 _ (Int.le_refl _) h24
      rw [a20n, n1, n3, n5]
      exact ⟨rfl, w⟩
  · rcases l3 k hk with hk' | rfl
    · have hn := ne k hk'
      rw [f3 k 5 hn (by decide) (by decide)] at hj
      have w := hO.2.2.1 k j hk' hj
      unfold OR at w ⊢
      rw [fo 22 k j rfl (by decide) (by decide), ft 14 k j (by decide) (by decide) hn, ft 15 k _ (by decide) (by decide) hn, ft 16 k _ (by decide) (by decide) hn, ft 17 k _ (by decide) (by decide) hn, ft 18 k _ (by decide) (by decide) hn, ft 19 k _ (by decide) (by decide) hn]
      refine ⟨⟨w.1.1, ?_⟩, rw_at w.2 fun c => fo 25 _ c rfl (by decide) (by decide)⟩
      show _ < σ' 99 25 0
      rw [c25, e25]
      exact w.1.2
    · rw [n5] at hj
      omega
  · rcases l3 k hk with hk1 | rfl
    · rcases l3 k' hk' with hk2 | rfl
      · rw [f3 k 5 (ne k hk1) (by decide) (by decide)] at hj
        rw [f3 k' 5 (ne k' hk2) (by decide) (by decide)] at hj'
        rw [fo 22 k j rfl (by decide) (by decide), fo 22 k' j' rfl (by decide) (by decide)]
        exact hO.2.2.2.1 k j k' j' hk1 hj hk2 hj'
      · rw [n5] at hj'
        omega
    · rw [n5] at hj
      omega
  · rw [fo 23 0 k rfl (by decide) (by decide), fo 24 0 k rfl (by decide) (by decide)]
    exact hO.2.2.2.2.1 k (by omega) hk2
  · unfold SD SZS
    rw [c3, show (σ 99 3 0 + 1).toNat = (σ 99 3 0).toNat + 1 by omega, sumI, sumI_congr (F := fun k => σ' 3 k 5) (G := fun k => σ 3 k 5) _ (fun j hj => f3 j 5 (by omega) (by decide) (by decide)), Int.toNat_of_nonneg h0, n5]
    omega
theorem s_isMade {κ : KK} {A : Nat → Int → Nat} {σ : ST} {g : GG} {L Sc : Int → List Int} {T : Int} {q : Int} (hc : CO σ L Sc T) (hO : OWN σ σ) (hq : -1 ≤ q ∧ q < σ 99 3 0) (hh : HR κ A g σ) : Spec κ MX5_isMade 5 8 90 [vr A 5 0, vr A 4 0, .int (iI q)] g (fun w h => ∃ (A' : Nat → Int → Nat) (σ' : ST) (L' Sc' : Int → List Int), HR κ A' h σ' ∧ w = some (.int (iI 1)) ∧ (A' 4 = A 4 ∧ A' 5 = A 5) ∧ CO σ' L' Sc' T ∧ OWN σ' σ' ∧ σ 99 1 0 ≤ σ' 99 1 0 ∧ SD σ σ' ∧ σ 99 3 0 ≤ σ' 99 3 0 ∧ (σ 99 3 0 < 24 → σ' 99 3 0 = σ 99 3 0 + 1)) := by
  have hT := hc.wt
  have hN := hT.2.1
  have h5 := hO.1
  have hN0 := hN.1
  refine e_start rfl (by show (lg_sl _).length ≤ 3; simp [lg_sl, cat_rf, cat_i, cat_l, cat_r, cat_n]) (lv := [(0, vr A 5 0), (1, vr A 4 0), (2, .int (iI q))]) (by simp [lv_args, cat_rf, cat_i, cat_l, cat_r, cat_n]) ?_
  refine r_aload_nO dX5_isMade_0 rfl rfl ?_
  refine e_getI (t := 5) (k := 4) 4 dX5_isMade_1 cb5 (by decide) mf_X5_25 (by rfl) rfl (by assumption) (lv1 _ 5 (fun _ => rfl)) ?_
  refine e_iv h5 ?_
  refine e_bipush dX5_isMade_4 (by decide +kernel) ?_
  refine e_ic_ne 11 dX5_isMade_6 (by decide) ⟨by omega, by omega⟩ ⟨by omega, by omega⟩ (fun h6 => ?_) (fun h6 => ?_)
  · refine r_pc 11 rfl ?_
    refine r_aload_nO dX5_isMade_11 rfl rfl ?_
    refine e_getF (t := 5) (k := 0) (t1 := 20) dX5_isMade_12 cb5 (by decide) mf_X5_7 (by rfl) (by rfl) (by decide) (by assumption) (lv1 _ 5 (fun _ => rfl)) ?_
    refine r_aload_nO dX5_isMade_15 rfl rfl ?_
    refine e_getI (t := 5) (k := 4) 4 dX5_isMade_16 cb5 (by decide) mf_X5_25 (by rfl) rfl (by assumption) (lv1 _ 5 (fun _ => rfl)) ?_
    refine e_iv h5 ?_
    refine r_iload_n dX5_isMade_19 rfl rfl ?_
    refine e_iast (t := 20) dX5_isMade_20 (by decide) (by decide) (by rfl) (by intro _; rfl) (by assumption) (lv1 _ 20 (fun _ => rfl)) (by have e : ln 20 = 24 := rfl; omega) (fun g hh => ?_)
    refine r_aload_nO dX5_isMade_21 rfl rfl ?_
    refine r_dup dX5_isMade_22 (by first | rfl | exact cat_rf _) ?_
    refine e_getI (t := 5) (k := 4) 4 dX5_isMade_23 cb5 (by decide) mf_X5_25 (by rfl) rfl (by assumption) (lv1 _ 5 (fun _ => rfl)) ?_
    refine e_iv (show _ = σ 99 3 0 from h5) ?_
    refine e_iconst dX5_isMade_26 ?_
    first | refine e_iadd dX5_isMade_27 ?_ | refine r_iadd dX5_isMade_27 ?_
    refine e_putI (t := 5) (k := 4) 4 dX5_isMade_28 cb5 (by decide) mf_X5_25 (by rfl) (by rfl) (by rfl) (by rfl) (by rfl) rfl (by assumption) (lv1 _ 5 (fun _ => rfl)) (fun g hh => ?_)
    have hca : CO (up (up σ 20 0 (σ 99 3 0) q) 5 0 4 (σ 99 3 0 + 1)) L Sc T := hc.of (((OF.rf' σ).u 20 0 _ q rfl).u 5 0 4 _ rfl)
    refine r_aload_nO dX5_isMade_31 rfl rfl ?_
    refine r_iload_n dX5_isMade_32 rfl rfl ?_
    refine e_callV (z := MX4_make) (kc' := 0) (ks' := 0) dX5_isMade_33 ml_X5_29 cz_X4_make mk_X4_make ms_X4_make cb4 (by decide) (by rfl) (by rfl) (by simp [cat_rf, cat_i, cat_l, cat_r, cat_n]) (by decide) (by assumption) (lv1 _ 4 (fun _ => rfl)) (s_make (σ := up (up σ 20 0 (σ 99 3 0) q) 5 0 4 (σ 99 3 0 + 1)) hca (by show σ 99 3 0 < 24; omega) hq hh) (by decide) (by decide) (fun w g hq => ?_)
    obtain ⟨A', σ', L', Sc', hh, rfl, hAe, hco, hmk⟩ := hq
    obtain ⟨hO', hsd, hle3⟩ := own_mk hO hN0 (by omega) rfl hmk
    have e5 : vr A 5 0 = vr A' 5 0 := by unfold vr rf; rw [hAe 5 (by decide) (by unfold inT; omega)]
    rw [e5]
    have eNa : up (up σ 20 0 (σ 99 3 0) q) 5 0 4 (σ 99 3 0 + 1) 99 3 0 = σ 99 3 0 := rfl
    have hm5 : σ' 5 0 4 = σ 99 3 0 + 1 := (hmk.2.1 5 0 4 rfl).trans (up_at _ _ _ _ _)
    refine r_pc 36 rfl ?_
    refine r_aload_nO dX5_isMade_36 rfl rfl ?_
    refine e_getI (t := 5) (k := 4) 4 dX5_isMade_37 cb5 (by decide) mf_X5_25 (by rfl) rfl (by assumption) (lv1 _ 5 (fun _ => rfl)) ?_
    refine e_iv hm5 ?_
    refine e_iconst dX5_isMade_40 ?_
    first | refine e_isub dX5_isMade_41 ?_ | refine r_isub dX5_isMade_41 ?_
    refine e_ic_ne 49 dX5_isMade_42 (by decide) ⟨by omega, by omega⟩ ⟨by omega, by omega⟩ (fun h42 => by exfalso; omega) (fun h42 => ?_)
    refine r_pc 45 rfl ?_
    refine e_iconst dX5_isMade_45 ?_
    refine r_goto 50 dX5_isMade_46 (by decide) ?_
    exact r_zret dX5_isMade_50 rfl (narrow_01 (by omega)) ⟨A', σ', L', Sc', hh, rfl, ⟨hAe 4 (by decide) (by unfold inT; omega), hAe 5 (by decide) (by unfold inT; omega)⟩, hco, hO', hmk.2.2.2.2.2, hsd, hle3, fun _ => hmk.1.1⟩
  · refine r_pc 9 rfl ?_
    refine e_iconst dX5_isMade_9 ?_
    exact r_zret dX5_isMade_10 rfl (narrow_01 (by omega)) ⟨A, σ, L, Sc, hh, rfl, ⟨rfl, rfl⟩, hc, hO, Int.le_refl _, SD.rf' σ, Int.le_refl _, fun z => by omega⟩
