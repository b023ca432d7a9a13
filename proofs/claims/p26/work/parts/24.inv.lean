/-! THE COURT'S INVARIANTS. Sc: a Shape's names, the last one first; od: a Thing's names, the last one first; X: a Thing that is exempt (-1: none of them) -/
def WFk (σ : ST) (k : Int) : Prop := (∀ j, (0 ≤ j ∧ j < σ 3 k 5) → (0 ≤ σ 14 k j ∧ σ 14 k j < 12) ∧ ¬ σ 15 k (σ 14 k j) = 0) ∧ (∀ n, (0 ≤ n ∧ n < 12) → TrOk (σ 15 k n) ∧ (¬ σ 15 k n = 0 → ∃ j, (0 ≤ j ∧ j < σ 3 k 5) ∧ σ 14 k j = n)) ∧ (∀ i j, (0 ≤ i ∧ i < σ 3 k 5) → (0 ≤ j ∧ j < σ 3 k 5) → σ 14 k i = σ 14 k j → i = j)
def WVn (σ : ST) (k n : Int) : Prop := (-1 ≤ σ 17 k n ∧ σ 17 k n < 12) ∧ (-1 ≤ σ 18 k n ∧ σ 18 k n < 12) ∧ (-1000 ≤ σ 16 k n ∧ σ 16 k n ≤ 2000) ∧ (-99 ≤ σ 19 k n ∧ σ 19 k n ≤ 99) ∧ (isPr (σ 15 k n) → σ 16 k n = -1000) ∧ (¬ σ 15 k n = 0 → ¬ isPr (σ 15 k n) → σ 17 k n = -1)
def WVk (σ : ST) (k : Int) : Prop := ∀ n, (0 ≤ n ∧ n < 12) → WVn σ k n
def od (σ : ST) (k : Int) : Nat → List Int
  | 0 => []
  | m + 1 => σ 14 k (m : Int) :: od σ k m
def WKk (σ : ST) (Sc : Int → List Int) (k : Int) : Prop := 0 ≤ σ 3 k 2 → σ 1 (σ 3 k 2) 2 = σ 3 k 1 ∧ σ 1 (σ 3 k 2) 5 = σ 3 k 5 ∧ Sc (σ 3 k 2) = od σ k (σ 3 k 5).toNat
def WC (σ : ST) (Sc : Int → List Int) : Prop := ∀ s, Lv σ 1 s → (σ 1 s 1 < 0 → Sc s = [] ∧ σ 1 s 5 = 0) ∧ (0 ≤ σ 1 s 1 → Sc s = σ 1 s 3 :: Sc (σ 1 s 1) ∧ σ 1 s 2 = σ 1 (σ 1 s 1) 2 ∧ σ 1 s 5 = σ 1 (σ 1 s 1) 5 + 1)
def wy (w : Int) : Int := if w < 0 then -1 else w + 1
def eW (σ : ST) (L Sc : Int → List Int) (s n : Int) : Int := if n ∈ Sc s then 0 else wy (wF σ n (lo L (σ 1 s 2)))
def WE (σ : ST) (L Sc : Int → List Int) (X : Int) : Prop := ∀ p e, Lv σ 0 p → (0 ≤ e ∧ e < σ 0 p 0) → X ∉ lo L (σ 1 (σ 11 p e) 2) → σ 13 p e = eW σ L Sc (σ 11 p e) (σ 12 p e)
def WEk (σ : ST) (L Sc : Int → List Int) (X : Int) : Prop := ∀ p e, Lv σ 0 p → (0 ≤ e ∧ e < σ 0 p 0) → X ∈ lo L (σ 1 (σ 11 p e) 2) → σ 13 p e = eW σ L Sc (σ 11 p e) (σ 12 p e)
def WD (σ : ST) : Prop := ∀ p i j, Lv σ 0 p → 0 ≤ i → i < j → j < σ 0 p 0 → ¬ (σ 11 p i = σ 11 p j ∧ σ 12 p i = σ 12 p j)
def WM (σ : ST) (T : Int) : Prop := ∀ p, Lv σ 0 p → 0 ≤ σ 0 p 8 ∧ σ 0 p 0 + σ 0 p 8 ≤ σ 0 p 5 ∧ σ 0 p 5 ≤ T
def WW (σ : ST) : Prop := (∀ k, Lv σ 3 k → 0 ≤ σ 3 k 1 → ¬ σ 3 (σ 3 k 1) 4 = 0) ∧ (∀ s, Lv σ 1 s → 0 ≤ σ 1 s 2 → ¬ σ 3 (σ 1 s 2) 4 = 0)
def CX (σ : ST) (L Sc : Int → List Int) (T X : Int) : Prop := WT σ ∧ WL σ L ∧ WS σ ∧ WP σ ∧ WC σ Sc ∧ WD σ ∧ WM σ T ∧ WW σ ∧ (∀ k, Lv σ 3 k → k ≠ X → WFk σ k) ∧ (∀ k, Lv σ 3 k → k ≠ X → WVk σ k) ∧ (∀ k, Lv σ 3 k → k ≠ X → WKk σ Sc k) ∧ WE σ L Sc X
def CO (σ : ST) (L Sc : Int → List Int) (T : Int) : Prop := CX σ L Sc T (-1)
section INV
variable {σ σ' : ST} {L Sc : Int → List Int} {T X : Int}
theorem CX.wt (h : CX σ L Sc T X) : WT σ := h.1
theorem CX.wl (h : CX σ L Sc T X) : WL σ L := h.2.1
theorem CX.ws (h : CX σ L Sc T X) : WS σ := h.2.2.1
theorem CX.wp (h : CX σ L Sc T X) : WP σ := h.2.2.2.1
theorem CX.wc (h : CX σ L Sc T X) : WC σ Sc := h.2.2.2.2.1
theorem CX.wd (h : CX σ L Sc T X) : WD σ := h.2.2.2.2.2.1
theorem CX.wm (h : CX σ L Sc T X) : WM σ T := h.2.2.2.2.2.2.1
theorem CX.ww (h : CX σ L Sc T X) : WW σ := h.2.2.2.2.2.2.2.1
theorem CX.wfk (h : CX σ L Sc T X) : ∀ k, Lv σ 3 k → k ≠ X → WFk σ k := h.2.2.2.2.2.2.2.2.1
theorem CX.wvk (h : CX σ L Sc T X) : ∀ k, Lv σ 3 k → k ≠ X → WVk σ k := h.2.2.2.2.2.2.2.2.2.1
theorem CX.wkk (h : CX σ L Sc T X) : ∀ k, Lv σ 3 k → k ≠ X → WKk σ Sc k := h.2.2.2.2.2.2.2.2.2.2.1
theorem CX.we (h : CX σ L Sc T X) : WE σ L Sc X := h.2.2.2.2.2.2.2.2.2.2.2
theorem lv_m1 {k : Int} (h : Lv σ 3 k) : k ≠ -1 := by have := h.1; omega
theorem CO.wf (h : CO σ L Sc T) : WF σ := fun k hk => CX.wfk h k hk (lv_m1 hk)
theorem CO.wv (h : CO σ L Sc T) : WV σ := fun k n hk hn => CX.wvk h k hk (lv_m1 hk) n hn
theorem CO.wt (h : CO σ L Sc T) : WT σ := CX.wt h
theorem CO.wl (h : CO σ L Sc T) : WL σ L := CX.wl h
theorem CO.ws (h : CO σ L Sc T) : WS σ := CX.ws h
theorem CO.wp (h : CO σ L Sc T) : WP σ := CX.wp h
theorem CO.wk (h : CO σ L Sc T) : ∀ k, Lv σ 3 k → WKk σ Sc k := fun k hk => CX.wkk h k hk (lv_m1 hk)
theorem m1_lo (hT : WT σ) (hL : WL σ L) {v : Int} (hv : -1 ≤ v ∧ v < σ 99 3 0) : (-1 : Int) ∉ lo L v := fun q => by
  have := (lo_mem hT hL _ v rfl hv _ q).1
  omega
theorem rp_dom (hS : WS σ) (hP : WP σ) {p e : Int} (hp : Lv σ 0 p) (he : 0 ≤ e ∧ e < σ 0 p 0) : -1 ≤ σ 1 (σ 11 p e) 2 ∧ σ 1 (σ 11 p e) 2 < σ 99 3 0 := (hS.2.2 _ ((hP p hp).2 e he).1).2.2.2.1
theorem CO.we (h : CO σ L Sc T) : ∀ p e, Lv σ 0 p → (0 ≤ e ∧ e < σ 0 p 0) → σ 13 p e = eW σ L Sc (σ 11 p e) (σ 12 p e) := fun p e hp he => CX.we h p e hp he (m1_lo (CX.wt h) (CX.wl h) (rp_dom (CX.ws h) (CX.wp h) hp he))
theorem CO.cx (h : CO σ L Sc T) (X : Int) : CX σ L Sc T X :=
  ⟨h.wt, h.wl, h.ws, h.wp, CX.wc h, CX.wd h, CX.wm h, CX.ww h, fun k hk _ => CX.wfk h k hk (lv_m1 hk), fun k hk _ => CX.wvk h k hk (lv_m1 hk), fun k hk _ => CX.wkk h k hk (lv_m1 hk), fun p e hp he _ => h.we p e hp he⟩
theorem CX.co (h : CX σ L Sc T X) (hF : WFk σ X) (hV : WVk σ X) (hK : WKk σ Sc X) (hE : WEk σ L Sc X) : CO σ L Sc T :=
  ⟨h.wt, h.wl, h.ws, h.wp, h.wc, h.wd, h.wm, h.ww, fun k hk _ => by by_cases e : k = X; (rw [e]; exact hF); exact h.wfk k hk e, fun k hk _ => by by_cases e : k = X; (rw [e]; exact hV); exact h.wvk k hk e,
    fun k hk _ => by by_cases e : k = X; (rw [e]; exact hK); exact h.wkk k hk e, fun p e hp he _ => by by_cases q : X ∈ lo L (σ 1 (σ 11 p e) 2); exact hE p e hp he q; exact h.we p e hp he q⟩
theorem CX.mono {T' : Int} (h : CX σ L Sc T X) (hT : T ≤ T') : CX σ L Sc T' X :=
  ⟨h.wt, h.wl, h.ws, h.wp, h.wc, h.wd, fun p hp => ⟨(h.wm p hp).1, (h.wm p hp).2.1, by have := (h.wm p hp).2.2; omega⟩, h.ww, h.wfk, h.wvk, h.wkk, h.we⟩
/-! what depends on what -/
theorem wF_cg {n : Int} : ∀ l : List Int, (∀ k, k ∈ l → σ' 15 k n = σ 15 k n) → wF σ' n l = wF σ n l := by
  intro l
  induction l with
  | nil => intro _; rfl
  | cons a l ih =>
    intro h
    unfold wF
    rw [h a List.mem_cons_self, ih fun k hk => h k (List.mem_cons_of_mem _ hk)]
theorem eW_cg {s n : Int} (h1 : σ' 1 s 2 = σ 1 s 2) (h15 : ∀ k, k ∈ lo L (σ 1 s 2) → σ' 15 k n = σ 15 k n) : eW σ' L Sc s n = eW σ L Sc s n := by
  unfold eW
  rw [h1, wF_cg _ h15]
theorem od_cg {k : Int} (h : ∀ j, σ' 14 k j = σ 14 k j) (m : Nat) : od σ' k m = od σ k m := by
  induction m with
  | zero => rfl
  | succ m ih => rw [od, od, ih, h]
theorem wfk_cg {k : Int} (h3 : σ' 3 k 5 = σ 3 k 5) (h14 : ∀ j, σ' 14 k j = σ 14 k j) (h15 : ∀ n, σ' 15 k n = σ 15 k n) (h : WFk σ k) : WFk σ' k := by
  unfold WFk
  simp only [h3, h14, h15]
  exact h
theorem wvn_cg {k n : Int} (h15 : σ' 15 k n = σ 15 k n) (h16 : σ' 16 k n = σ 16 k n) (h17 : σ' 17 k n = σ 17 k n) (h18 : σ' 18 k n = σ 18 k n) (h19 : σ' 19 k n = σ 19 k n) (h : WVn σ k n) : WVn σ' k n := by
  unfold WVn
  rw [h15, h16, h17, h18, h19]
  exact h
theorem wkk_cg {k : Int} (h : ∀ c, (c = 1 ∨ c = 2 ∨ c = 5) → σ' 3 k c = σ 3 k c) (h14 : ∀ j, σ' 14 k j = σ 14 k j) (h1 : ∀ c, σ' 1 (σ 3 k 2) c = σ 1 (σ 3 k 2) c) (w : WKk σ Sc k) : WKk σ' Sc k := by
  unfold WKk
  rw [h 2 (by omega), h 1 (by omega), h 5 (by omega), h1, h1, od_cg h14]
  exact w
/-! entries go -/
theorem CX.same (h : CX σ L Sc T X) (hs : Same σ σ') (hu : ∀ p, Lv σ 0 p → Sub1 σ σ' p) : CX σ' L Sc T X := by
  have e : ∀ t r c, t ≠ 0 → t ≠ 11 → t ≠ 12 → t ≠ 13 → σ' t r c = σ t r c := hs.1
  have e1 : ∀ r c, σ' 1 r c = σ 1 r c := fun r c => e 1 r c (by decide) (by decide) (by decide) (by decide)
  have e3 : ∀ r c, σ' 3 r c = σ 3 r c := fun r c => e 3 r c (by decide) (by decide) (by decide) (by decide)
  have e14 : ∀ r c, σ' 14 r c = σ 14 r c := fun r c => e 14 r c (by decide) (by decide) (by decide) (by decide)
  have e15 : ∀ r c, σ' 15 r c = σ 15 r c := fun r c => e 15 r c (by decide) (by decide) (by decide) (by decide)
  refine ⟨hs.wt h.wt, hs.wl h.wl, hs.ws h.ws, Sub1.wp hs hu h.wp, fun s hs' => ?_, fun p i j hp h0 hij hj => ?_, fun p hp => ?_, ⟨fun k hk => ?_, fun s hk => ?_⟩, fun k hk hx => ?_, fun k hk hx => ?_, fun k hk hx => ?_, fun p x hp hx hX => ?_⟩
  · simp only [e1]
    exact h.wc s (hs.lv.mp hs')
  · obtain ⟨a, b, f, f1, f2⟩ := hu p (hs.lv.mp hp)
    obtain ⟨q1, q2, q3, -⟩ := f1 i ⟨h0, by omega⟩
    obtain ⟨q1', q2', q3', -⟩ := f1 j ⟨by omega, hj⟩
    rw [q2, q3, q2', q3']
    exact h.wd p (f i) (f j) (hs.lv.mp hp) q1.1 (f2 i j h0 hij hj) q1'.2
  · obtain ⟨a, b, -⟩ := hu p (hs.lv.mp hp)
    have e5 : σ' 0 p 5 = σ 0 p 5 := hs.2 p 5 (by decide) (by decide)
    have := h.wm p (hs.lv.mp hp)
    rw [e5]
    omega
  · simp only [e3]
    exact h.ww.1 k (hs.lv.mp hk)
  · simp only [e3, e1]
    exact h.ww.2 s (hs.lv.mp hk)
  · exact wfk_cg (e3 _ _) (e14 k) (e15 k) (h.wfk k (hs.lv.mp hk) hx)
  · exact fun n hn => wvn_cg (e15 _ _) (e 16 k n (by decide) (by decide) (by decide) (by decide)) (e 17 k n (by decide) (by decide) (by decide) (by decide)) (e 18 k n (by decide) (by decide) (by decide) (by decide)) (e 19 k n (by decide) (by decide) (by decide) (by decide)) (h.wvk k (hs.lv.mp hk) hx n hn)
  · exact wkk_cg (fun c _ => e3 k c) (e14 k) (e1 _) (h.wkk k (hs.lv.mp hk) hx)
  · obtain ⟨a, b, f, f1, f2⟩ := hu p (hs.lv.mp hp)
    obtain ⟨q1, q2, q3, q4⟩ := f1 x hx
    rw [e1, q2] at hX
    rw [q2, q3, q4, h.we p (f x) (hs.lv.mp hp) q1 hX]
    exact (eW_cg (e1 _ _) (fun k _ => e15 k _)).symm
theorem lo_up {v k : Int} (hT : WT σ) (hL : WL σ L) : ∀ (l : List Int) (v : Int), lo L v = l → (-1 ≤ v ∧ v < σ 99 3 0) → k ∈ l → v = k ∨ ∃ j, Lv σ 3 j ∧ σ 3 j 1 = k := by
  intro l
  induction l with
  | nil => intro v h hv hk; cases hk
  | cons a l ih =>
    intro v h hv hk
    obtain ⟨h0, rfl, h2⟩ := lo_cons hL hv h
    rcases List.mem_cons.mp hk with e | hk
    · exact Or.inl e.symm
    · rcases ih _ h2 (hT.2.2 v ⟨h0, hv.2⟩).2.2.1 hk with e | e
      · exact Or.inr ⟨v, ⟨h0, hv.2⟩, e⟩
      · exact Or.inr e
/-- one that nobody watches is in no Shape's line -/
theorem CX.unw (h : CX σ L Sc T X) {k s : Int} (hk : Lv σ 3 k) (hw : σ 3 k 4 = 0) (hs : Lv σ 1 s) : k ∉ lo L (σ 1 s 2) := by
  intro q
  have hk0 := hk.1
  rcases lo_up (v := 0) h.wt h.wl _ (σ 1 s 2) rfl (h.ws.2.2 s hs).2.2.2.1 q with e | ⟨j, hj, e⟩
  · exact h.ww.2 s hs (by omega) (by rw [e]; exact hw)
  · exact h.ww.1 j hj (by omega) (by rw [e]; exact hw)
theorem CX.nk (h : CX σ L Sc T X) {k : Int} (hk : Lv σ 3 k) (hD : DE σ L k σ') : ∀ p e, Lv σ' 0 p → (0 ≤ e ∧ e < σ' 0 p 0) → k ∉ lo L (σ' 1 (σ' 11 p e) 2) := by
  intro p e hp he
  obtain ⟨hs, hu, hd⟩ := hD
  rw [hs.1 1 _ _ (by decide) (by decide) (by decide) (by decide)]
  by_cases hw : σ 3 k 4 = 0
  · obtain ⟨a, b, f, f1, f2⟩ := hu p (hs.lv.mp hp)
    obtain ⟨q1, q2, q3, q4⟩ := f1 e he
    rw [q2]
    exact h.unw hk hw ((h.wp p (hs.lv.mp hp)).2 _ q1).1
  · exact hd hw p e (hs.lv.mp hp) he
/-! a Thing's own row changes -/
def RX (σ : ST) (X : Int) (σ' : ST) : Prop := ∀ t r c, ¬ (r = X ∧ ((14 ≤ t ∧ t ≤ 19) ∨ (t = 3 ∧ (c = 2 ∨ c = 5)))) → σ' t r c = σ t r c
theorem RX.rf' (σ : ST) (X : Int) : RX σ X σ := fun _ _ _ _ => rfl
theorem RX.tr {σ2 : ST} (h : RX σ X σ') (h2 : RX σ' X σ2) : RX σ X σ2 := fun t r c q => (h2 t r c q).trans (h t r c q)
theorem RX.u (h : RX σ X σ') (t : Nat) (c v : Int) (ht : (14 ≤ t ∧ t ≤ 19) ∨ (t = 3 ∧ (c = 2 ∨ c = 5))) : RX σ X (up σ' t X c v) := fun t' r c' q => by
  rw [up_ne (fun z => q ⟨z.2.1, by rw [z.1, z.2.2]; exact ht⟩)]
  exact h t' r c' q
theorem RX.ct (h : RX σ X σ') (t : Nat) : cnt σ' t = cnt σ t := by
  have e1 : σ' 99 1 0 = σ 99 1 0 := h _ _ _ (by omega)
  have e2 : σ' 99 3 0 = σ 99 3 0 := h _ _ _ (by omega)
  have e3 : σ' 99 25 0 = σ 99 25 0 := h _ _ _ (by omega)
  have e4 : σ' 99 26 0 = σ 99 26 0 := h _ _ _ (by omega)
  unfold cnt
  rw [e1, e2, e3, e4]
theorem RX.lv (h : RX σ X σ') {t : Nat} {r : Int} : Lv σ' t r ↔ Lv σ t r := by
  unfold Lv
  rw [h.ct]
theorem CX.row (h : CX σ L Sc T X) (hr : RX σ X σ') (h2 : -1 ≤ σ' 3 X 2 ∧ σ' 3 X 2 < σ 99 1 0) (h5 : 0 ≤ σ' 3 X 5 ∧ σ' 3 X 5 ≤ 12) : CX σ' L Sc T X := by
  have e1 : ∀ r c, σ' 1 r c = σ 1 r c := fun r c => hr 1 r c (by omega)
  have e0 : ∀ r c, σ' 0 r c = σ 0 r c := fun r c => hr 0 r c (by omega)
  have e11 : ∀ r c, σ' 11 r c = σ 11 r c := fun r c => hr 11 r c (by omega)
  have e12 : ∀ r c, σ' 12 r c = σ 12 r c := fun r c => hr 12 r c (by omega)
  have e13 : ∀ r c, σ' 13 r c = σ 13 r c := fun r c => hr 13 r c (by omega)
  have e2 : ∀ r c, σ' 2 r c = σ 2 r c := fun r c => hr 2 r c (by omega)
  have e10 : ∀ r c, σ' 10 r c = σ 10 r c := fun r c => hr 10 r c (by omega)
  have e99 : ∀ r c, σ' 99 r c = σ 99 r c := fun r c => hr 99 r c (by omega)
  have e3 : ∀ r c, ¬ c = 2 → ¬ c = 5 → σ' 3 r c = σ 3 r c := fun r c a b => hr 3 r c (by omega)
  have ek : ∀ t k c, k ≠ X → σ' t k c = σ t k c := fun t k c a => hr t k c (by omega)
  refine ⟨⟨by rw [hr 4 0 1 (by omega), e99]; exact h.wt.1, by rw [e99]; exact h.wt.2.1, fun k hk => ?_⟩, fun k hk => ?_, ⟨by rw [e2, e99]; exact h.ws.1, by rw [e99]; exact h.ws.2.1, fun s hs => ?_⟩, fun p hp => ?_, fun s hs' => ?_, fun p i j hp h0 hij hj => ?_, fun p hp => ?_, ⟨fun k hk => ?_, fun s hk => ?_⟩, fun k hk hx => ?_, fun k hk hx => ?_, fun k hk hx => ?_, fun p x hp hx hX => ?_⟩
  · have w := h.wt.2.2 k (hr.lv.mp hk)
    rw [hr 6 0 k (by omega), e3 k 0 (by decide) (by decide), e3 k 1 (by decide) (by decide), e3 k 3 (by decide) (by decide), e3 k 4 (by decide) (by decide), e99, e99]
    by_cases q : k = X
    · rw [q] at w ⊢
      exact ⟨w.1, w.2.1, w.2.2.1, h2, w.2.2.2.2.1, w.2.2.2.2.2.1, h5⟩
    · rw [ek 3 k 2 q, ek 3 k 5 q]
      exact w
  · rw [e3 k 1 (by decide) (by decide)]
    exact h.wl k (hr.lv.mp hk)
  · simp only [e1, e10, e99]
    exact h.ws.2.2 s (hr.lv.mp hs)
  · have w := h.wp p (hr.lv.mp hp)
    simp only [e0, e11, e12, e13, hr.lv]
    exact w
  · simp only [e1]
    exact h.wc s (hr.lv.mp hs')
  · rw [e0] at hj
    simp only [e11, e12]
    exact h.wd p i j (hr.lv.mp hp) h0 hij hj
  · simp only [e0]
    exact h.wm p (hr.lv.mp hp)
  · simp only [e3 _ 1 (by decide) (by decide), e3 _ 4 (by decide) (by decide)]
    exact h.ww.1 k (hr.lv.mp hk)
  · simp only [e3 _ 4 (by decide) (by decide), e1]
    exact h.ww.2 s (hr.lv.mp hk)
  · exact wfk_cg (ek 3 k 5 hx) (fun j => ek 14 k j hx) (fun j => ek 15 k j hx) (h.wfk k (hr.lv.mp hk) hx)
  · exact fun n hn => wvn_cg (ek 15 k n hx) (ek 16 k n hx) (ek 17 k n hx) (ek 18 k n hx) (ek 19 k n hx) (h.wvk k (hr.lv.mp hk) hx n hn)
  · exact wkk_cg (fun c _ => ek 3 k c hx) (fun j => ek 14 k j hx) (e1 _) (h.wkk k (hr.lv.mp hk) hx)
  · rw [e0] at hx
    rw [e11, e1] at hX
    rw [e11, e12, e13, h.we p x (hr.lv.mp hp) hx hX]
    exact (eW_cg (e1 _ _) (fun k hk => ek 15 k _ (fun z => hX (z ▸ hk)))).symm
end INV
