/-! A READ at a PLACE -/
theorem hF_cg {σ σ' : ST} {n : Int} (h15 : ∀ r c, σ' 15 r c = σ 15 r c) (l : List Int) : hF σ' n l = hF σ n l := by
  induction l with
  | nil => rfl
  | cons a l ih =>
    unfold hF
    rw [h15, ih]
theorem rdv_cg {σ σ' : ST} (h : ∀ t r c, t = 15 ∨ t = 16 ∨ t = 17 ∨ t = 19 → σ' t r c = σ t r c) (l : List Int) : ∀ (m : Nat) (n : Int), rdv σ' l m n = rdv σ l m n := by
  intro m
  induction m with
  | zero =>
    intro n
    unfold rdv
    rw [hF_cg (fun r c => h 15 r c (by omega)), h 16 _ _ (by omega)]
  | succ m ih =>
    intro n
    unfold rdv
    rw [hF_cg (fun r c => h 15 r c (by omega)), h 16 _ _ (by omega), h 17 _ _ (by omega), h 19 _ _ (by omega), ih]
theorem rdv_ag {τ σ : ST} (h : AgV τ σ) (l : List Int) (m : Nat) (n : Int) : rdv σ l m n = rdv τ l m n := rdv_cg (fun t r c ht => h.1 t r c (by rcases ht with rfl | rfl | rfl | rfl <;> rfl)) l m n
theorem sumI_one {F F' : Int → Int} {p : Int} (m : Nat) (h : ∀ j, j ≠ p → F' j = F j) : sumI F' m = sumI F m + (if 0 ≤ p ∧ p < (m : Int) then F' p - F p else 0) := by
  induction m with
  | zero =>
    rw [if_neg (by omega)]
    rfl
  | succ m ih =>
    rw [sumI, sumI, ih]
    by_cases z : (m : Int) = p
    · rw [z, if_neg (by omega), if_pos (by omega)]
      omega
    · rw [h _ z]
      by_cases y : 0 ≤ p ∧ p < (m : Int)
      · rw [if_pos y, if_pos (by omega)]
        omega
      · rw [if_neg y, if_neg (by omega)]
        omega
section RD
variable {σ σ' : ST} {L Sc : Int → List Int} {T k n p : Int}
theorem ew_thing (h : CO σ L Sc T) (hk : Lv σ 3 k) (hs : 0 ≤ σ 3 k 2) (hn : 0 ≤ n ∧ n < 12) : wF σ n (lo L k) = eW σ L Sc (σ 3 k 2) n := by
  have hz := wt_sz h.wt hk
  obtain ⟨w1, w2, w3⟩ := h.wk k hk hs
  have hod := wf_od (h.wf k hk) hz.1 hn
  rw [lo_pos hk.1, (h.wl k hk).1, wF]
  unfold eW wy
  rw [w1, w3]
  by_cases z : σ 15 k n = 0
  · rw [if_pos z, if_neg (fun y => hod.mp y z)]
  · rw [if_neg z, if_pos (hod.mpr z)]
/-- the counts of places change -/
theorem CO.cn {T' : Int} (h : CO σ L Sc T) (hf : ∀ t r c, ¬ (t = 0 ∧ (c = 4 ∨ c = 5 ∨ c = 6 ∨ c = 7)) → σ' t r c = σ t r c) (h5 : ∀ r, Lv σ 0 r → σ 0 r 5 ≤ σ' 0 r 5 ∧ σ' 0 r 5 ≤ T') : CO σ' L Sc T' ∧ AgV σ σ' := by
  have e : ∀ t r c, t ≠ 0 → σ' t r c = σ t r c := fun t r c a => hf t r c (fun q => a q.1)
  have e00 : ∀ r, σ' 0 r 0 = σ 0 r 0 := fun r => hf 0 r 0 (by omega)
  have e08 : ∀ r, σ' 0 r 8 = σ 0 r 8 := fun r => hf 0 r 8 (by omega)
  have ec : ∀ t, cnt σ' t = cnt σ t := by
    intro t
    unfold cnt
    rw [e 99 1 0 (by decide), e 99 3 0 (by decide), e 99 25 0 (by decide), e 99 26 0 (by decide)]
  have el : ∀ t r, Lv σ' t r ↔ Lv σ t r := fun t r => by unfold Lv; rw [ec]
  have e1 : ∀ r c, σ' 1 r c = σ 1 r c := fun r c => e 1 r c (by decide)
  have e3 : ∀ r c, σ' 3 r c = σ 3 r c := fun r c => e 3 r c (by decide)
  have e11 : ∀ r c, σ' 11 r c = σ 11 r c := fun r c => e 11 r c (by decide)
  have e12 : ∀ r c, σ' 12 r c = σ 12 r c := fun r c => e 12 r c (by decide)
  have e13 : ∀ r c, σ' 13 r c = σ 13 r c := fun r c => e 13 r c (by decide)
  have e99 : ∀ r c, σ' 99 r c = σ 99 r c := fun r c => e 99 r c (by decide)
  refine ⟨⟨⟨by rw [e 4 _ _ (by decide), e99]; exact h.wt.1, by rw [e99]; exact h.wt.2.1, fun x hx => ?_⟩, fun x hx => ?_, ⟨by rw [e 2 _ _ (by decide), e99]; exact h.ws.1, by rw [e99]; exact h.ws.2.1, fun s hs => ?_⟩, fun q hq => ?_, fun s hs => ?_, fun q i j hq a b c => ?_, fun q hq => ?_, ⟨fun x hx => ?_, fun s hs => ?_⟩, fun x hx hn => ?_, fun x hx hn => ?_, fun x hx hn => ?_, fun q x hq hx hX => ?_⟩, fun t r c a => e t r c (by rintro rfl; cases a), fun r c _ _ => e3 r c, e99 3 0, e99 25 0⟩
  · simp only [e3, e 6 _ _ (by decide), e99]
    exact h.wt.2.2 x ((el _ _).mp hx)
  · rw [e3]
    exact h.wl x ((el _ _).mp hx)
  · simp only [e1, e 10 _ _ (by decide), e99]
    exact h.ws.2.2 s ((el _ _).mp hs)
  · have w := h.wp q ((el _ _).mp hq)
    simp only [e00, e11, e12, e13, el]
    exact w
  · simp only [e1]
    exact CX.wc h s ((el _ _).mp hs)
  · rw [e00] at c
    simp only [e11, e12]
    exact CX.wd h q i j ((el _ _).mp hq) a b c
  · have w := CX.wm h q ((el _ _).mp hq)
    have := h5 q ((el _ _).mp hq)
    rw [e00, e08]
    omega
  · simp only [e3]
    exact (CX.ww h).1 x ((el _ _).mp hx)
  · simp only [e3, e1]
    exact (CX.ww h).2 s ((el _ _).mp hs)
  · exact wfk_cg (e3 x 5) (fun j => e 14 x j (by decide)) (fun j => e 15 x j (by decide)) (CX.wfk h x ((el _ _).mp hx) hn)
  · exact fun m hm => wvn_cg (e 15 x m (by decide)) (e 16 x m (by decide)) (e 17 x m (by decide)) (e 18 x m (by decide)) (e 19 x m (by decide)) (CX.wvk h x ((el _ _).mp hx) hn m hm)
  · exact wkk_cg (fun c _ => e3 x c) (fun j => e 14 x j (by decide)) (fun c => e1 _ c) (CX.wkk h x ((el _ _).mp hx) hn)
  · rw [e00] at hx
    rw [e11, e12, e13, h.we q x ((el _ _).mp hq) hx]
    exact (eW_cg (e1 _ _) (fun k _ => e 15 k _ (by decide))).symm
/-- an entry comes, as the last one -/
theorem CO.en {s w z : Int} {f : Int → Int} (h : CO σ L Sc T) (hp : Lv σ 0 p) (hf : ∀ t r c, ¬ (r = p ∧ (t = 11 ∨ t = 12 ∨ t = 13 ∨ (t = 0 ∧ c = 0))) → σ' t r c = σ t r c) (hz : 0 ≤ z ∧ z < 3) (hz2 : z ≤ σ 0 p 0) (hz0 : σ' 0 p 0 = z + 1)
    (hfe : ∀ e, (0 ≤ e ∧ e < z) → (0 ≤ f e ∧ f e < σ 0 p 0) ∧ σ' 11 p e = σ 11 p (f e) ∧ σ' 12 p e = σ 12 p (f e) ∧ σ' 13 p e = σ 13 p (f e)) (hmo : ∀ e e', 0 ≤ e → e < e' → e' < z → f e < f e') (hl : σ' 11 p z = s ∧ σ' 12 p z = n ∧ σ' 13 p z = w)
    (hs : Lv σ 1 s) (hn : 0 ≤ n ∧ n < 12) (hw : w = eW σ L Sc s n) (hwr : -1 ≤ w ∧ w ≤ 24) (hnew : ∀ e, (0 ≤ e ∧ e < σ 0 p 0) → ¬ (σ 11 p e = s ∧ σ 12 p e = n)) (hm : σ 0 p 0 + σ 0 p 8 + 1 ≤ σ 0 p 5) : CO σ' L Sc T ∧ AgV σ σ' := by
  have e : ∀ t r c, t ≠ 0 → t ≠ 11 → t ≠ 12 → t ≠ 13 → σ' t r c = σ t r c := fun t r c a b d g => hf t r c (by omega)
  have e0c : ∀ r c, c ≠ 0 → σ' 0 r c = σ 0 r c := fun r c a => hf 0 r c (by omega)
  have er : ∀ t r c, r ≠ p → σ' t r c = σ t r c := fun t r c a => hf t r c (fun q => a q.1)
  have e99 : ∀ r c, σ' 99 r c = σ 99 r c := fun r c => e 99 r c (by decide) (by decide) (by decide) (by decide)
  have ec : ∀ t, cnt σ' t = cnt σ t := by
    intro t
    unfold cnt
    rw [e99, e99, e99, e99]
  have el : ∀ t r, Lv σ' t r ↔ Lv σ t r := fun t r => by unfold Lv; rw [ec]
  have e1 : ∀ r c, σ' 1 r c = σ 1 r c := fun r c => e 1 r c (by decide) (by decide) (by decide) (by decide)
  have e3 : ∀ r c, σ' 3 r c = σ 3 r c := fun r c => e 3 r c (by decide) (by decide) (by decide) (by decide)
  have e14 : ∀ r c, σ' 14 r c = σ 14 r c := fun r c => e 14 r c (by decide) (by decide) (by decide) (by decide)
  have e15 : ∀ r c, σ' 15 r c = σ 15 r c := fun r c => e 15 r c (by decide) (by decide) (by decide) (by decide)
  have ew : ∀ s n, eW σ' L Sc s n = eW σ L Sc s n := fun s n => eW_cg (e1 _ _) (fun k _ => e15 k _)
  refine ⟨⟨⟨by rw [e 4 _ _ (by decide) (by decide) (by decide) (by decide), e99]; exact h.wt.1, by rw [e99]; exact h.wt.2.1, fun x hx => ?_⟩, fun x hx => ?_, ⟨by rw [e 2 _ _ (by decide) (by decide) (by decide) (by decide), e99]; exact h.ws.1, by rw [e99]; exact h.ws.2.1, fun s hs => ?_⟩, fun q hq => ?_, fun s hs => ?_, fun q i j hq a b c => ?_, fun q hq => ?_, ⟨fun x hx => ?_, fun s hs => ?_⟩, fun x hx hn => ?_, fun x hx hn => ?_, fun x hx hn => ?_, fun q x hq hx hX => ?_⟩, fun t r c a => e t r c (by rintro rfl; cases a) (by rintro rfl; cases a) (by rintro rfl; cases a) (by rintro rfl; cases a), fun r c _ _ => e3 r c, e99 3 0, e99 25 0⟩
  · simp only [e3, e 6 _ _ (by decide) (by decide) (by decide) (by decide), e99]
    exact h.wt.2.2 x ((el _ _).mp hx)
  · rw [e3]
    exact h.wl x ((el _ _).mp hx)
  · simp only [e1, e 10 _ _ (by decide) (by decide) (by decide) (by decide), e99]
    exact h.ws.2.2 s ((el _ _).mp hs)
  · have wq := h.wp q ((el _ _).mp hq)
    by_cases y : q = p
    · subst y
      rw [hz0]
      refine ⟨by omega, fun x hx => ?_⟩
      rw [el]
      by_cases v : x = z
      · rw [v, hl.1, hl.2.1, hl.2.2]
        exact ⟨hs, hn, hwr⟩
      · obtain ⟨f1, f2, f3, f4⟩ := hfe x (by omega)
        rw [f2, f3, f4]
        exact wq.2 _ f1
    · rw [er 0 q 0 y]
      refine ⟨wq.1, fun x hx => ?_⟩
      rw [el, er 11 q x y, er 12 q x y, er 13 q x y]
      exact wq.2 x hx
  · simp only [e1]
    exact CX.wc h s ((el _ _).mp hs)
  · have hq' := (el _ _).mp hq
    by_cases y : q = p
    · subst y
      rw [hz0] at c
      obtain ⟨f1, f2, f3, f4⟩ := hfe i (by omega)
      by_cases v : j = z
      · rw [v, hl.1, hl.2.1, f2, f3]
        exact hnew _ f1
      · obtain ⟨g1, g2, g3, g4⟩ := hfe j (by omega)
        rw [f2, f3, g2, g3]
        exact CX.wd h q (f i) (f j) hq' f1.1 (hmo i j a b (by omega)) g1.2
    · rw [er 0 q 0 y] at c
      rw [er 11 q i y, er 12 q i y, er 11 q j y, er 12 q j y]
      exact CX.wd h q i j hq' a b c
  · have wq := CX.wm h q ((el _ _).mp hq)
    rw [e0c q 8 (by decide), e0c q 5 (by decide)]
    by_cases y : q = p
    · subst y
      rw [hz0]
      omega
    · rw [er 0 q 0 y]
      exact wq
  · simp only [e3]
    exact (CX.ww h).1 x ((el _ _).mp hx)
  · simp only [e3, e1]
    exact (CX.ww h).2 s ((el _ _).mp hs)
  · exact wfk_cg (e3 x 5) (e14 x) (e15 x) (CX.wfk h x ((el _ _).mp hx) hn)
  · exact fun m hm => wvn_cg (e15 x m) (e 16 x m (by decide) (by decide) (by decide) (by decide)) (e 17 x m (by decide) (by decide) (by decide) (by decide)) (e 18 x m (by decide) (by decide) (by decide) (by decide)) (e 19 x m (by decide) (by decide) (by decide) (by decide)) (CX.wvk h x ((el _ _).mp hx) hn m hm)
  · exact wkk_cg (fun c _ => e3 x c) (e14 x) (fun c => e1 _ c) (CX.wkk h x ((el _ _).mp hx) hn)
  · have hq' := (el _ _).mp hq
    rw [ew]
    by_cases y : q = p
    · subst y
      rw [hz0] at hx
      by_cases v : x = z
      · rw [v, hl.1, hl.2.1, hl.2.2]
        exact hw
      · obtain ⟨f1, f2, f3, f4⟩ := hfe x (by omega)
        rw [f2, f3, f4]
        exact h.we q _ hq' f1
    · rw [er 0 q 0 y] at hx
      rw [er 11 q x y, er 12 q x y, er 13 q x y]
      exact h.we q x hq' hx
def cnH (σ : ST) (p c : Int) : ST := up (up (up σ 0 p 4 (σ 0 p 4 + 1)) 0 p 7 c) 0 p 6 (σ 0 p 6 + c)
def cnM (σ : ST) (p c : Int) : ST := up (up (up σ 0 p 5 (σ 0 p 5 + 1)) 0 p 7 c) 0 p 6 (σ 0 p 6 + c)
theorem up_0 {σ : ST} {k c x k' c' : Int} : up σ 0 k c x 0 k' c' = if c' = c ∧ k' = k then x else σ 0 k' c' := by
  by_cases h : c' = c ∧ k' = k
  · rw [if_pos h, h.1, h.2, up_at]
  · rw [if_neg h, up_ne (fun q => h ⟨q.2.2, q.2.1⟩)]
theorem cnH_ne {c r c' : Int} (h : r ≠ p) : cnH σ p c 0 r c' = σ 0 r c' := by
  unfold cnH
  rw [up_ne (fun q => h q.2.1), up_ne (fun q => h q.2.1), up_ne (fun q => h q.2.1)]
theorem cnM_ne {c r c' : Int} (h : r ≠ p) : cnM σ p c 0 r c' = σ 0 r c' := by
  unfold cnM
  rw [up_ne (fun q => h q.2.1), up_ne (fun q => h q.2.1), up_ne (fun q => h q.2.1)]
theorem cnH_at (σ : ST) (p c : Int) : cnH σ p c 0 p 4 = σ 0 p 4 + 1 ∧ cnH σ p c 0 p 5 = σ 0 p 5 ∧ cnH σ p c 0 p 6 = σ 0 p 6 + c ∧ cnH σ p c 0 p 7 = c := ⟨up_at σ 0 p 4 _, rfl, up_at _ 0 p 6 _, up_at (up σ 0 p 4 (σ 0 p 4 + 1)) 0 p 7 c⟩
theorem cnM_at (σ : ST) (p c : Int) : cnM σ p c 0 p 4 = σ 0 p 4 ∧ cnM σ p c 0 p 5 = σ 0 p 5 + 1 ∧ cnM σ p c 0 p 6 = σ 0 p 6 + c ∧ cnM σ p c 0 p 7 = c := ⟨rfl, up_at σ 0 p 5 _, up_at _ 0 p 6 _, up_at (up σ 0 p 5 (σ 0 p 5 + 1)) 0 p 7 c⟩
def adE (σ : ST) (p z s n w : Int) : ST := up (up (up (up σ 11 p z s) 12 p z n) 13 p z w) 0 p 0 (z + 1)
theorem adE_f {z s w : Int} (t : Nat) (r c : Int) (h : ¬ (r = p ∧ (t = 11 ∨ t = 12 ∨ t = 13 ∨ (t = 0 ∧ c = 0)))) : adE σ p z s n w t r c = σ t r c := by
  unfold adE
  rw [up_ne (by omega), up_ne (by omega), up_ne (by omega), up_ne (by omega)]
theorem adE_o {z s w : Int} (t : Nat) (c : Int) (ht : t = 11 ∨ t = 12 ∨ t = 13) (h : c ≠ z) : adE σ p z s n w t p c = σ t p c := by
  unfold adE
  rw [up_ne (by omega), up_ne (by omega), up_ne (by omega), up_ne (by omega)]
theorem adE_n (σ : ST) (p z s n w : Int) : adE σ p z s n w 11 p z = s ∧ adE σ p z s n w 12 p z = n ∧ adE σ p z s n w 13 p z = w ∧ adE σ p z s n w 0 p 0 = z + 1 := ⟨up_at σ 11 p z s, up_at (up σ 11 p z s) 12 p z n, up_at (up (up σ 11 p z s) 12 p z n) 13 p z w, up_at _ 0 p 0 _⟩
theorem CO.ad {z s w : Int} (h : CO σ L Sc T) (hp : Lv σ 0 p) (hz : z = σ 0 p 0) (hz3 : σ 0 p 0 < 3) (hs : Lv σ 1 s) (hn : 0 ≤ n ∧ n < 12) (hw : w = eW σ L Sc s n) (hwr : -1 ≤ w ∧ w ≤ 24) (hnew : ∀ e, (0 ≤ e ∧ e < σ 0 p 0) → ¬ (σ 11 p e = s ∧ σ 12 p e = n)) (hm : σ 0 p 0 + σ 0 p 8 + 1 ≤ σ 0 p 5) : CO (adE σ p z s n w) L Sc T ∧ AgV σ (adE σ p z s n w) := by
  have w0 := (h.wp p hp).1
  obtain ⟨n1, n2, n3, n4⟩ := adE_n σ p z s n w
  exact h.en (z := z) (f := fun e => e) (s := s) (w := w) (n := n) hp (fun t r c q => adE_f t r c q) (by omega) (by omega) n4 (fun e he => ⟨by omega, adE_o 11 e (by omega) (by omega), adE_o 12 e (by omega) (by omega), adE_o 13 e (by omega) (by omega)⟩) (fun e e' _ a _ => a) ⟨n1, n2, n3⟩ hs hn hw hwr hnew hm
theorem CO.ad3 {s w : Int} (h : CO σ L Sc T) (hp : Lv σ 0 p) (hz3 : σ 0 p 0 = 3) (hs : Lv σ 1 s) (hn : 0 ≤ n ∧ n < 12) (hw : w = eW σ L Sc s n) (hwr : -1 ≤ w ∧ w ≤ 24) (hnew : ∀ e, (0 ≤ e ∧ e < σ 0 p 0) → ¬ (σ 11 p e = s ∧ σ 12 p e = n)) (hm : σ 0 p 0 + σ 0 p 8 + 1 ≤ σ 0 p 5) : CO (adE (tkE σ p 0) p 2 s n w) L Sc T ∧ AgV σ (adE (tkE σ p 0) p 2 s n w) := by
  obtain ⟨n1, n2, n3, n4⟩ := adE_n (tkE σ p 0) p 2 s n w
  have ek : ∀ t r c, ¬ (r = p ∧ (t = 11 ∨ t = 12 ∨ t = 13 ∨ (t = 0 ∧ c = 0))) → tkE σ p 0 t r c = σ t r c := by
    intro t r c q
    unfold tkE
    rw [up_ne (by omega)]
    exact if_neg (by omega)
  have et : ∀ t e, (t = 11 ∨ t = 12 ∨ t = 13) → (0 ≤ e ∧ e < 2) → adE (tkE σ p 0) p 2 s n w t p e = σ t p (e + 1) := by
    intro t e ht he
    rw [adE_o t e ht (by omega)]
    unfold tkE
    rw [up_ne (by omega)]
    exact if_pos ⟨ht, rfl, by omega, by omega⟩
  exact h.en (z := 2) (f := fun e => e + 1) (s := s) (w := w) (n := n) hp (fun t r c q => (adE_f t r c q).trans (ek t r c q)) (by omega) (by omega) n4 (fun e he => ⟨by omega, et 11 e (by omega) he, et 12 e (by omega) he, et 13 e (by omega) he⟩) (fun e e' _ a _ => by omega) ⟨n1, n2, n3⟩ hs hn hw hwr hnew hm
/-- what a read at a place tells of the counts -/
def RC (σ σ' : ST) (p c : Int) : Prop := σ' 99 1 0 = σ 99 1 0 ∧ sumI (fun p => σ' 0 p 6) 6 = sumI (fun p => σ 0 p 6) 6 + c ∧ sumI (fun p => σ' 0 p 4) 6 + sumI (fun p => σ' 0 p 5) 6 = sumI (fun p => σ 0 p 4) 6 + sumI (fun p => σ 0 p 5) 6 + 1 ∧ σ' 0 p 7 = c
theorem RC.of {c : Int} (hp : Lv σ 0 p) (h1 : σ' 99 1 0 = σ 99 1 0) (hr : ∀ r c, r ≠ p → (c = 4 ∨ c = 5 ∨ c = 6) → σ' 0 r c = σ 0 r c) (h6 : σ' 0 p 6 = σ 0 p 6 + c) (h45 : σ' 0 p 4 + σ' 0 p 5 = σ 0 p 4 + σ 0 p 5 + 1) (h7 : σ' 0 p 7 = c) : RC σ σ' p c := by
  have hp6 : 0 ≤ p ∧ p < ((6 : Nat) : Int) := hp
  refine ⟨h1, ?_, ?_, h7⟩
  · rw [sumI_one (p := p) 6 (fun j hj => hr j 6 hj (by omega)), if_pos hp6]
    omega
  · rw [sumI_one (p := p) (F := fun p => σ 0 p 4) 6 (fun j hj => hr j 4 hj (by omega)), sumI_one (p := p) (F := fun p => σ 0 p 5) 6 (fun j hj => hr j 5 hj (by omega)), if_pos hp6, if_pos hp6]
    omega
end RD
theorem s_readAt {κ : KK} {A : Nat → Int → Nat} {σ : ST} {g : GG} {L Sc : Int → List Int} {T : Int} {p k n c : Int} (hc : CO σ L Sc T) (hp : Lv σ 0 p) (hk : Lv σ 3 k) (hn : 0 ≤ n ∧ n < 12) (hq : PU κ A MX4_costAt 3 σ [vr A 0 p, vr A 3 k, .int (iI n)] (.int (iI c))) (hh : HR κ A g σ) : Spec κ MX4_readAt 4 0 0 [vr A 4 0, .int (iI p), .int (iI k), .int (iI n)] g (fun w h => ∃ σ', HR κ A h σ' ∧ w = some (.int (iI (rdv σ (lo L k) 6 n))) ∧ CO σ' L Sc (T + 1) ∧ AgV σ σ' ∧ RC σ σ' p c) := by
  have hT := hc.wt
  have hL := hc.wl
  have hS := hc.ws
  have hP := hc.wp
  have hF' := hc.wf
  have hV := hc.wv
  have hkd := kd3 hk
  have hz := wt_sz hT hk
  have hs2 := hS.2.1
  have hsd := (hT.2.2 k hk).2.2.2.1
  have hc0 := hc
  refine e_start rfl (by show (lg_sl _).length ≤ 7; simp [lg_sl, cat_rf, cat_i, cat_l, cat_r, cat_n]) (lv := [(0, vr A 4 0), (1, .int (iI p)), (2, .int (iI k)), (3, .int (iI n))]) (by simp [lv_args, cat_rf, cat_i, cat_l, cat_r, cat_n]) ?_
  by_cases hkn : ∃ e, (0 ≤ e ∧ e < σ 0 p 0) ∧ σ 11 p e = σ 3 k 2 ∧ σ 12 p e = n
  · refine r_aload_nO dX4_readAt_0 rfl rfl ?_
    refine r_iload_n dX4_readAt_1 rfl rfl ?_
    refine e_callVP (z := MX4_placeAt) dX4_readAt_2 ml_X4_155 cz_X4_placeAt mk_X4_placeAt ms_X4_placeAt cb4 (by decide) (s_placeAt hp) rfl rfl (by simp [cat_rf, cat_i, cat_l, cat_r, cat_n]) (by decide) (by assumption) (lv1 _ 4 (fun _ => rfl)) (fun g hh => ?_)
    refine r_pc 5 rfl ?_
    refine r_astoreO dX4_readAt_5 (by decide) ?_
    refine r_aload_nO dX4_readAt_7 rfl rfl ?_
    refine r_iload_n dX4_readAt_8 rfl rfl ?_
    refine e_callVP (z := MX4_thingAt) dX4_readAt_9 ml_X4_69 cz_X4_thingAt mk_X4_thingAt ms_X4_thingAt cb4 (by decide) (s_thingAt hk hT) rfl rfl (by simp [cat_rf, cat_i, cat_l, cat_r, cat_n]) (by decide) (by assumption) (lv1 _ 4 (fun _ => rfl)) (fun g hh => ?_)
    refine r_pc 12 rfl ?_
    refine r_astoreO dX4_readAt_12 (by decide) ?_
    refine r_stw (by repeat' first | exact True.intro | refine And.intro (fun h => by first | rfl | exact cat_rf _ | exact absurd h (by decide)) ?_) ?_
    refine r_iload_n dX4_readAt_14 rfl rfl ?_
    refine e_callSV (z := MX4_needName) dX4_readAt_15 ml_X4_72 cz_X4_needName mk_X4_needName (s_needName hn) rfl rfl (by simp [cat_rf, cat_i, cat_l, cat_r, cat_n]) (by decide) (by assumption) (fun g hh => ?_)
    refine r_pc 18 rfl ?_
    refine r_aloadO dX4_readAt_18 rfl ?_
    refine r_aloadO dX4_readAt_20 rfl ?_
    refine e_getR (t := 3) (k := 2) (t1 := 1) 2 dX4_readAt_22 cb3 (by decide) mf_X4_62 (by rfl) (by rfl) (by decide) rfl (by assumption) (by assumption) ?_
    refine r_iload_n dX4_readAt_25 rfl rfl ?_
    refine e_callVP (z := MX0_knows) dX4_readAt_26 ml_X4_159 cz_X0_knows mk_X0_knows ms_X0_knows cb0 (by decide) (s_knows hp hP hsd hn) rfl rfl (by simp [cat_rf, cat_i, cat_l, cat_r, cat_n]) (by decide) (by assumption) (by assumption) (fun g hh => ?_)
    refine r_pc 29 rfl ?_
    refine e_iv (bI_t hkn) ?_
    refine r_istore dX4_readAt_29 (by decide) ?_
    refine r_stw (by repeat' first | exact True.intro | refine And.intro (fun h => by first | rfl | exact cat_rf _ | exact absurd h (by decide)) ?_) ?_
    refine r_aloadO dX4_readAt_31 rfl ?_
    refine r_iload dX4_readAt_33 rfl ?_
    refine r_aloadO dX4_readAt_35 rfl ?_
    refine r_aloadO dX4_readAt_37 rfl ?_
    refine r_iload_n dX4_readAt_39 rfl rfl ?_
    refine e_callSP (z := MX4_costAt) dX4_readAt_40 ml_X4_163 cz_X4_costAt mk_X4_costAt hq rfl rfl (by simp [cat_rf, cat_i, cat_l, cat_r, cat_n]) (by decide) (by assumption) (fun g hh => ?_)
    refine r_pc 43 rfl ?_
    obtain ⟨e4, e5, e6, e7⟩ := cnH_at σ p c
    have ef : ∀ t r c', ¬ (t = 0 ∧ (c' = 4 ∨ c' = 5 ∨ c' = 6 ∨ c' = 7)) → cnH σ p c t r c' = σ t r c' := by
      intro t r c' y
      unfold cnH
      rw [up_ne (by omega), up_ne (by omega), up_ne (by omega)]
    obtain ⟨hc1, hag1⟩ := hc.cn (T' := T + 1) ef (fun r hr => by have := (CX.wm hc r hr); by_cases y : r = p; (rw [y] at this ⊢; omega); rw [cnH_ne y]; omega)
    have hrc1 : RC σ (cnH σ p c) p c := RC.of hp rfl (fun r c' a b => cnH_ne a) e6 (by omega) e7
    refine e_callVV (z := MX0_count) dX4_readAt_43 ml_X4_167 cz_X0_count mk_X0_count ms_X0_count cb0 (by decide) (s_count1 (c := c) hp) rfl rfl (by simp [cat_rf, cat_i, cat_l, cat_r, cat_n]) (by decide) (by assumption) (by assumption) (fun g hh => ?_)
    refine r_pc 46 rfl ?_
    refine r_iload dX4_readAt_46 rfl ?_
    refine e_if_ne 76 dX4_readAt_48 (by decide) ⟨by omega, by omega⟩ (fun h48 => ?_) (fun h48 => by exfalso; omega)
    refine r_pc 76 rfl ?_
    refine r_aload_nO dX4_readAt_76 rfl rfl ?_
    refine r_aloadO dX4_readAt_77 rfl ?_
    refine r_iload_n dX4_readAt_79 rfl rfl ?_
    refine e_callVP (z := MX4_valueOf) dX4_readAt_80 ml_X4_75 cz_X4_valueOf mk_X4_valueOf ms_X4_valueOf cb4 (by decide) (s_valueOf (σ := cnH σ p c) hk hn hc1.wt hc1.wl hc1.wf hc1.wv) rfl rfl (by simp [cat_rf, cat_i, cat_l, cat_r, cat_n]) (by decide) (by assumption) (lv1 _ 4 (fun _ => rfl)) (fun g hh => ?_)
    refine r_pc 83 rfl ?_
    exact r_iret dX4_readAt_83 rfl ⟨cnH σ p c, hh, by rw [← rdv_ag hag1], hc1, hag1, hrc1⟩
  · refine r_aload_nO dX4_readAt_0 rfl rfl ?_
    refine r_iload_n dX4_readAt_1 rfl rfl ?_
    refine e_callVP (z := MX4_placeAt) dX4_readAt_2 ml_X4_155 cz_X4_placeAt mk_X4_placeAt ms_X4_placeAt cb4 (by decide) (s_placeAt hp) rfl rfl (by simp [cat_rf, cat_i, cat_l, cat_r, cat_n]) (by decide) (by assumption) (lv1 _ 4 (fun _ => rfl)) (fun g hh => ?_)
    refine r_pc 5 rfl ?_
    refine r_astoreO dX4_readAt_5 (by decide) ?_
    refine r_aload_nO dX4_readAt_7 rfl rfl ?_
    refine r_iload_n dX4_readAt_8 rfl rfl ?_
    refine e_callVP (z := MX4_thingAt) dX4_readAt_9 ml_X4_69 cz_X4_thingAt mk_X4_thingAt ms_X4_thingAt cb4 (by decide) (s_thingAt hk hT) rfl rfl (by simp [cat_rf, cat_i, cat_l, cat_r, cat_n]) (by decide) (by assumption) (lv1 _ 4 (fun _ => rfl)) (fun g hh => ?_)
    refine r_pc 12 rfl ?_
    refine r_astoreO dX4_readAt_12 (by decide) ?_
    refine r_stw (by repeat' first | exact True.intro | refine And.intro (fun h => by first | rfl | exact cat_rf _ | exact absurd h (by decide)) ?_) ?_
    refine r_iload_n dX4_readAt_14 rfl rfl ?_
    refine e_callSV (z := MX4_needName) dX4_readAt_15 ml_X4_72 cz_X4_needName mk_X4_needName (s_needName hn) rfl rfl (by simp [cat_rf, cat_i, cat_l, cat_r, cat_n]) (by decide) (by assumption) (fun g hh => ?_)
    refine r_pc 18 rfl ?_
    refine r_aloadO dX4_readAt_18 rfl ?_
    refine r_aloadO dX4_readAt_20 rfl ?_
    refine e_getR (t := 3) (k := 2) (t1 := 1) 2 dX4_readAt_22 cb3 (by decide) mf_X4_62 (by rfl) (by rfl) (by decide) rfl (by assumption) (by assumption) ?_
    refine r_iload_n dX4_readAt_25 rfl rfl ?_
    refine e_callVP (z := MX0_knows) dX4_readAt_26 ml_X4_159 cz_X0_knows mk_X0_knows ms_X0_knows cb0 (by decide) (s_knows hp hP hsd hn) rfl rfl (by simp [cat_rf, cat_i, cat_l, cat_r, cat_n]) (by decide) (by assumption) (by assumption) (fun g hh => ?_)
    refine r_pc 29 rfl ?_
    refine e_iv (bI_f hkn) ?_
    refine r_istore dX4_readAt_29 (by decide) ?_
    refine r_stw (by repeat' first | exact True.intro | refine And.intro (fun h => by first | rfl | exact cat_rf _ | exact absurd h (by decide)) ?_) ?_
    refine r_aloadO dX4_readAt_31 rfl ?_
    refine r_iload dX4_readAt_33 rfl ?_
    refine r_aloadO dX4_readAt_35 rfl ?_
    refine r_aloadO dX4_readAt_37 rfl ?_
    refine r_iload_n dX4_readAt_39 rfl rfl ?_
    refine e_callSP (z := MX4_costAt) dX4_readAt_40 ml_X4_163 cz_X4_costAt mk_X4_costAt hq rfl rfl (by simp [cat_rf, cat_i, cat_l, cat_r, cat_n]) (by decide) (by assumption) (fun g hh => ?_)
    refine r_pc 43 rfl ?_
    obtain ⟨e4, e5, e6, e7⟩ := cnM_at σ p c
    have ef : ∀ t r c', ¬ (t = 0 ∧ (c' = 4 ∨ c' = 5 ∨ c' = 6 ∨ c' = 7)) → cnM σ p c t r c' = σ t r c' := by
      intro t r c' y
      unfold cnM
      rw [up_ne (by omega), up_ne (by omega), up_ne (by omega)]
    obtain ⟨hc1, hag1⟩ := hc.cn (T' := T + 1) ef (fun r hr => by have := (CX.wm hc r hr); by_cases y : r = p; (rw [y] at this ⊢; omega); rw [cnM_ne y]; omega)
    have hrc1 : RC σ (cnM σ p c) p c := RC.of hp rfl (fun r c' a b => cnM_ne a) e6 (by omega) e7
    refine e_callVV (z := MX0_count) dX4_readAt_43 ml_X4_167 cz_X0_count mk_X0_count ms_X0_count cb0 (by decide) (s_count0 (c := c) hp) rfl rfl (by simp [cat_rf, cat_i, cat_l, cat_r, cat_n]) (by decide) (by assumption) (by assumption) (fun g hh => ?_)
    refine r_pc 46 rfl ?_
    refine r_iload dX4_readAt_46 rfl ?_
    refine e_if_ne 76 dX4_readAt_48 (by decide) ⟨by omega, by omega⟩ (fun h48 => by exfalso; omega) (fun h48 => ?_)
    refine r_pc 51 rfl ?_
    refine r_aloadO dX4_readAt_51 rfl ?_
    refine e_getR (t := 3) (k := 2) (t1 := 1) 2 dX4_readAt_53 cb3 (by decide) mf_X4_62 (by rfl) (by rfl) (by decide) rfl (by assumption) (by assumption) ?_
    refine e_ifnull 76 dX4_readAt_56 (by decide) (fun h56 => ?_) (fun h56 => ?_)
    · refine r_pc 76 rfl ?_
      refine r_aload_nO dX4_readAt_76 rfl rfl ?_
      refine r_aloadO dX4_readAt_77 rfl ?_
      refine r_iload_n dX4_readAt_79 rfl rfl ?_
      refine e_callVP (z := MX4_valueOf) dX4_readAt_80 ml_X4_75 cz_X4_valueOf mk_X4_valueOf ms_X4_valueOf cb4 (by decide) (s_valueOf (σ := cnM σ p c) hk hn hc1.wt hc1.wl hc1.wf hc1.wv) rfl rfl (by simp [cat_rf, cat_i, cat_l, cat_r, cat_n]) (by decide) (by assumption) (lv1 _ 4 (fun _ => rfl)) (fun g hh => ?_)
      refine r_pc 83 rfl ?_
      exact r_iret dX4_readAt_83 rfl ⟨cnM σ p c, hh, by rw [← rdv_ag hag1], hc1, hag1, hrc1⟩
    · refine r_pc 59 rfl ?_
      have hsk : Lv σ 1 (σ 3 k 2) := ⟨h56, hsd.2⟩
      refine r_aloadO dX4_readAt_59 rfl ?_
      refine r_aloadO dX4_readAt_61 rfl ?_
      refine e_getR (t := 3) (k := 2) (t1 := 1) 2 dX4_readAt_63 cb3 (by decide) mf_X4_62 (by rfl) (by rfl) (by decide) rfl (by assumption) (by assumption) ?_
      refine r_iload_n dX4_readAt_66 rfl rfl ?_
      refine r_aloadO dX4_readAt_67 rfl ?_
      refine r_iload_n dX4_readAt_69 rfl rfl ?_
      refine e_callSP (z := MX4_wayUp) dX4_readAt_70 ml_X4_171 cz_X4_wayUp mk_X4_wayUp (s_wayUp (σ := cnM σ p c) hkd hn hc1.wt hc1.wl hc1.wf) rfl rfl (by simp [cat_rf, cat_i, cat_l, cat_r, cat_n]) (by decide) (by assumption) (fun g hh => ?_)
      refine r_pc 73 rfl ?_
      refine e_iv (wF_cg (σ := σ) _ (fun _ _ => rfl)) ?_
      have hew : wF σ n (lo L k) = eW (cnM σ p c) L Sc (σ 3 k 2) n := (ew_thing hc hk h56 hn).trans (eW_cg (σ := σ) (σ' := cnM σ p c) rfl fun _ _ => rfl).symm
      have z0 : cnM σ p c 0 p 0 = σ 0 p 0 := rfl
      have z8 : cnM σ p c 0 p 8 = σ 0 p 8 := rfl
      have hm1 : cnM σ p c 0 p 0 + cnM σ p c 0 p 8 + 1 ≤ cnM σ p c 0 p 5 := by have := CX.wm hc p hp; omega
      have hnew : ∀ e, (0 ≤ e ∧ e < cnM σ p c 0 p 0) → ¬ (cnM σ p c 11 p e = σ 3 k 2 ∧ cnM σ p c 12 p e = n) := fun e he y => hkn ⟨e, he, y⟩
      by_cases hz3 : cnM σ p c 0 p 0 = 3
      · obtain ⟨hc2, hag2⟩ := CO.ad3 (s := σ 3 k 2) (n := n) (w := wF σ n (lo L k)) hc1 hp hz3 hsk hn hew (by have := wF_r σ n (lo L k); have := lo_len hL hkd; omega) hnew hm1
        refine e_callVV (z := MX0_addEntry) dX4_readAt_73 ml_X4_174 cz_X0_addEntry mk_X0_addEntry ms_X0_addEntry cb0 (by decide) (s_addE3 (σ := cnM σ p c) (n := n) (w := wF σ n (lo L k)) hp hc1.wp hsk hz3) rfl rfl (by simp [cat_rf, cat_i, cat_l, cat_r, cat_n]) (by decide) (by assumption) (by assumption) (fun g hh => ?_)
        refine r_pc 76 rfl ?_
        have e02 : ∀ r c', c' ≠ 0 → (adE (tkE (cnM σ p c) p 0) p 2 (σ 3 k 2) n (wF σ n (lo L k))) 0 r c' = cnM σ p c 0 r c' := fun r c' a => by
          rw [adE_f _ _ _ (by omega)]
          unfold tkE
          rw [up_ne (by omega)]
          exact if_neg (by omega)
        have hrc2 : RC σ (adE (tkE (cnM σ p c) p 0) p 2 (σ 3 k 2) n (wF σ n (lo L k))) p c := ⟨hrc1.1, by rw [← hrc1.2.1]; exact congrArg (fun F => sumI F 6) (funext fun r => e02 r 6 (by decide)), by rw [← hrc1.2.2.1]; rw [show (fun p_1 => adE (tkE (cnM σ p c) p 0) p 2 (σ 3 k 2) n (wF σ n (lo L k)) 0 p_1 4) = (fun p_1 => cnM σ p c 0 p_1 4) from funext fun r => e02 r 4 (by decide), show (fun p_1 => adE (tkE (cnM σ p c) p 0) p 2 (σ 3 k 2) n (wF σ n (lo L k)) 0 p_1 5) = (fun p_1 => cnM σ p c 0 p_1 5) from funext fun r => e02 r 5 (by decide)], by rw [e02 p 7 (by decide)]; exact hrc1.2.2.2⟩
        refine r_aload_nO dX4_readAt_76 rfl rfl ?_
        refine r_aloadO dX4_readAt_77 rfl ?_
        refine r_iload_n dX4_readAt_79 rfl rfl ?_
        refine e_callVP (z := MX4_valueOf) dX4_readAt_80 ml_X4_75 cz_X4_valueOf mk_X4_valueOf ms_X4_valueOf cb4 (by decide) (s_valueOf (σ := adE (tkE (cnM σ p c) p 0) p 2 (σ 3 k 2) n (wF σ n (lo L k))) hk hn hc2.wt hc2.wl hc2.wf hc2.wv) rfl rfl (by simp [cat_rf, cat_i, cat_l, cat_r, cat_n]) (by decide) (by assumption) (lv1 _ 4 (fun _ => rfl)) (fun g hh => ?_)
        refine r_pc 83 rfl ?_
        exact r_iret dX4_readAt_83 rfl ⟨_, hh, by rw [← rdv_ag (hag1.tr hag2)], hc2, (hag1.tr hag2), hrc2⟩
      · obtain ⟨hc2, hag2⟩ := CO.ad (z := cnM σ p c 0 p 0) (s := σ 3 k 2) (n := n) (w := wF σ n (lo L k)) hc1 hp rfl (by have := (hc1.wp p hp).1; omega) hsk hn hew (by have := wF_r σ n (lo L k); have := lo_len hL hkd; omega) hnew hm1
        refine e_callVV (z := MX0_addEntry) dX4_readAt_73 ml_X4_174 cz_X0_addEntry mk_X0_addEntry ms_X0_addEntry cb0 (by decide) (s_addE (σ := cnM σ p c) (n := n) (w := wF σ n (lo L k)) hp hc1.wp hsk (by have := (hc1.wp p hp).1; omega)) rfl rfl (by simp [cat_rf, cat_i, cat_l, cat_r, cat_n]) (by decide) (by assumption) (by assumption) (fun g hh => ?_)
        refine r_pc 76 rfl ?_
        have e02 : ∀ r c', c' ≠ 0 → (adE (cnM σ p c) p (cnM σ p c 0 p 0) (σ 3 k 2) n (wF σ n (lo L k))) 0 r c' = cnM σ p c 0 r c' := fun r c' a => by
          rw [adE_f _ _ _ (by omega)]
        have hrc2 : RC σ (adE (cnM σ p c) p (cnM σ p c 0 p 0) (σ 3 k 2) n (wF σ n (lo L k))) p c := ⟨hrc1.1, by rw [← hrc1.2.1]; exact congrArg (fun F => sumI F 6) (funext fun r => e02 r 6 (by decide)), by rw [← hrc1.2.2.1]; rw [show (fun p_1 => adE (cnM σ p c) p (cnM σ p c 0 p 0) (σ 3 k 2) n (wF σ n (lo L k)) 0 p_1 4) = (fun p_1 => cnM σ p c 0 p_1 4) from funext fun r => e02 r 4 (by decide), show (fun p_1 => adE (cnM σ p c) p (cnM σ p c 0 p 0) (σ 3 k 2) n (wF σ n (lo L k)) 0 p_1 5) = (fun p_1 => cnM σ p c 0 p_1 5) from funext fun r => e02 r 5 (by decide)], by rw [e02 p 7 (by decide)]; exact hrc1.2.2.2⟩
        refine r_aload_nO dX4_readAt_76 rfl rfl ?_
        refine r_aloadO dX4_readAt_77 rfl ?_
        refine r_iload_n dX4_readAt_79 rfl rfl ?_
        refine e_callVP (z := MX4_valueOf) dX4_readAt_80 ml_X4_75 cz_X4_valueOf mk_X4_valueOf ms_X4_valueOf cb4 (by decide) (s_valueOf (σ := adE (cnM σ p c) p (cnM σ p c 0 p 0) (σ 3 k 2) n (wF σ n (lo L k))) hk hn hc2.wt hc2.wl hc2.wf hc2.wv) rfl rfl (by simp [cat_rf, cat_i, cat_l, cat_r, cat_n]) (by decide) (by assumption) (lv1 _ 4 (fun _ => rfl)) (fun g hh => ?_)
        refine r_pc 83 rfl ?_
        exact r_iret dX4_readAt_83 rfl ⟨_, hh, by rw [← rdv_ag (hag1.tr hag2)], hc2, (hag1.tr hag2), hrc2⟩
