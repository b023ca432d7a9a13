/-! shut, remove, adopt: what stays -/
section MV
variable {σ σ' : ST} {L Sc : Int → List Int} {T X k n q : Int}
theorem CX.u3 {x c : Int} (h : CX σ L Sc T X) (hc : c = 3 ∨ c = 4) : CX (up σ 3 x c 1) L Sc T X := by
  have e3 : ∀ k c', c' ≠ c → up σ 3 x c 1 3 k c' = σ 3 k c' := fun k c' a => up_ne (fun q => a q.2.2)
  have e : ∀ t k c', t ≠ 3 → up σ 3 x c 1 t k c' = σ t k c' := fun t k c' a => up_ne (fun q => a q.1)
  have e34 : ∀ k, ¬ σ 3 k 4 = 0 → ¬ up σ 3 x c 1 3 k 4 = 0 := fun k a => by
    rw [up_3]
    split
    · decide
    · exact a
  refine ⟨⟨h.wt.1, h.wt.2.1, fun k hk => ?_⟩, fun k hk => ?_, h.ws, h.wp, h.wc, h.wd, h.wm, ⟨fun k hk => ?_, fun s hk => ?_⟩, fun k hk hx => ?_, fun k hk hx => ?_, fun k hk hx => ?_, fun p x hp hx hX => ?_⟩
  · obtain ⟨a1, a2, a3, a4, a5, a6, a7⟩ := h.wt.2.2 k hk
    rw [e3 k 0 (by omega), e3 k 1 (by omega), e3 k 2 (by omega), e3 k 5 (by omega)]
    refine ⟨a1, a2, a3, a4, ?_, ?_, a7⟩
    · rw [up_3]
      split
      · exact Or.inr rfl
      · exact a5
    · rw [up_3]
      split
      · exact Or.inr rfl
      · exact a6
  · rw [e3 k 1 (by omega)]
    exact h.wl k hk
  · rw [e3 k 1 (by omega)]
    exact fun a => e34 _ (h.ww.1 k hk a)
  · exact fun a => e34 _ (h.ww.2 s hk a)
  · exact wfk_cg (e3 k 5 (by omega)) (fun j => e 14 k j (by decide)) (fun j => e 15 k j (by decide)) (h.wfk k hk hx)
  · exact fun n hn => wvn_cg (e 15 k n (by decide)) (e 16 k n (by decide)) (e 17 k n (by decide)) (e 18 k n (by decide)) (e 19 k n (by decide)) (h.wvk k hk hx n hn)
  · exact wkk_cg (σ := σ) (fun c' hc' => e3 k c' (by omega)) (fun j => e 14 k j (by decide)) (fun c' => e 1 _ c' (by decide)) (h.wkk k hk hx)
  · exact (h.we p x hp hx hX).trans (eW_cg (σ := σ) (σ' := up σ 3 _ c 1) (e 1 _ 2 (by decide)) fun k _ => e 15 k _ (by decide)).symm
theorem wvk_ag {τ : ST} (h : AgV τ σ) (w : WVk τ k) : WVk σ k := fun n hn => wvn_cg (h.1 15 k n rfl) (h.1 16 k n rfl) (h.1 17 k n rfl) (h.1 18 k n rfl) (h.1 19 k n rfl) (w n hn)
/-! a field goes -/
theorem tk_5 (σ : ST) (k q n : Int) : tkF σ k q n 3 k 5 = σ 3 k 5 - 1 := up_at (shO σ k q (σ 3 k 5 - 1)) 3 k 5 _
theorem tk_14 (σ : ST) (k q n j : Int) : tkF σ k q n 14 k j = if q ≤ j ∧ j < σ 3 k 5 - 1 then σ 14 k (j + 1) else σ 14 k j := by
  show shO σ k q (σ 3 k 5 - 1) 14 k j = _
  unfold shO
  by_cases h : q ≤ j ∧ j < σ 3 k 5 - 1
  · rw [if_pos ⟨rfl, rfl, h⟩, if_pos h]
  · rw [if_neg (fun z => h z.2.2), if_neg h]
theorem tk_15 (σ : ST) (k q n m : Int) : tkF σ k q n 15 k m = if m = n then 0 else σ 15 k m := by
  show up (up (shO σ k q (σ 3 k 5 - 1)) 3 k 5 (σ 3 k 5 - 1)) 15 k n 0 15 k m = _
  rw [up_15]
  by_cases h : m = n
  · rw [if_pos ⟨h, rfl⟩, if_pos h]
  · rw [if_neg (fun z => h z.1), if_neg h]
    show shO σ k q (σ 3 k 5 - 1) 15 k m = _
    exact if_neg (by omega)
theorem tk_rx (σ : ST) (k q n : Int) : RX σ k (tkF σ k q n) := by
  have h0 : RX σ k (shO σ k q (σ 3 k 5 - 1)) := fun t r c z => if_neg (by omega)
  exact (((((h0.u 3 5 _ (by omega)).u 15 n 0 (by omega)).u 16 n _ (by omega)).u 17 n _ (by omega)).u 18 n _ (by omega)).u 19 n 0 (by omega)
theorem tk_wf (h : WFk σ k) (hn : 0 ≤ n ∧ n < 12) (hq : 0 ≤ q ∧ q < σ 3 k 5) (hqn : σ 14 k q = n) : WFk (tkF σ k q n) k := by
  obtain ⟨h1, h2, h3⟩ := h
  have hj : ∀ j, (0 ≤ j ∧ j < σ 3 k 5 - 1) → ∃ i, (0 ≤ i ∧ i < σ 3 k 5) ∧ i ≠ q ∧ tkF σ k q n 14 k j = σ 14 k i ∧ i = (if q ≤ j then j + 1 else j) := by
    intro j hj
    rw [tk_14]
    by_cases z : q ≤ j
    · rw [if_pos ⟨z, hj.2⟩, if_pos z]
      exact ⟨j + 1, by omega, by omega, rfl, rfl⟩
    · rw [if_neg (fun y => z y.1), if_neg z]
      exact ⟨j, by omega, by omega, rfl, rfl⟩
  unfold WFk
  rw [tk_5]
  refine ⟨fun j hj0 => ?_, fun m hm => ⟨?_, fun hne => ?_⟩, fun i j hi hj0 e => ?_⟩
  · obtain ⟨i, a, b, c, -⟩ := hj j hj0
    rw [c, tk_15, if_neg (fun y => b (h3 i q a hq (y.trans hqn.symm)))]
    exact h1 i a
  · rw [tk_15]
    split
    · exact Or.inl rfl
    · exact (h2 m hm).1
  · rw [tk_15] at hne
    by_cases z : m = n
    · rw [if_pos z] at hne
      exact absurd rfl hne
    · rw [if_neg z] at hne
      obtain ⟨i, a, b⟩ := (h2 m hm).2 hne
      have hiq : i ≠ q := fun y => z (by rw [← b, y, hqn])
      by_cases y : q < i
      · refine ⟨i - 1, by omega, ?_⟩
        rw [tk_14, if_pos (by omega), show i - 1 + 1 = i by omega]
        exact b
      · refine ⟨i, by omega, ?_⟩
        rw [tk_14, if_neg (by omega)]
        exact b
  · obtain ⟨a, a1, a2, a3, a4⟩ := hj i hi
    obtain ⟨b, b1, b2, b3, b4⟩ := hj j hj0
    rw [a3, b3] at e
    have := h3 a b a1 b1 e
    by_cases z1 : q ≤ i <;> by_cases z2 : q ≤ j <;> simp only [z1, z2, if_true, if_false, if_pos, if_neg, not_false_iff] at a4 b4 <;> omega
theorem tk_wv (h : WVk σ k) : WVk (tkF σ k q n) k := by
  intro m hm
  by_cases z : m = n
  · subst z
    have e16 : tkF σ k q m 16 k m = -1000 := up_at _ 16 k m _
    have e17 : tkF σ k q m 17 k m = -1 := up_at _ 17 k m _
    have e18 : tkF σ k q m 18 k m = -1 := up_at _ 18 k m _
    have e19 : tkF σ k q m 19 k m = 0 := up_at _ 19 k m _
    have e15 : tkF σ k q m 15 k m = 0 := by rw [tk_15, if_pos rfl]
    unfold WVn
    rw [e15, e16, e17, e18, e19]
    exact ⟨by omega, by omega, by omega, by omega, fun _ => rfl, fun a => absurd rfl a⟩
  · have e : ∀ t, t = 15 ∨ t = 16 ∨ t = 17 ∨ t = 18 ∨ t = 19 → tkF σ k q n t k m = σ t k m := by
      intro t ht
      unfold tkF
      rw [up_ne (fun y => z y.2.2), up_ne (fun y => z y.2.2), up_ne (fun y => z y.2.2), up_ne (fun y => z y.2.2), up_ne (fun y => z y.2.2), up_ne (by omega)]
      exact if_neg (by omega)
    exact wvn_cg (e 15 (by omega)) (e 16 (by omega)) (e 17 (by omega)) (e 18 (by omega)) (e 19 (by omega)) (h m hm)
def canR (σ : ST) (k n : Int) : Prop := ¬ σ 15 k n = 0 ∧ ¬ isFx (σ 15 k n)
theorem tk_co (h : CO σ L Sc T) (hk : Lv σ 3 k) (hn : 0 ≤ n ∧ n < 12) (hq : 0 ≤ q ∧ q < σ 3 k 5) (hqn : σ 14 k q = n) : CX (up (tkF σ k q n) 3 k 2 (-1)) L Sc T k ∧ (DE (up (tkF σ k q n) 3 k 2 (-1)) L k σ' → CO σ' L Sc T ∧ AgV (tkF σ k q n) σ' ∧ σ 99 1 0 ≤ σ' 99 1 0) := by
  have hz := wt_sz h.wt hk
  have hs2 := h.ws.2.1
  have hx : CX (up (tkF σ k q n) 3 k 2 (-1)) L Sc T k := (h.cx k).row ((tk_rx σ k q n).u 3 2 (-1) (by omega)) (by rw [up_at]; omega) (by show 0 ≤ tkF σ k q n 3 k 5 ∧ tkF σ k q n 3 k 5 ≤ 12; rw [tk_5]; omega)
  refine ⟨hx, fun hD => ?_⟩
  have hs := hD.1
  have hag : AgV (tkF σ k q n) σ' := ((AgV.rf' _).u32 k (-1)).tr hs.ag
  have e2 : σ' 3 k 2 = -1 := (hs.1 3 k 2 (by decide) (by decide) (by decide) (by decide)).trans (up_at _ _ _ _ _)
  have e99 : σ' 99 1 0 = σ 99 1 0 := hs.1 99 1 0 (by decide) (by decide) (by decide) (by decide)
  exact ⟨(hx.same hs hD.2.1).co (wfk_ag hag (tk_wf (h.wf k hk) hn hq hqn)) (wvk_ag hag (tk_wv (CX.wvk h k hk (lv_m1 hk)))) (fun z => by omega) (fun p e a b z => absurd z (hx.nk hk hD p e a b)), hag, by omega⟩
/-! another parent -/
def upto (k : Int) : List Int → List Int
  | [] => []
  | a :: l => if a = k then [a] else a :: upto k l
def adL (L : Int → List Int) (k q : Int) : Int → List Int := fun x => if k ∈ L x then upto k (L x) ++ lo L q else L x
theorem lo_sfx (hE : ∀ x, Lv σ 3 x → L x = x :: lo L (σ 3 x 1)) (hT : ∀ x, Lv σ 3 x → -1 ≤ σ 3 x 1 ∧ σ 3 x 1 < σ 99 3 0) : ∀ (l : List Int) (v : Int), lo L v = l → (-1 ≤ v ∧ v < σ 99 3 0) → l.Nodup ∧ ∀ y, y ∈ l → Lv σ 3 y ∧ ∃ pre, l = pre ++ L y := by
  intro l
  induction l with
  | nil => intro v h hv; exact ⟨List.nodup_nil, fun y hy => (by cases hy)⟩
  | cons a l ih =>
    intro v h hv
    have hv0 : 0 ≤ v := by
      by_cases z : v < 0
      · rw [lo_neg z] at h
        cases h
      · omega
    have hvk : Lv σ 3 v := ⟨hv0, hv.2⟩
    rw [lo_pos hv0, hE v hvk] at h
    injection h with h1 h2
    obtain ⟨i1, i2⟩ := ih _ h2 (hT v hvk)
    refine ⟨?_, fun y hy => ?_⟩
    · rw [List.nodup_cons]
      refine ⟨fun z => ?_, i1⟩
      obtain ⟨-, pre, e⟩ := i2 a z
      have e2 : l = pre ++ (a :: l) := by
        rw [← h1] at e ⊢
        rw [hE v hvk, h2] at e
        exact e
      have e3 := congrArg List.length e2
      rw [List.length_append, List.length_cons] at e3
      omega
    · rcases List.mem_cons.mp hy with e | hy
      · rw [e, ← h1]
        exact ⟨hvk, [], by rw [List.nil_append, hE v hvk, h2]⟩
      · obtain ⟨j1, pre, e⟩ := i2 y hy
        refine ⟨j1, a :: pre, ?_⟩
        rw [List.cons_append, ← e]
theorem wl_of (hN : σ 99 3 0 ≤ 24) (hE : ∀ x, Lv σ 3 x → L x = x :: lo L (σ 3 x 1)) (hT : ∀ x, Lv σ 3 x → -1 ≤ σ 3 x 1 ∧ σ 3 x 1 < σ 99 3 0) : WL σ L := by
  intro x hx
  refine ⟨hE x hx, ?_⟩
  obtain ⟨i1, i2⟩ := lo_sfx hE hT (lo L x) x rfl ⟨by have := hx.1; omega, hx.2⟩
  rw [lo_pos hx.1] at i1 i2
  have := pigeon (σ 99 3 0).toNat (L x) i1 (fun y hy => ⟨(i2 y hy).1.1, by have h3 := (i2 y hy).1; have h4 : y < σ 99 3 0 := h3.2; have h5 := h3.1; omega⟩)
  omega
theorem adL_o {x : Int} (h : k ∉ L x) : adL L k q x = L x := if_neg h
theorem adL_i {x : Int} (h : k ∈ L x) : adL L k q x = upto k (L x) ++ lo L q := if_pos h
theorem lo_adL {v : Int} (h : k ∉ lo L v) : lo (adL L k q) v = lo L v := by
  by_cases z : v < 0
  · rw [lo_neg z, lo_neg z]
  · rw [lo_pos (by omega)] at h ⊢
    rw [lo_pos (by omega)]
    exact adL_o h
theorem wl_ad (hT : WT σ) (hL : WL σ L) (hk : Lv σ 3 k) (hq : -1 ≤ q ∧ q < σ 99 3 0) (hkl : k ∉ lo L q) : WL (up σ 3 k 1 q) (adL L k q) := by
  have e3 : ∀ x, up σ 3 k 1 q 3 x 1 = if x = k then q else σ 3 x 1 := by
    intro x
    rw [up_3]
    by_cases z : x = k
    · rw [if_pos ⟨rfl, z⟩, if_pos z]
    · rw [if_neg (fun y => z y.2), if_neg z]
  refine wl_of hT.2.1.2 (fun x hx => ?_) (fun x hx => ?_)
  · rw [e3]
    have hx' : Lv σ 3 x := hx
    have hLx := (hL x hx').1
    by_cases z : x = k
    · subst z
      have hin : x ∈ L x := by rw [hLx]; exact List.mem_cons_self
      rw [if_pos rfl, lo_adL hkl, adL_i hin, hLx, upto, if_pos rfl]
      rfl
    · rw [if_neg z]
      by_cases y : k ∈ L x
      · have y2 : k ∈ lo L (σ 3 x 1) := by
          rw [hLx] at y
          exact (List.mem_cons.mp y).resolve_left (fun w => z w.symm)
        have hp : 0 ≤ σ 3 x 1 := by
          by_cases w : σ 3 x 1 < 0
          · rw [lo_neg w] at y2
            cases y2
          · omega
        rw [adL_i y, hLx, upto, if_neg z, lo_pos hp] at *
        rw [lo_pos hp, adL_i y2]
        rfl
      · have y2 : k ∉ lo L (σ 3 x 1) := fun w => y (by rw [hLx]; exact List.mem_cons_of_mem _ w)
        rw [lo_adL y2, adL_o y]
        exact hLx
  · rw [e3]
    split
    · exact hq
    · exact (hT.2.2 x hx).2.2.1
theorem CX.par (h : CX σ L Sc T k) (hk : Lv σ 3 k) (hE : ∀ p e, Lv σ 0 p → (0 ≤ e ∧ e < σ 0 p 0) → k ∉ lo L (σ 1 (σ 11 p e) 2)) (hq : -1 ≤ q ∧ q < σ 99 3 0) (hkl : k ∉ lo L q) (hw : 0 ≤ q → ¬ σ 3 q 4 = 0) : CX (up σ 3 k 1 q) (adL L k q) Sc T k ∧ (∀ p e, Lv σ 0 p → (0 ≤ e ∧ e < σ 0 p 0) → σ 13 p e = eW (up σ 3 k 1 q) (adL L k q) Sc (σ 11 p e) (σ 12 p e)) := by
  have e3 : ∀ x c, c ≠ 1 → up σ 3 k 1 q 3 x c = σ 3 x c := fun x c a => up_ne (fun y => a y.2.2)
  have ex : ∀ x c, x ≠ k → up σ 3 k 1 q 3 x c = σ 3 x c := fun x c a => up_ne (fun y => a y.2.1)
  have e31 : ∀ x, up σ 3 k 1 q 3 x 1 = if x = k then q else σ 3 x 1 := by
    intro x
    rw [up_3]
    by_cases z : x = k
    · rw [if_pos ⟨rfl, z⟩, if_pos z]
    · rw [if_neg (fun y => z y.2), if_neg z]
  have hall : ∀ p e, Lv σ 0 p → (0 ≤ e ∧ e < σ 0 p 0) → σ 13 p e = eW (up σ 3 k 1 q) (adL L k q) Sc (σ 11 p e) (σ 12 p e) := by
    intro p e hp he
    rw [h.we p e hp he (hE p e hp he)]
    unfold eW
    show _ = if _ then _ else wy (wF (up σ 3 k 1 q) _ (lo (adL L k q) (σ 1 (σ 11 p e) 2)))
    rw [lo_adL (hE p e hp he), wF_cg (σ := σ) (σ' := up σ 3 k 1 q) _ (fun _ _ => rfl)]
  refine ⟨⟨⟨h.wt.1, h.wt.2.1, fun x hx => ?_⟩, wl_ad h.wt h.wl hk hq hkl, h.ws, h.wp, h.wc, h.wd, h.wm, ⟨fun x hx => ?_, fun s hs => ?_⟩, fun x hx hn => ?_, fun x hx hn => ?_, fun x hx hn => ?_, fun p x hp hx _ => hall p x hp hx⟩, hall⟩
  · obtain ⟨a1, a2, a3, a4, a5, a6, a7⟩ := h.wt.2.2 x hx
    rw [e3 x 0 (by decide), e3 x 2 (by decide), e3 x 3 (by decide), e3 x 4 (by decide), e3 x 5 (by decide), e31]
    refine ⟨a1, a2, ?_, a4, a5, a6, a7⟩
    split
    · exact hq
    · exact a3
  · rw [e31, e3 _ 4 (by decide)]
    split
    · exact hw
    · exact h.ww.1 x hx
  · rw [e3 _ 4 (by decide)]
    exact h.ww.2 s hs
  · exact wfk_cg (σ := σ) (ex x 5 hn) (fun _ => rfl) (fun _ => rfl) (h.wfk x hx hn)
  · exact fun n hn2 => wvn_cg (σ := σ) rfl rfl rfl rfl rfl (h.wvk x hx hn n hn2)
  · exact wkk_cg (σ := σ) (fun c _ => ex x c hn) (fun _ => rfl) (fun _ => rfl) (h.wkk x hx hn)
end MV
