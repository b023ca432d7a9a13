def sumL (F : Int → Int) : List Int → Int
  | [] => 0
  | a :: l => F a + sumL F l
theorem sumL_er (F : Int → Int) {a : Int} : ∀ l : List Int, a ∈ l → sumL F l = F a + sumL F (l.erase a) := by
  intro l
  induction l with
  | nil => intro h; cases h
  | cons b l ih =>
    intro h
    by_cases e : b = a
    · rw [e, List.erase_cons_head]
      rfl
    · have h2 : a ∈ l := (List.mem_cons.mp h).resolve_left (fun z => e z.symm)
      rw [List.erase_cons_tail (by simp [e]), sumL, sumL, ih h2]
      omega
theorem sum_names (F : Int → Int) : ∀ (m : Nat) (l : List Int), l.Nodup → (∀ x, x ∈ l → 0 ≤ x ∧ x < (m : Int)) → (∀ n, (0 ≤ n ∧ n < (m : Int)) → n ∉ l → F n = 0) → sumI F m = sumL F l := by
  intro m
  induction m with
  | zero =>
    intro l hn h h0
    cases l with
    | nil => rfl
    | cons a l =>
      have := h a List.mem_cons_self
      omega
  | succ m ih =>
    intro l hn h h0
    by_cases q : (m : Int) ∈ l
    · rw [sumL_er F l q, sumI, ih (l.erase (m : Int)) (hn.erase _) (fun x hx => by
        obtain ⟨a, b⟩ := hn.mem_erase_iff.mp hx
        have := h x b
        omega) (fun n hn1 hn2 => h0 n (by omega) (fun z => hn2 (hn.mem_erase_iff.mpr ⟨by omega, z⟩)))]
      omega
    · rw [sumI, h0 (m : Int) (by omega) q, ih l hn (fun x hx => by
        have := h x hx
        have : x ≠ (m : Int) := fun e => q (e ▸ hx)
        omega) (fun n hn1 hn2 => h0 n (by omega) hn2)]
      omega
/-- the fields one behind the other are fixed -/
def fzM (τ : ST) (k : Int) : Nat → ST
  | 0 => τ
  | m + 1 => up (fzM τ k m) 15 k (τ 14 k (m : Int)) (frT (fzM τ k m 15 k (τ 14 k (m : Int))))
theorem fzM_o {τ : ST} {k : Int} (m : Nat) {t : Nat} {r c : Int} (h : ¬ (t = 15 ∧ r = k)) : fzM τ k m t r c = τ t r c := by
  induction m with
  | zero => rfl
  | succ m ih =>
    rw [fzM, up_ne (fun y => h ⟨y.1, y.2.1⟩)]
    exact ih
theorem fzM_15 {τ : ST} {k : Int} (m : Nat) (h : (od τ k m).Nodup) (c : Int) : fzM τ k m 15 k c = if c ∈ od τ k m then frT (τ 15 k c) else τ 15 k c := by
  induction m with
  | zero => rfl
  | succ m ih =>
    rw [od, List.nodup_cons] at h
    have ih2 := ih h.2
    rw [fzM, up_15, od]
    by_cases z : c = τ 14 k (m : Int)
    · rw [if_pos ⟨z, rfl⟩, if_pos (by rw [z]; exact List.mem_cons_self), ← z, ih2, if_neg (by rw [z]; exact h.1)]
    · rw [if_neg (fun y => z y.1), ih2]
      by_cases y : c ∈ od τ k m
      · rw [if_pos y, if_pos (List.mem_cons_of_mem _ y)]
      · rw [if_neg y, if_neg (fun x => (List.mem_cons.mp x).elim z y)]
theorem fz_od {τ : ST} {k : Int} (hF : WFk τ k) (hz : 0 ≤ τ 3 k 5) : (od τ k (τ 3 k 5).toNat).Nodup := od_nodup _ fun i j hi hj e => hF.2.2 i j (by omega) (by omega) e
theorem fz_fr {τ : ST} {k : Int} (hF : WFk τ k) (hz : 0 ≤ τ 3 k 5) : AgV (fzM τ k (τ 3 k 5).toNat) (frM τ k 12) := by
  have hnd := fz_od hF hz
  refine ⟨fun t r c ht => ?_, fun r c _ _ => (fzM_o (τ := τ) (k := k) _ (by omega)).symm, (fzM_o (τ := τ) (k := k) _ (by omega)).symm, (fzM_o (τ := τ) (k := k) _ (by omega)).symm⟩
  unfold frM
  by_cases h : t = 15 ∧ r = k
  · obtain ⟨rfl, rfl⟩ := h
    rw [fzM_15 _ hnd]
    by_cases hc : 0 ≤ c ∧ c < 12
    · rw [if_pos ⟨rfl, rfl, hc⟩]
      by_cases hi : c ∈ od τ r (τ 3 r 5).toNat
      · rw [if_pos hi]
      · rw [if_neg hi]
        have h0 : τ 15 r c = 0 := by
          by_cases z : τ 15 r c = 0
          · exact z
          · exact absurd ((wf_od hF hz hc).mpr z) hi
        rw [h0]
        rfl
    · rw [if_neg (fun y => hc y.2.2), if_neg]
      intro hi
      obtain ⟨j, hj, e⟩ := (od_mem _).mp hi
      have := (hF.1 j (by omega)).1
      rw [e] at this
      exact hc this
  · rw [if_neg (fun y => h ⟨y.1, y.2.1⟩), fzM_o _ h]
theorem frT_tr {t : Int} (h : TrOk t) : TrOk (frT t) := by
  unfold TrOk at h ⊢
  unfold frT
  repeat' split <;> omega
theorem frT_0 {t : Int} (h : TrOk t) : (frT t = 0 ↔ t = 0) := by
  unfold TrOk at h
  unfold frT
  repeat' split <;> omega
theorem frT_pr {t : Int} (h : TrOk t) : (isPr (frT t) ↔ isPr t) := by
  unfold TrOk at h
  unfold isPr frT
  repeat' split <;> omega
theorem fzM_wf {τ : ST} {k : Int} (hF : ∀ k, Lv τ 3 k → WFk τ k) (hk : Lv τ 3 k) (hz : 0 ≤ τ 3 k 5) (m : Nat) (hm : (m : Int) ≤ τ 3 k 5) : ∀ k', Lv τ 3 k' → WFk (fzM τ k m) k' := by
  intro k' hk'
  by_cases e : k' = k
  · subst e
    have hnd : (od τ k' m).Nodup := od_nodup _ fun i j hi hj e => (hF k' hk').2.2 i j (by omega) (by omega) e
    obtain ⟨h1, h2, h3⟩ := hF k' hk'
    have e0 : ∀ c, TrOk (τ 15 k' c) → (fzM τ k' m 15 k' c = 0 ↔ τ 15 k' c = 0) := by
      intro c hc
      rw [fzM_15 _ hnd]
      split
      · exact frT_0 hc
      · exact Iff.rfl
    unfold WFk
    simp only [fzM_o (τ := τ) (k := k') m (t := 3) (by omega), fzM_o (τ := τ) (k := k') m (t := 14) (by omega)]
    refine ⟨fun j hj => ⟨(h1 j hj).1, fun z => (h1 j hj).2 ((e0 _ (h2 _ (h1 j hj).1).1).mp z)⟩, fun n hn => ⟨?_, fun z => (h2 n hn).2 (fun y => z ((e0 n (h2 n hn).1).mpr y))⟩, h3⟩
    rw [fzM_15 _ hnd]
    split
    · exact frT_tr (h2 n hn).1
    · exact (h2 n hn).1
  · exact wfk_cg (σ := τ) (fzM_o _ (by omega)) (fun j => fzM_o _ (by omega)) (fun j => fzM_o _ (fun y => e y.2)) (hF k' hk')
/-- the count by places is that by names -/
theorem fz_sum {τ : ST} {k : Int} (hF : WFk τ k) (hz : 0 ≤ τ 3 k 5) : sumL (frF τ k) (od τ k (τ 3 k 5).toNat) = sumI (frF τ k) 12 := by
  refine (sum_names (frF τ k) 12 _ (fz_od hF hz) (fun x hx => ?_) (fun n hn hx => ?_)).symm
  · obtain ⟨j, hj, e⟩ := (od_mem _).mp hx
    have := (hF.1 j (by omega)).1
    rw [e] at this
    exact this
  · have h0 : τ 15 k n = 0 := by
      by_cases z : τ 15 k n = 0
      · exact z
      · exact absurd ((wf_od hF hz hn).mpr z) hx
    unfold frF
    rw [if_neg (by omega)]
theorem frM_cg {τ : ST} {k : Int} : AgV (up τ 3 k 3 1) (up τ 3 k 3 1) := AgV.rf' _
