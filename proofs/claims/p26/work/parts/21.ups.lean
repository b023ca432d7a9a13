/-! the state with one more Shape -/
theorem ns_n (σ : ST) (ab rp nm tr : Int) : nsS σ ab rp nm tr 99 1 0 = σ 99 1 0 + 1 := rfl
theorem ns_3 (σ : ST) (ab rp nm tr : Int) : nsS σ ab rp nm tr 99 3 0 = σ 99 3 0 := rfl
theorem ns_b (σ : ST) (ab rp nm tr : Int) : nsS σ ab rp nm tr 2 0 1 = σ 99 1 0 + 1 := up_at _ _ _ _ _
theorem ns_10 (σ : ST) (ab rp nm tr s : Int) : nsS σ ab rp nm tr 10 0 s = if s = σ 99 1 0 then σ 99 1 0 else σ 10 0 s := by
  unfold nsS
  rw [up_ne (by omega)]
  by_cases h : s = σ 99 1 0
  · rw [if_pos h, h, up_at]
  · rw [if_neg h, up_ne (by omega)]
    unfold gS
    rw [if_neg (by omega), if_neg (by omega)]
theorem ns_1 (σ : ST) (ab rp nm tr s c : Int) : nsS σ ab rp nm tr 1 s c = if s = σ 99 1 0 then shF (σ 99 1 0) ab rp nm tr (if ab < 0 then 0 else σ 1 ab 5 + 1) c else σ 1 s c := by
  unfold nsS
  rw [up_ne (by omega), up_ne (by omega)]
  unfold gS
  rw [if_neg (by omega)]
  by_cases h : s = σ 99 1 0
  · rw [if_pos h, if_pos ⟨rfl, h⟩]
  · rw [if_neg h, if_neg (fun q => h q.2)]
theorem ns_o {σ : ST} {ab rp nm tr : Int} {t : Nat} {r c : Int} (h1 : t ≠ 1) (h2 : t ≠ 2) (h3 : t ≠ 10) (h4 : t ≠ 99) : nsS σ ab rp nm tr t r c = σ t r c := by
  unfold nsS
  rw [up_ne (by omega), up_ne (by omega)]
  unfold gS
  rw [if_neg (by omega), if_neg (by omega)]
theorem ws_ns {σ : ST} {ab rp nm tr : Int} (hS : WS σ) (h80 : σ 99 1 0 < 80) (hab : -1 ≤ ab ∧ ab < σ 99 1 0) (h5 : 0 ≤ ab → σ 1 ab 5 < 8) (hrp : -1 ≤ rp ∧ rp < σ 99 3 0) (hnm : -1 ≤ nm ∧ nm < 12) (htr : 0 ≤ tr ∧ tr ≤ 15) : WS (nsS σ ab rp nm tr) := by
  obtain ⟨w1, w2, w3⟩ := hS
  refine ⟨by rw [ns_b, ns_n], by rw [ns_n]; omega, fun s hs => ?_⟩
  have hs' : 0 ≤ s ∧ s < σ 99 1 0 + 1 := hs
  simp only [ns_10, ns_1, ns_3]
  by_cases h : s = σ 99 1 0
  · simp only [if_pos h]
    refine ⟨h.symm, by rw [h]; rfl, ⟨?_, ?_⟩, ⟨?_, ?_⟩, ⟨?_, ?_⟩, ⟨?_, ?_⟩, ⟨?_, ?_⟩⟩
    · exact hab.1
    · rw [h]; exact hab.2
    · exact hrp.1
    · exact hrp.2
    · exact hnm.1
    · exact hnm.2
    · exact htr.1
    · exact htr.2
    · show 0 ≤ (if ab < 0 then 0 else σ 1 ab 5 + 1)
      split
      · omega
      · have := (w3 ab ⟨by omega, hab.2⟩).2.2.2.2.2.2; omega
    · show (if ab < 0 then 0 else σ 1 ab 5 + 1) ≤ 8
      split
      · omega
      · have := h5 (by omega); omega
  · simp only [if_neg h]
    exact w3 s ⟨hs'.1, by show s < σ 99 1 0; omega⟩
theorem wp_ns {σ : ST} {ab rp nm tr : Int} (hP : WP σ) : WP (nsS σ ab rp nm tr) := by
  intro p hp
  have w := hP p hp
  rw [ns_o (by decide) (by decide) (by decide) (by decide)]
  refine ⟨w.1, fun e he => ?_⟩
  obtain ⟨a, b, c⟩ := w.2 e he
  rw [ns_o (by decide) (by decide) (by decide) (by decide), ns_o (by decide) (by decide) (by decide) (by decide), ns_o (by decide) (by decide) (by decide) (by decide)]
  exact ⟨⟨a.1, by have := a.2; show _ < σ 99 1 0 + 1; have e : cnt σ 1 = σ 99 1 0 := rfl; omega⟩, b, c⟩
theorem wl_ns {σ : ST} {L : Int → List Int} {ab rp nm tr : Int} (hL : WL σ L) : WL (nsS σ ab rp nm tr) L := by
  intro k hk
  rw [ns_o (by decide) (by decide) (by decide) (by decide)]
  exact hL k hk
theorem wt_ns {σ : ST} {ab rp nm tr : Int} (hT : WT σ) : WT (nsS σ ab rp nm tr) := by
  obtain ⟨w1, w2, w3⟩ := hT
  refine ⟨by rw [ns_o (by decide) (by decide) (by decide) (by decide), ns_3]; exact w1, by rw [ns_3]; exact w2, fun k hk => ?_⟩
  have w := w3 k hk
  simp only [ns_o (t := 3) (by decide) (by decide) (by decide) (by decide), ns_o (t := 6) (by decide) (by decide) (by decide) (by decide), ns_3, ns_n]
  obtain ⟨a1, a2, a3, a4, a5⟩ := w
  exact ⟨a1, a2, a3, ⟨a4.1, by omega⟩, a5⟩
