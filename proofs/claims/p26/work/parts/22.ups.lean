/-! single stores that other tables' properties don't see -/
theorem wt_u15 {σ : ST} {k n x : Int} (h : WT σ) : WT (up σ 15 k n x) := h
theorem wt_u14 {σ : ST} {k n x : Int} (h : WT σ) : WT (up σ 14 k n x) := h
theorem ws_u15 {σ : ST} {k n x : Int} (h : WS σ) : WS (up σ 15 k n x) := h
theorem ws_u14 {σ : ST} {k n x : Int} (h : WS σ) : WS (up σ 14 k n x) := h
theorem ws_u3 {σ : ST} {k c x : Int} (h : WS σ) : WS (up σ 3 k c x) := h
theorem wp_u15 {σ : ST} {k n x : Int} (h : WP σ) : WP (up σ 15 k n x) := h
theorem wp_u14 {σ : ST} {k n x : Int} (h : WP σ) : WP (up σ 14 k n x) := h
theorem wp_u3 {σ : ST} {k c x : Int} (h : WP σ) : WP (up σ 3 k c x) := h
theorem wl_u15 {σ : ST} {L : Int → List Int} {k n x : Int} (h : WL σ L) : WL (up σ 15 k n x) L := h
theorem wl_u14 {σ : ST} {L : Int → List Int} {k n x : Int} (h : WL σ L) : WL (up σ 14 k n x) L := h
theorem wl_u32 {σ : ST} {L : Int → List Int} {k x : Int} (h : WL σ L) : WL (up σ 3 k 2 x) L := h
theorem wl_u35 {σ : ST} {L : Int → List Int} {k x : Int} (h : WL σ L) : WL (up σ 3 k 5 x) L := h
theorem up_3 {σ : ST} {k c x k' c' : Int} : up σ 3 k c x 3 k' c' = if c' = c ∧ k' = k then x else σ 3 k' c' := by
  by_cases h : c' = c ∧ k' = k
  · rw [if_pos h, h.1, h.2, up_at]
  · rw [if_neg h, up_ne (fun q => h ⟨q.2.2, q.2.1⟩)]
theorem wt_u32 {σ : ST} {k x : Int} (h : WT σ) (hx : -1 ≤ x ∧ x < σ 99 1 0) : WT (up σ 3 k 2 x) := by
  refine ⟨h.1, h.2.1, fun q hq => ?_⟩
  obtain ⟨a1, a2, a3, a4, a5⟩ := h.2.2 q hq
  refine ⟨a1, a2, a3, ?_, a5⟩
  show (-1 ≤ up σ 3 k 2 x 3 q 2 ∧ up σ 3 k 2 x 3 q 2 < σ 99 1 0)
  rw [up_3]
  split
  · exact hx
  · exact a4
theorem wt_u35 {σ : ST} {k x : Int} (h : WT σ) (hx : 0 ≤ x ∧ x ≤ 12) : WT (up σ 3 k 5 x) := by
  refine ⟨h.1, h.2.1, fun q hq => ?_⟩
  obtain ⟨a1, a2, a3, a4, a5, a6, a7⟩ := h.2.2 q hq
  refine ⟨a1, a2, a3, a4, a5, a6, ?_⟩
  show (0 ≤ up σ 3 k 5 x 3 q 5 ∧ up σ 3 k 5 x 3 q 5 ≤ 12)
  rw [up_3]
  split
  · exact hx
  · exact a7
