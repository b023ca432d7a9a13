/-! new Shapes, and what stays beside them -/

theorem pigeon : ∀ (m : Nat) (l : List Int), l.Nodup → (∀ x, x ∈ l → 0 ≤ x ∧ x < (m : Int)) → l.length ≤ m := by
  intro m
  induction m with
  | zero =>
    intro l hn h
    cases l with
    | nil => exact Nat.le_refl _
    | cons a l =>
      have := h a List.mem_cons_self
      omega
  | succ m ih =>
    intro l hn h
    by_cases q : (m : Int) ∈ l
    · have h2 := ih (l.erase (m : Int)) (hn.erase _) (fun x hx => by
        obtain ⟨a, b⟩ := hn.mem_erase_iff.mp hx
        have := h x b
        omega)
      rw [List.length_erase_of_mem q] at h2
      omega
    · have h2 := ih l hn (fun x hx => by
        have := h x hx
        have : x ≠ (m : Int) := fun e => q (e ▸ hx)
        omega)
      omega
theorem od_cgb {σ σ' : ST} {k : Int} (m : Nat) (h : ∀ j : Int, (0 ≤ j ∧ j < (m : Int)) → σ' 14 k j = σ 14 k j) : od σ' k m = od σ k m := by
  induction m with
  | zero => rfl
  | succ m ih => rw [od, od, ih (fun j hj => h j (by omega)), h (m : Int) (by omega)]
theorem od_mem {σ : ST} {k n : Int} (m : Nat) : n ∈ od σ k m ↔ ∃ j, (0 ≤ j ∧ j < (m : Int)) ∧ σ 14 k j = n := by
  induction m with
  | zero => exact ⟨fun h => (by cases h), fun ⟨j, h, _⟩ => by omega⟩
  | succ m ih =>
    rw [od, List.mem_cons, ih]
    constructor
    · rintro (e | ⟨j, h, e⟩)
      · exact ⟨(m : Int), by omega, e.symm⟩
      · exact ⟨j, by omega, e⟩
    · rintro ⟨j, h, e⟩
      by_cases q : j = (m : Int)
      · exact Or.inl (by rw [← e, q])
      · exact Or.inr ⟨j, by omega, e⟩
theorem od_len (σ : ST) (k : Int) (m : Nat) : (od σ k m).length = m := by
  induction m with
  | zero => rfl
  | succ m ih => rw [od, List.length_cons, ih]
theorem od_nodup {σ : ST} {k : Int} (m : Nat) (h : ∀ i j : Int, (0 ≤ i ∧ i < (m : Int)) → (0 ≤ j ∧ j < (m : Int)) → σ 14 k i = σ 14 k j → i = j) : (od σ k m).Nodup := by
  induction m with
  | zero => exact List.nodup_nil
  | succ m ih =>
    rw [od, List.nodup_cons]
    refine ⟨fun q => ?_, ih fun i j hi hj => h i j (by omega) (by omega)⟩
    obtain ⟨j, hj, e⟩ := (od_mem m).mp q
    have := h j (m : Int) (by omega) (by omega) e
    omega
/-- a name that is not there finds a place -/
theorem wf_room {σ : ST} {k n : Int} (hF : WFk σ k) (hz : 0 ≤ σ 3 k 5 ∧ σ 3 k 5 ≤ 12) (hn : 0 ≤ n ∧ n < 12) (h0 : σ 15 k n = 0) : σ 3 k 5 < 12 := by
  have hd : (n :: od σ k (σ 3 k 5).toNat).Nodup := by
    rw [List.nodup_cons]
    refine ⟨fun q => ?_, od_nodup _ fun i j hi hj e => hF.2.2 i j (by omega) (by omega) e⟩
    obtain ⟨j, hj, e⟩ := (od_mem _).mp q
    exact (hF.1 j (by omega)).2 (by rw [e]; exact h0)
  have := pigeon 12 _ hd (fun x hx => by
    rcases List.mem_cons.mp hx with e | q
    · rw [e]; exact hn
    · obtain ⟨j, hj, e⟩ := (od_mem _).mp q
      have := (hF.1 j (by omega)).1
      rw [e] at this
      exact this)
  rw [List.length_cons, od_len] at this
  omega
/-- one has a name just where its order tells -/
theorem wf_od {σ : ST} {k n : Int} (hF : WFk σ k) (hz : 0 ≤ σ 3 k 5) (hn : 0 ≤ n ∧ n < 12) : n ∈ od σ k (σ 3 k 5).toNat ↔ ¬ σ 15 k n = 0 := by
  rw [od_mem]
  constructor
  · rintro ⟨j, hj, e⟩
    have := (hF.1 j (by omega)).2
    rw [e] at this
    exact this
  · intro h
    obtain ⟨j, hj, e⟩ := (hF.2.1 n hn).2 h
    exact ⟨j, by omega, e⟩
/-- Shapes came; what there was is as it was -/
def NF (σ : ST) (Sc : Int → List Int) (σ' : ST) (Sc' : Int → List Int) : Prop := (∀ t r c, t ≠ 1 → t ≠ 2 → t ≠ 10 → t ≠ 99 → σ' t r c = σ t r c) ∧ σ' 99 3 0 = σ 99 3 0 ∧ σ' 99 25 0 = σ 99 25 0 ∧ σ 99 1 0 ≤ σ' 99 1 0 ∧ (∀ s c, s < σ 99 1 0 → σ' 1 s c = σ 1 s c) ∧ (∀ s, s < σ 99 1 0 → Sc' s = Sc s)
theorem NF.rf' (σ : ST) (Sc : Int → List Int) : NF σ Sc σ Sc := ⟨fun _ _ _ _ _ _ _ => rfl, rfl, rfl, Int.le_refl _, fun _ _ _ => rfl, fun _ _ => rfl⟩
theorem NF.tr {σ σ1 σ2 : ST} {Sc Sc1 Sc2 : Int → List Int} (h : NF σ Sc σ1 Sc1) (k : NF σ1 Sc1 σ2 Sc2) : NF σ Sc σ2 Sc2 := by
  obtain ⟨a1, a2, a3, a4, a5, a6⟩ := h
  obtain ⟨b1, b2, b3, b4, b5, b6⟩ := k
  exact ⟨fun t r c h1 h2 h3 h4 => (b1 t r c h1 h2 h3 h4).trans (a1 t r c h1 h2 h3 h4), b2.trans a2, b3.trans a3, by omega, fun s c hs => (b5 s c (by omega)).trans (a5 s c hs), fun s hs => (b6 s (by omega)).trans (a6 s hs)⟩
def scN (σ : ST) (Sc : Int → List Int) (ab nm : Int) : Int → List Int := fun s => if s = σ 99 1 0 then (if ab < 0 then [] else nm :: Sc ab) else Sc s
theorem scN_o {σ : ST} {Sc : Int → List Int} {ab nm s : Int} (h : s ≠ σ 99 1 0) : scN σ Sc ab nm s = Sc s := if_neg h
theorem ns_1o {σ : ST} {ab rp nm tr s : Int} (c : Int) (h : s ≠ σ 99 1 0) : nsS σ ab rp nm tr 1 s c = σ 1 s c := by rw [ns_1, if_neg h]
theorem ns_1n {σ : ST} {ab rp nm tr s : Int} (c : Int) (h : s = σ 99 1 0) : nsS σ ab rp nm tr 1 s c = shF (σ 99 1 0) ab rp nm tr (if ab < 0 then 0 else σ 1 ab 5 + 1) c := by rw [ns_1, if_pos h]
theorem ns_25 (σ : ST) (ab rp nm tr : Int) : nsS σ ab rp nm tr 99 25 0 = σ 99 25 0 := rfl
theorem nf_ns (σ : ST) (Sc : Int → List Int) (ab rp nm tr : Int) : NF σ Sc (nsS σ ab rp nm tr) (scN σ Sc ab nm) :=
  ⟨fun t r c h1 h2 h3 h4 => ns_o h1 h2 h3 h4, ns_3 σ ab rp nm tr, ns_25 σ ab rp nm tr, by rw [ns_n]; omega, fun s c hs => ns_1o c (by omega), fun s hs => scN_o (by omega)⟩
section NSS
variable {σ : ST} {L Sc : Int → List Int} {T X ab rp nm tr : Int}
theorem CX.ns (h : CX σ L Sc T X) (h80 : σ 99 1 0 < 80) (hab : -1 ≤ ab ∧ ab < σ 99 1 0) (h5 : 0 ≤ ab → σ 1 ab 5 < 8 ∧ rp = σ 1 ab 2) (hrp : -1 ≤ rp ∧ rp < σ 99 3 0) (hw : 0 ≤ rp → ¬ σ 3 rp 4 = 0) (hnm : -1 ≤ nm ∧ nm < 12) (htr : 0 ≤ tr ∧ tr ≤ 15) : CX (nsS σ ab rp nm tr) L (scN σ Sc ab nm) T X := by
  have hs2 := h.ws.2.1
  have e0 : ∀ t r c, t ≠ 1 → t ≠ 2 → t ≠ 10 → t ≠ 99 → nsS σ ab rp nm tr t r c = σ t r c := fun t r c a b d e => ns_o a b d e
  have e3 : ∀ r c, nsS σ ab rp nm tr 3 r c = σ 3 r c := fun r c => e0 3 r c (by decide) (by decide) (by decide) (by decide)
  have e14 : ∀ r c, nsS σ ab rp nm tr 14 r c = σ 14 r c := fun r c => e0 14 r c (by decide) (by decide) (by decide) (by decide)
  have e15 : ∀ r c, nsS σ ab rp nm tr 15 r c = σ 15 r c := fun r c => e0 15 r c (by decide) (by decide) (by decide) (by decide)
  have e00 : ∀ r c, nsS σ ab rp nm tr 0 r c = σ 0 r c := fun r c => e0 0 r c (by decide) (by decide) (by decide) (by decide)
  have e11 : ∀ r c, nsS σ ab rp nm tr 11 r c = σ 11 r c := fun r c => e0 11 r c (by decide) (by decide) (by decide) (by decide)
  have e12 : ∀ r c, nsS σ ab rp nm tr 12 r c = σ 12 r c := fun r c => e0 12 r c (by decide) (by decide) (by decide) (by decide)
  have e13 : ∀ r c, nsS σ ab rp nm tr 13 r c = σ 13 r c := fun r c => e0 13 r c (by decide) (by decide) (by decide) (by decide)
  refine ⟨wt_ns h.wt, wl_ns h.wl, ws_ns h.ws h80 hab (fun q => (h5 q).1) hrp hnm htr, wp_ns h.wp, fun s hs => ?_, fun p i j hp h0 hij hj => ?_, fun p hp => ?_, ⟨fun k hk => ?_, fun s hk => ?_⟩, fun k hk hx => ?_, fun k hk hx => ?_, fun k hk hx => ?_, fun p x hp hx hX => ?_⟩
  · have hs' : 0 ≤ s ∧ s < σ 99 1 0 + 1 := hs
    by_cases q : s = σ 99 1 0
    · rw [ns_1n 1 q, ns_1n 2 q, ns_1n 3 q, ns_1n 5 q]
      show (ab < 0 → _ = _ ∧ (if ab < 0 then 0 else σ 1 ab 5 + 1) = 0) ∧ (0 ≤ ab → _ = nm :: scN σ Sc ab nm ab ∧ rp = nsS σ ab rp nm tr 1 ab 2 ∧ (if ab < 0 then 0 else σ 1 ab 5 + 1) = nsS σ ab rp nm tr 1 ab 5 + 1)
      have es : scN σ Sc ab nm s = if ab < 0 then [] else nm :: Sc ab := if_pos q
      rw [es]
      refine ⟨fun a => ⟨if_pos a, if_pos a⟩, fun a => ?_⟩
      rw [if_neg (by omega), if_neg (by omega), ns_1o 2 (by omega), ns_1o 5 (by omega), scN_o (by omega)]
      exact ⟨rfl, (h5 a).2, rfl⟩
    · have w := h.wc s ⟨hs'.1, by show s < σ 99 1 0; omega⟩
      have ws := h.ws.2.2 s ⟨hs'.1, by show s < σ 99 1 0; omega⟩
      rw [ns_1o 1 q, ns_1o 2 q, ns_1o 3 q, ns_1o 5 q, scN_o q, ns_1o 2 (by omega), ns_1o 5 (by omega), scN_o (s := σ 1 s 1) (by omega)]
      exact w
  · rw [e00] at hj
    simp only [e11, e12]
    exact h.wd p i j hp h0 hij hj
  · simp only [e00]
    exact h.wm p hp
  · simp only [e3]
    exact h.ww.1 k hk
  · have hs' : 0 ≤ s ∧ s < σ 99 1 0 + 1 := hk
    simp only [e3]
    by_cases q : s = σ 99 1 0
    · rw [ns_1n 2 q]
      exact hw
    · rw [ns_1o 2 q]
      exact h.ww.2 s ⟨hs'.1, by show s < σ 99 1 0; omega⟩
  · exact wfk_cg (e3 k 5) (e14 k) (e15 k) (h.wfk k hk hx)
  · exact fun n hn => wvn_cg (e15 k n) (e0 16 k n (by decide) (by decide) (by decide) (by decide)) (e0 17 k n (by decide) (by decide) (by decide) (by decide)) (e0 18 k n (by decide) (by decide) (by decide) (by decide)) (e0 19 k n (by decide) (by decide) (by decide) (by decide)) (h.wvk k hk hx n hn)
  · have hd := (h.wt.2.2 k hk).2.2.2.1
    have w := h.wkk k hk hx
    unfold WKk
    rw [e3, e3, e3, ns_1o 2 (by omega), ns_1o 5 (by omega), od_cg (e14 k), scN_o (by omega)]
    exact w
  · rw [e00] at hx
    have hlv := ((h.wp p hp).2 x hx).1
    have hlv2 : σ 11 p x < σ 99 1 0 := hlv.2
    rw [e11, ns_1o 2 (by omega)] at hX
    rw [e11, e12, e13, h.we p x hp hx hX]
    unfold eW
    rw [scN_o (by omega), ns_1o 2 (by omega), wF_cg _ (fun k _ => e15 k _)]
/-- a ROOT is answered -/
theorem CX.root {A A' : Nat → Int → Nat} {σ' : ST} {q v : Int} (h : CX σ L Sc T X) (hq : -1 ≤ q ∧ q < σ 99 3 0) (hw : 0 ≤ q → ¬ σ 3 q 4 = 0) (hA : AL1 A σ (fun v => σ 1 v 1 < 0 ∧ σ 1 v 2 = q) (-1) q (-1) 0 A' σ' v) : ∃ Sc', CX σ' L Sc' T X ∧ NF σ Sc σ' Sc' ∧ (-1 ≤ v ∧ v < σ' 99 1 0) ∧ (0 ≤ v → Sc' v = [] ∧ σ' 1 v 2 = q ∧ σ' 1 v 5 = 0) ∧ (∀ t, t ≠ 1 → A' t = A t) := by
  have hs2 := h.ws.2.1
  rcases hA with ⟨rfl, rfl, c, d⟩ | ⟨h80, b, rfl, rfl, rfl⟩
  · refine ⟨Sc, h, NF.rf' _ _, c, fun q => ?_, fun _ _ => rfl⟩
    have w := (h.wc v ⟨q, c.2⟩).1 (d q).1
    exact ⟨w.1, (d q).2, w.2⟩
  · refine ⟨_, h.ns h80 ⟨by omega, by omega⟩ (fun q => by omega) hq hw ⟨by omega, by omega⟩ ⟨by omega, by omega⟩, nf_ns _ _ _ _ _ _, ⟨by omega, by rw [ns_n]; omega⟩, fun q => ?_, fun t ht => ?_⟩
    · rw [ns_1n 2 rfl, ns_1n 5 rfl]
      exact ⟨if_pos rfl, rfl, rfl⟩
    · funext r
      exact gA_ne (fun q => ht q.1)
/-- .. one beneath -/
theorem CX.ben {A A' : Nat → Int → Nat} {σ' : ST} {a n t v : Int} (h : CX σ L Sc T X) (ha : -1 ≤ a ∧ a < σ 99 1 0) (hn : 0 ≤ n ∧ n < 12) (ht : 0 ≤ t ∧ t ≤ 15) (hA : AL1 A σ (fun v => σ 1 v 1 = a ∧ σ 1 v 3 = n ∧ σ 1 v 4 = t) a (σ 1 a 2) n t A' σ' v) (h5 : 0 ≤ v → 0 ≤ a ∧ σ 1 a 5 < 8) : ∃ Sc', CX σ' L Sc' T X ∧ NF σ Sc σ' Sc' ∧ (-1 ≤ v ∧ v < σ' 99 1 0) ∧ (0 ≤ v → 0 ≤ a ∧ Sc' v = n :: Sc a ∧ σ' 1 v 2 = σ 1 a 2 ∧ σ' 1 v 5 = σ 1 a 5 + 1) ∧ (∀ t, t ≠ 1 → A' t = A t) := by
  have hs2 := h.ws.2.1
  rcases hA with ⟨rfl, rfl, c, d⟩ | ⟨h80, b, rfl, rfl, rfl⟩
  · refine ⟨Sc, h, NF.rf' _ _, c, fun q => ?_, fun _ _ => rfl⟩
    obtain ⟨d1, d2, d3⟩ := d q
    have w := (h.wc v ⟨q, c.2⟩).2 (by have := h5 q; omega)
    rw [d1, d2] at w
    exact ⟨(h5 q).1, w⟩
  · have h58 := h5 hs2.1
    have hak : Lv σ 1 a := ⟨h58.1, ha.2⟩
    refine ⟨_, h.ns h80 ha (fun q => ⟨h58.2, rfl⟩) (h.ws.2.2 a hak).2.2.2.1 (h.ww.2 a hak) ⟨by omega, hn.2⟩ ht, nf_ns _ _ _ _ _ _, ⟨by omega, by rw [ns_n]; omega⟩, fun q => ?_, fun t ht => ?_⟩
    · rw [ns_1n 2 rfl, ns_1n 5 rfl]
      show _ ∧ _ ∧ _ ∧ (if a < 0 then 0 else σ 1 a 5 + 1) = _
      have es : scN σ Sc a n (σ 99 1 0) = if a < 0 then [] else n :: Sc a := if_pos rfl
      rw [es, if_neg (by omega), if_neg (by omega)]
      exact ⟨h58.1, rfl, rfl, rfl⟩
    · funext r
      exact gA_ne (fun q => ht q.1)
end NSS
