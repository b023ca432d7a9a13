/-! WHAT OWN SEES of a court: the tables of fields, parents, sizes, who is shut -/
def vt : Nat → Bool
  | 0 => false
  | 1 => false
  | 2 => false
  | 3 => false
  | 10 => false
  | 11 => false
  | 12 => false
  | 13 => false
  | 99 => false
  | _ => true
def AgV (τ σ : ST) : Prop := (∀ t r c, vt t = true → σ t r c = τ t r c) ∧ (∀ k c, c ≠ 2 → c ≠ 4 → σ 3 k c = τ 3 k c) ∧ σ 99 3 0 = τ 99 3 0 ∧ σ 99 25 0 = τ 99 25 0
theorem AgV.rf' (σ : ST) : AgV σ σ := ⟨fun _ _ _ _ => rfl, fun _ _ _ _ => rfl, rfl, rfl⟩
theorem AgV.tr {σ σ1 σ2 : ST} (h : AgV σ σ1) (k : AgV σ1 σ2) : AgV σ σ2 := ⟨fun t r c a => (k.1 t r c a).trans (h.1 t r c a), fun q c a b => (k.2.1 q c a b).trans (h.2.1 q c a b), k.2.2.1.trans h.2.2.1, k.2.2.2.trans h.2.2.2⟩
theorem AgV.uu {τ σ : ST} (h : AgV τ σ) (t : Nat) (r c v : Int) : AgV (up τ t r c v) (up σ t r c v) := by
  unfold up
  refine ⟨fun t' r' c' a => ?_, fun q c' a b => ?_, ?_, ?_⟩
  · show (if _ then v else _) = (if _ then v else _)
    rw [h.1 t' r' c' a]
  · show (if _ then v else _) = (if _ then v else _)
    rw [h.2.1 q c' a b]
  · show (if _ then v else _) = (if _ then v else _)
    rw [h.2.2.1]
  · show (if _ then v else _) = (if _ then v else _)
    rw [h.2.2.2]
theorem AgV.u32 {τ σ : ST} (h : AgV τ σ) (k v : Int) : AgV τ (up σ 3 k 2 v) := by
  refine ⟨fun t r c a => ?_, fun q c a b => ?_, h.2.2.1, h.2.2.2⟩
  · rw [up_ne (by rintro ⟨rfl, -⟩; cases a)]
    exact h.1 t r c a
  · rw [up_ne (fun z => a z.2.2)]
    exact h.2.1 q c a b
theorem AgV.u34 {τ σ : ST} (h : AgV τ σ) (k v : Int) : AgV τ (up σ 3 k 4 v) := by
  refine ⟨fun t r c a => ?_, fun q c a b => ?_, h.2.2.1, h.2.2.2⟩
  · rw [up_ne (by rintro ⟨rfl, -⟩; cases a)]
    exact h.1 t r c a
  · rw [up_ne (fun z => b z.2.2)]
    exact h.2.1 q c a b
theorem Same.ag {σ σ' : ST} (h : Same σ σ') : AgV σ σ' := by
  refine ⟨fun t r c a => h.1 t r c ?_ ?_ ?_ ?_, fun q c a b => h.1 3 q c (by decide) (by decide) (by decide) (by decide), h.1 99 3 0 (by decide) (by decide) (by decide) (by decide), h.1 99 25 0 (by decide) (by decide) (by decide) (by decide)⟩ <;> (rintro rfl; cases a)
theorem NF.ag {σ σ' : ST} {Sc Sc' : Int → List Int} (h : NF σ Sc σ' Sc') : AgV σ σ' := by
  refine ⟨fun t r c a => h.1 t r c ?_ ?_ ?_ ?_, fun q c a b => h.1 3 q c (by decide) (by decide) (by decide) (by decide), h.2.1, h.2.2.1⟩ <;> (rintro rfl; cases a)
theorem wfk_ag {τ σ : ST} {k : Int} (h : AgV τ σ) (w : WFk τ k) : WFk σ k := wfk_cg (h.2.1 k 5 (by decide) (by decide)) (fun j => h.1 14 k j rfl) (fun j => h.1 15 k j rfl) w
theorem up_sm (σ : ST) (t : Nat) (r c : Int) : up σ t r c (σ t r c) = σ := by
  funext t' r' c'
  unfold up
  split
  · rename_i q
    rw [q.1, q.2.1, q.2.2]
  · rfl
def putT (σ : ST) (k n t : Int) : ST := up (if σ 15 k n = 0 then apS σ k n else σ) 15 k n t
def fil (σ : ST) (k n a b c d : Int) : ST := up (up (up (up σ 16 k n a) 17 k n b) 18 k n c) 19 k n d
def putM (σ : ST) (k n t a b c d : Int) : ST := fil (putT σ k n t) k n a b c d
theorem putT_h {σ : ST} {k n t : Int} (h : ¬ σ 15 k n = 0) : putT σ k n t = up σ 15 k n t := by unfold putT; rw [if_neg h]
theorem putT_c {σ : ST} {k n t : Int} (h : σ 15 k n = 0) : putT σ k n t = up (apS σ k n) 15 k n t := by unfold putT; rw [if_pos h]
theorem up_15 (σ : ST) (k n t k' n' : Int) : up σ 15 k n t 15 k' n' = if n' = n ∧ k' = k then t else σ 15 k' n' := by
  by_cases h : n' = n ∧ k' = k
  · rw [if_pos h, h.1, h.2, up_at]
  · rw [if_neg h, up_ne (fun q => h ⟨q.2.2, q.2.1⟩)]
theorem up_14 (σ : ST) (k n t k' n' : Int) : up σ 14 k n t 14 k' n' = if n' = n ∧ k' = k then t else σ 14 k' n' := by
  by_cases h : n' = n ∧ k' = k
  · rw [if_pos h, h.1, h.2, up_at]
  · rw [if_neg h, up_ne (fun q => h ⟨q.2.2, q.2.1⟩)]
theorem wfk_put {σ : ST} {k n t : Int} (h : WFk σ k) (hz : 0 ≤ σ 3 k 5) (hn : 0 ≤ n ∧ n < 12) (ht : TrOk t) (ht0 : ¬ t = 0) : WFk (putT σ k n t) k := by
  obtain ⟨h1, h2, h3⟩ := h
  by_cases q : σ 15 k n = 0
  · rw [putT_c q]
    have e5 : up (apS σ k n) 15 k n t 3 k 5 = σ 3 k 5 + 1 := up_at (up σ 14 k (σ 3 k 5) n) 3 k 5 _
    have e14 : ∀ j, up (apS σ k n) 15 k n t 14 k j = if j = σ 3 k 5 then n else σ 14 k j := by
      intro j
      show up σ 14 k (σ 3 k 5) n 14 k j = _
      rw [up_14]
      by_cases z : j = σ 3 k 5
      · rw [if_pos ⟨z, rfl⟩, if_pos z]
      · rw [if_neg (fun y => z y.1), if_neg z]
    have e15 : ∀ m, up (apS σ k n) 15 k n t 15 k m = if m = n then t else σ 15 k m := by
      intro m
      rw [up_15]
      by_cases z : m = n
      · rw [if_pos ⟨z, rfl⟩, if_pos z]
      · rw [if_neg (fun y => z y.1), if_neg z]
        rfl
    unfold WFk
    rw [e5]
    simp only [e14, e15]
    refine ⟨fun j hj => ?_, fun m hm => ⟨?_, fun hne => ?_⟩, fun i j hi hj e => ?_⟩
    · by_cases z : j = σ 3 k 5
      · rw [if_pos z]
        exact ⟨hn, by rw [if_pos rfl]; exact ht0⟩
      · rw [if_neg z]
        refine ⟨(h1 j (by omega)).1, ?_⟩
        split
        · exact ht0
        · exact (h1 j (by omega)).2
    · split
      · exact ht
      · exact (h2 m hm).1
    · by_cases z : m = n
      · exact ⟨σ 3 k 5, by omega, by rw [if_pos rfl, z]⟩
      · rw [if_neg z] at hne
        obtain ⟨j, hj, e⟩ := (h2 m hm).2 hne
        exact ⟨j, by omega, by rw [if_neg (by omega)]; exact e⟩
    · by_cases zi : i = σ 3 k 5
      · by_cases zj : j = σ 3 k 5
        · omega
        · rw [if_pos zi, if_neg zj] at e
          exact absurd q (by rw [e]; exact (h1 j (by omega)).2)
      · by_cases zj : j = σ 3 k 5
        · rw [if_neg zi, if_pos zj] at e
          exact absurd q (by rw [← e]; exact (h1 i (by omega)).2)
        · rw [if_neg zi, if_neg zj] at e
          exact h3 i j (by omega) (by omega) e
  · rw [putT_h q]
    have e15 : ∀ m, up σ 15 k n t 15 k m = if m = n then t else σ 15 k m := by
      intro m
      rw [up_15]
      by_cases z : m = n
      · rw [if_pos ⟨z, rfl⟩, if_pos z]
      · rw [if_neg (fun y => z y.1), if_neg z]
    refine ⟨fun j hj => ⟨(h1 j hj).1, ?_⟩, fun m hm => ⟨?_, fun hne => ?_⟩, h3⟩
    · show ¬ up σ 15 k n t 15 k (σ 14 k j) = 0
      rw [e15]
      split
      · exact ht0
      · exact (h1 j hj).2
    · rw [e15]
      split
      · exact ht
      · exact (h2 m hm).1
    · by_cases z : m = n
      · exact (h2 m hm).2 (by rw [z]; exact q)
      · rw [e15, if_neg z] at hne
        exact (h2 m hm).2 hne
section PT
variable {σ σ' : ST} {L Sc : Int → List Int} {T k n t : Int}
/-- behind putTraits: all but its values is right again -/
theorem pt_base {A A' : Nat → Int → Nat} {r : Option Value} (h : CO σ L Sc T) (hk : Lv σ 3 k) (hn : 0 ≤ n ∧ n < 12) (ht : TrOk t) (ht0 : ¬ t = 0) (hp : PTs A σ L k n t r A' σ') :
    ∃ Sc', CX σ' L Sc' T k ∧ WFk σ' k ∧ WKk σ' Sc' k ∧ WEk σ' L Sc' k ∧ AgV (putT σ k n t) σ' ∧ σ 99 1 0 ≤ σ' 99 1 0 ∧ (∀ t', t' ≠ 1 → A' t' = A t') := by
  obtain ⟨-, hA, hc⟩ := hp
  have hwk := (h.wt).2.2 k hk
  have hs2 := h.ws.2.1
  have hFp : WFk (putT σ k n t) k := wfk_put (h.wf k hk) hwk.2.2.2.2.2.2.1 hn ht ht0
  rcases hc with ⟨e, rfl⟩ | ⟨hne, σ1, hm, hD⟩
  · refine ⟨Sc, h.cx k, h.wf k hk, h.wk k hk, fun p x a b _ => h.we p x a b, ?_, Int.le_refl _, hA⟩
    rw [putT_h (by omega), ← e, up_sm]
    exact AgV.rf' _
  · have hs := hD.1
    have e3 : ∀ c, σ' 3 k c = σ1 3 k c := fun c => hs.1 3 k c (by decide) (by decide) (by decide) (by decide)
    have e1 : ∀ s c, σ' 1 s c = σ1 1 s c := fun s c => hs.1 1 s c (by decide) (by decide) (by decide) (by decide)
    have e14 : ∀ s c, σ' 14 s c = σ1 14 s c := fun s c => hs.1 14 s c (by decide) (by decide) (by decide) (by decide)
    have e99 : σ' 99 1 0 = σ1 99 1 0 := hs.1 99 1 0 (by decide) (by decide) (by decide) (by decide)
    rcases hm with ⟨hh, rfl⟩ | ⟨h0, σ2, v, rfl, hv5, hal⟩
    · have hx1 : CX (up (up σ 3 k 2 (-1)) 15 k n t) L Sc T k := (h.cx k).row (((RX.rf' σ k).u 3 2 (-1) (by omega)).u 15 n t (by omega)) (by show -1 ≤ up σ 3 k 2 (-1) 3 k 2 ∧ up σ 3 k 2 (-1) 3 k 2 < _; rw [up_at]; omega) hwk.2.2.2.2.2.2
      have hag : AgV (putT σ k n t) σ' := by
        rw [putT_h hh]
        exact AgV.tr (((AgV.rf' σ).u32 k (-1)).uu 15 k n t) hs.ag
      have e2 : σ' 3 k 2 = -1 := by
        rw [e3]
        exact up_at σ 3 k 2 (-1)
      refine ⟨Sc, hx1.same hs hD.2.1, wfk_ag hag hFp, fun q => by omega, fun p e hp he q => absurd q (hx1.nk hk hD p e hp he), hag, ?_, hA⟩
      rw [e99]
      exact Int.le_refl _
    · have hroom := wf_room (h.wf k hk) hwk.2.2.2.2.2.2 hn h0
      have ht15 : 0 ≤ t ∧ t ≤ 15 := by unfold TrOk at ht; omega
      have hx0 : CX (apS σ k n) L Sc T k := (h.cx k).row (((RX.rf' σ k).u 14 _ n (by omega)).u 3 5 _ (by omega)) hwk.2.2.2.1 (by show 0 ≤ up (up σ 14 k (σ 3 k 5) n) 3 k 5 (σ 3 k 5 + 1) 3 k 5 ∧ up (up σ 14 k (σ 3 k 5) n) 3 k 5 (σ 3 k 5 + 1) 3 k 5 ≤ 12; rw [up_at]; omega)
      have hAL : ∃ A2, AL1 A (apS σ k n) (fun v => σ 1 v 1 = σ 3 k 2 ∧ σ 1 v 3 = n ∧ σ 1 v 4 = t) (σ 3 k 2) (σ 1 (σ 3 k 2) 2) n t A2 σ2 v := by
        rcases hal with ⟨a, b, c⟩ | ⟨a, b, c⟩
        · exact ⟨A, Or.inl ⟨rfl, a, b, c⟩⟩
        · exact ⟨_, Or.inr ⟨a, 0, rfl, b, c⟩⟩
      obtain ⟨A2, hAL⟩ := hAL
      obtain ⟨Sc', hx2, hN, hvd, hvs, -⟩ := hx0.ben (σ' := σ2) (a := σ 3 k 2) hwk.2.2.2.1 hn ht15 hAL hv5
      have n3 : ∀ c, σ2 3 k c = apS σ k n 3 k c := fun c => hN.1 3 k c (by decide) (by decide) (by decide) (by decide)
      have s5 : apS σ k n 3 k 5 = σ 3 k 5 + 1 := up_at (up σ 14 k (σ 3 k 5) n) 3 k 5 _
      have hx1 : CX (up (up σ2 3 k 2 v) 15 k n t) L Sc' T k := hx2.row (((RX.rf' σ2 k).u 3 2 v (by omega)).u 15 n t (by omega)) (by show -1 ≤ up σ2 3 k 2 v 3 k 2 ∧ up σ2 3 k 2 v 3 k 2 < _; rw [up_at]; exact hvd) (by show 0 ≤ σ2 3 k 5 ∧ σ2 3 k 5 ≤ 12; rw [n3, s5]; omega)
      have hk2 : Lv (up (up σ2 3 k 2 v) 15 k n t) 3 k := ⟨hk.1, by have := hk.2; show k < σ2 99 3 0; rw [hN.2.1]; exact this⟩
      have hag : AgV (putT σ k n t) σ' := by
        rw [putT_c h0]
        exact AgV.tr ((hN.ag.u32 k v).uu 15 k n t) hs.ag
      refine ⟨Sc', hx1.same hs hD.2.1, wfk_ag hag hFp, fun q => ?_, fun p e hp he q => absurd q (hx1.nk hk2 hD p e hp he), hag, ?_, hA⟩
      · have e2 : σ' 3 k 2 = v := by
          rw [e3]
          exact up_at σ2 3 k 2 v
        have e35 : σ' 3 k 5 = σ 3 k 5 + 1 := by
          rw [e3]
          show σ2 3 k 5 = _
          rw [n3, s5]
        have e31 : σ' 3 k 1 = σ 3 k 1 := by
          rw [e3]
          show σ2 3 k 1 = _
          rw [n3]
          rfl
        rw [e2] at q ⊢
        obtain ⟨v0, v1, v2, v3⟩ := hvs q
        obtain ⟨w1, w2, w3⟩ := h.wk k hk v0
        have eo : od σ' k (σ 3 k 5).toNat = od σ k (σ 3 k 5).toNat := od_cgb _ fun j hj => by
          rw [hag.1 14 k j rfl, putT_c h0]
          show up σ 14 k (σ 3 k 5) n 14 k j = _
          rw [up_14, if_neg (by omega)]
        have en : σ' 14 k (σ 3 k 5) = n := by
          rw [hag.1 14 k _ rfl, putT_c h0]
          exact up_at σ 14 k (σ 3 k 5) n
        have hz0 := hwk.2.2.2.2.2.2.1
        have eN : (σ 3 k 5 + 1).toNat = (σ 3 k 5).toNat + 1 := by omega
        rw [e31, e35, e1, e1]
        refine ⟨v2.trans w1, ?_, ?_⟩
        · show σ2 1 v 5 = _
          rw [v3]
          show σ 1 (σ 3 k 2) 5 + 1 = _
          rw [w2]
        · rw [v1, w3, eN, od, eo, Int.toNat_of_nonneg hz0, en]
      · rw [e99]
        exact hN.2.2.2.1
/-- a field's values are put in -/
def PV5 (t a b c d : Int) : Prop := (-1 ≤ b ∧ b < 12) ∧ (-1 ≤ c ∧ c < 12) ∧ (-1000 ≤ a ∧ a ≤ 2000) ∧ (-99 ≤ d ∧ d ≤ 99) ∧ (isPr t → a = -1000) ∧ (¬ isPr t → b = -1)
theorem fil_ag {τ : ST} (h : AgV τ σ) (a b c d : Int) : AgV (fil τ k n a b c d) (fil σ k n a b c d) := (((h.uu 16 k n a).uu 17 k n b).uu 18 k n c).uu 19 k n d
theorem fil_at (σ : ST) (k n a b c d : Int) : fil σ k n a b c d 16 k n = a ∧ fil σ k n a b c d 17 k n = b ∧ fil σ k n a b c d 18 k n = c ∧ fil σ k n a b c d 19 k n = d := ⟨up_at σ 16 k n a, up_at (up σ 16 k n a) 17 k n b, up_at (up (up σ 16 k n a) 17 k n b) 18 k n c, up_at (up (up (up σ 16 k n a) 17 k n b) 18 k n c) 19 k n d⟩
theorem fil_ne {m : Int} (σ : ST) (k n a b c d : Int) (h : m ≠ n) (t : Nat) (k' : Int) : fil σ k n a b c d t k' m = σ t k' m := by
  unfold fil
  rw [up_ne (fun q => h q.2.2), up_ne (fun q => h q.2.2), up_ne (fun q => h q.2.2), up_ne (fun q => h q.2.2)]
theorem fil_rx (σ : ST) (k n a b c d : Int) : RX σ k (fil σ k n a b c d) := ((((RX.rf' σ k).u 16 n a (by omega)).u 17 n b (by omega)).u 18 n c (by omega)).u 19 n d (by omega)
theorem fil_co {τ : ST} {a b c d : Int} (h : CX σ L Sc T k) (hk : Lv σ 3 k) (hF : WFk σ k) (hK : WKk σ Sc k) (hE : WEk σ L Sc k) (hag : AgV τ σ) (hV : ∀ m, (0 ≤ m ∧ m < 12) → m ≠ n → WVn τ k m) (ht : τ 15 k n = t) (hp : PV5 t a b c d) : CO (fil σ k n a b c d) L Sc T := by
  have w := h.wt.2.2 k hk
  refine CX.co (h.row (fil_rx σ k n a b c d) w.2.2.2.1 w.2.2.2.2.2.2) (wfk_cg (σ := σ) rfl (fun _ => rfl) (fun _ => rfl) hF) (fun m hm => ?_) (wkk_cg (σ := σ) (fun _ _ => rfl) (fun _ => rfl) (fun _ => rfl) hK) (fun p e hp he q => (hE p e hp he q).trans (eW_cg (σ := σ) (σ' := fil σ k n a b c d) rfl fun _ _ => rfl).symm)
  by_cases z : m = n
  · rw [z]
    obtain ⟨f1, f2, f3, f4⟩ := fil_at σ k n a b c d
    have f5 : fil σ k n a b c d 15 k n = t := (hag.1 15 k n rfl).trans ht
    obtain ⟨p1, p2, p3, p4, p5, p6⟩ := hp
    unfold WVn
    rw [f1, f2, f3, f4, f5]
    exact ⟨p1, p2, p3, p4, p5, fun _ => p6⟩
  · have := hV m hm z
    exact wvn_cg ((fil_ne σ k n a b c d z 15 k).trans (hag.1 15 k m rfl)) ((fil_ne σ k n a b c d z 16 k).trans (hag.1 16 k m rfl)) ((fil_ne σ k n a b c d z 17 k).trans (hag.1 17 k m rfl)) ((fil_ne σ k n a b c d z 18 k).trans (hag.1 18 k m rfl)) ((fil_ne σ k n a b c d z 19 k).trans (hag.1 19 k m rfl)) this
theorem putT_wv {m : Int} (hV : WVn σ k m) (h : m ≠ n) : WVn (putT σ k n t) k m := by
  have e : ∀ t', vt t' = true → t' ≠ 14 → putT σ k n t t' k m = σ t' k m := fun t' a a2 => by
    unfold putT
    rw [up_ne (fun q => h q.2.2)]
    split
    · unfold apS
      rw [up_ne (by rintro ⟨rfl, -⟩; cases a), up_ne (fun q => a2 q.1)]
    · rfl
  exact wvn_cg (e 15 rfl (by decide)) (e 16 rfl (by decide)) (e 17 rfl (by decide)) (e 18 rfl (by decide)) (e 19 rfl (by decide)) hV
theorem putT_15 (σ : ST) (k n t : Int) : putT σ k n t 15 k n = t := up_at _ _ _ _ _
/-- putTraits, and then its values -/
theorem pt_co {A A' : Nat → Int → Nat} {r : Option Value} {a b c d : Int} (h : CO σ L Sc T) (hk : Lv σ 3 k) (hn : 0 ≤ n ∧ n < 12) (ht : TrOk t) (ht0 : ¬ t = 0) (hp : PTs A σ L k n t r A' σ') (hv : PV5 t a b c d) :
    ∃ Sc', CO (fil σ' k n a b c d) L Sc' T ∧ AgV (putM σ k n t a b c d) (fil σ' k n a b c d) ∧ σ 99 1 0 ≤ fil σ' k n a b c d 99 1 0 ∧ (∀ t', t' ≠ 1 → A' t' = A t') ∧ Lv σ' 3 k := by
  obtain ⟨Sc', hx, hF, hK, hE, hag, hle, hA⟩ := pt_base h hk hn ht ht0 hp
  have hk' : Lv σ' 3 k := ⟨hk.1, by
    have := hk.2
    have e : putT σ k n t 99 3 0 = σ 99 3 0 := by
      unfold putT
      rw [up_ne (by omega)]
      split <;> rfl
    show k < σ' 99 3 0
    rw [hag.2.2.1, e]
    exact this⟩
  exact ⟨Sc', fil_co hx hk' hF hK hE hag (fun m hm z => putT_wv (CX.wvk h k hk (lv_m1 hk) m hm) z) (putT_15 σ k n t) hv, fil_ag hag a b c d, hle, hA, hk'⟩
end PT
