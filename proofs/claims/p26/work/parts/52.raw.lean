/-! the first cells: the court, its book and its Places, the law's own object, each with its arrays; their numbers are counted from b on -/
def mgG (g : GG) : GG := (gn g + 25, fun q => if q = gn g then 12 else if gn g ≤ q ∧ q < gn g + 25 then 11 else gk g q, fun q => if gn g ≤ q ∧ q < gn g + 25 then (fun _ => 0) else gi g q,
  fun q => if q = gn g then (fun j => if j < 24 then some (gn g + 1 + j) else none) else if gn g ≤ q ∧ q < gn g + 25 then (fun _ => none) else gr g q, fun q => if q = gn g then 24 else if gn g ≤ q ∧ q < gn g + 25 then 12 else gl g q)
theorem ge_mg_old {κ : KK} {g : GG} {q : Nat} (h : ¬ (gn g ≤ q ∧ q < gn g + 25)) : ge κ (mgG g) q = ge κ g q := by
  have h0 : ¬ q = gn g := by omega
  have e1 : gk (mgG g) q = gk g q := by
    show (if q = gn g then 12 else if gn g ≤ q ∧ q < gn g + 25 then 11 else gk g q) = _
    rw [if_neg h0, if_neg h]
  have e2 : gi (mgG g) q = gi g q := if_neg h
  have e3 : gr (mgG g) q = gr g q := by
    show (if q = gn g then _ else if gn g ≤ q ∧ q < gn g + 25 then _ else gr g q) = _
    rw [if_neg h0, if_neg h]
  have e4 : gl (mgG g) q = gl g q := by
    show (if q = gn g then 24 else if gn g ≤ q ∧ q < gn g + 25 then 12 else gl g q) = _
    rw [if_neg h0, if_neg h]
  unfold ge Ar Fs
  rw [e1, e2, e3, e4]
section RAW
variable {κ : KK} {y : MY} {d kc ks pc : Nat} {lv : List (Nat × Value)} {st : List Value} {g : GG} {Q : Option Value → GG → Prop}
theorem r_multi {idx kc' ks' : Nat} {u v : Int32} (hd : decode y.2.1 pc = .ok (.multianewarray idx 2, 4)) (hcl : Cond.classLink y.1.cls idx "[[[I" ∈ AL) (hu : u = 24) (hv : v = 12) (hmc : 25 + kc' ≤ kc) (hms : 312 + ks' ≤ ks) (kk : Wp κ y d kc' ks' (pc + 4) lv (.ref (gn g) :: st) (mgG g) Q) : Wp κ y d kc ks pc lv (.int v :: .int u :: st) g Q := by
  intro p l e R s m args below meth c H locs cells slots mc ms ls M hR h1 h2 hG hSS hlv
  subst hu
  subst hv
  obtain ⟨hx, hb, hr, hml, hown, hlk, hin0, hts, hK, hX, hsl, hsb, hbs⟩ := id M
  obtain ⟨hR1, hR2, hR3, hR4⟩ := hR
  obtain ⟨k11, a11, b11⟩ := hK.2.1
  obtain ⟨k12, a12, b12⟩ := hK.2.2.1
  have hnA : s.vm.findClass "[[[I" = some (cy κ 12) := by
    exact (hK.1.2 6 _ rfl).2
  have hz : H.size = gn g := hG.1
  refine va_multi hx hb hown (hts _ hcl) hnA a12 b12 a11 b11 rfl hd rfl (by omega) (by omega) fun H1 L hm hL => ?_
  obtain ⟨z1, z2, z3, z4⟩ := hm
  refine W.eq (g2 := F0 m (pc + 4) ls (.ref (gn g) :: st)) (by rw [hG.1]) ?_
  have hbg := hG.2.1
  refine kk p l e R s m args below meth c H1 _ _ _ mc ms ls M ⟨hR1, hR2, hR3, hR4⟩ (by omega) (by omega) ⟨by rw [z1, hz]; rfl, by show bs κ ≤ gn g + 25; omega, fun a g1 g2 => ?_⟩ ⟨by have := hSS.1; omega, fun x g1 g2 => (z2 x (by have := hSS.1; omega)).trans (hSS.2.1 x g1 g2), fun q hq => ?_⟩ hlv
  · have g2' : a < gn g + 25 := g2
    rcases Nat.lt_or_ge a (gn g) with ha | ha
    · rw [ge_mg_old (by omega)]
      exact (hG.2.2 a g1 ha).kept (z2 a (by omega))
    · by_cases h0 : a = gn g
      · have e1 : gk (mgG g) a % 32 = 12 := by
          show (if a = gn g then 12 else if gn g ≤ a ∧ a < gn g + 25 then 11 else gk g a) % 32 = 12
          rw [if_pos h0]
        have e2 : gl (mgG g) a = 24 := if_pos h0
        have e3 : gr (mgG g) a = fun j => if j < 24 then some (gn g + 1 + j) else none := if_pos h0
        rw [ge_arr e1 (by decide), Ar_r (by decide), e2, e3]
        show H1[a]? = some (vp_cell _ _)
        subst h0
        rw [← hz, z3]
        congr 1
      · have e1 : gk (mgG g) a % 32 = 11 := by
          show (if a = gn g then 12 else if gn g ≤ a ∧ a < gn g + 25 then 11 else gk g a) % 32 = 11
          rw [if_neg h0, if_pos ⟨ha, g2'⟩]
        have e2 : gl (mgG g) a = 12 := by
          show (if a = gn g then 24 else if gn g ≤ a ∧ a < gn g + 25 then 12 else gl g a) = _
          rw [if_neg h0, if_pos ⟨ha, g2'⟩]
        have e3 : gr (mgG g) a = fun _ => none := by
          show (if a = gn g then _ else if gn g ≤ a ∧ a < gn g + 25 then _ else gr g a) = _
          rw [if_neg h0, if_pos ⟨ha, g2'⟩]
        rw [ge_arr e1 (by decide), Ar_r (by decide), e2, e3]
        show H1[a]? = some (vp_cell _ _)
        have h := z4 (a - gn g - 1) (by omega)
        rw [show H.size + 1 + (a - gn g - 1) = a by omega] at h
        rw [h]
        rfl
  · rcases List.mem_append.mp hq with h | h
    · exact hSS.2.2 q h
    · show bs κ ≤ q.base
      rw [hL q h]
      omega
end RAW
def lbO (o : Nat) : Nat := if o < 7 then (match o with | 0 => 4 | 1 => 10 | 2 => 2 | 3 => 9 | 4 => 8 | _ => 6) else if o < 31 then (match (o - 7) % 4 with | 0 => 0 | 1 => 9 | _ => 6) else if o = 31 then 5 else if o = 33 then 12 else if 34 ≤ o ∧ o < 58 then 11 else if o = 59 then 7 else 6
def lnO (o : Nat) : Nat := if o < 7 then (match o with | 1 => 24 | 3 => 80 | 4 => 6 | 5 => 6 | 6 => 12 | _ => 0) else if o < 31 then (match (o - 7) % 4 with | 0 => 0 | _ => 3) else if o = 31 then 0 else if 34 ≤ o ∧ o < 58 then 12 else 24
def fO (b o c : Nat) : Option Nat :=
  if o = 0 then (if c = 5 then some (b + 6) else if c = 4 then some (b + 5) else if c = 3 then some (b + 4) else if c = 2 then some (b + 2) else if c = 0 then some (b + 1) else none)
  else if o = 2 then (if c = 0 then some (b + 3) else none)
  else if o = 4 then (if c < 6 then some (b + (7 + 4 * c)) else none)
  else if 7 ≤ o ∧ o < 31 ∧ (o - 7) % 4 = 0 then (if 1 ≤ c ∧ c ≤ 3 then some (b + o + c) else none)
  else if o = 31 then (if c = 3 then some (b + 59) else if c = 2 then some (b + 58) else if c = 1 then some (b + 33) else if c = 0 then some (b + 32) else none)
  else if o = 33 then (if c < 24 then some (b + 34 + c) else none) else none
def RB (b n : Nat) (f : Nat → Nat → Option Nat) (g : GG) : Prop := gn g = b + n ∧ ∀ o, o < n → gk g (b + o) = lbO o ∧ gl g (b + o) = lnO o ∧ (∀ c, gi g (b + o) c = 0) ∧ ∀ c, gr g (b + o) c = f o c
def fN (f : Nat → Nat → Option Nat) (n : Nat) : Nat → Nat → Option Nat := fun o c => if o = n then none else f o c
theorem rb_new {b n lb len : Nat} {f : Nat → Nat → Option Nat} {g : GG} (h : RB b n f g) (h1 : lbO n = lb) (h2 : lnO n = len) : RB b (n + 1) (fN f n) (newG g lb len) := by
  obtain ⟨z, h⟩ := h
  refine ⟨by rw [gn_new, z]; omega, fun o ho => ?_⟩
  by_cases e : o = n
  · subst e
    have e2 : b + o = gn g := z.symm
    rw [e2]
    exact ⟨by rw [gk_new_at, h1], by rw [gl_new_at, h2], fun c => by rw [gi_new_at], fun c => by rw [gr_new_at]; exact (if_pos rfl).symm⟩
  · obtain ⟨q1, q2, q3, q4⟩ := h o (by omega)
    have e2 : b + o ≠ gn g := by omega
    exact ⟨by rw [gk_nw e2, q1], by rw [gl_nw e2, q2], fun c => by rw [gi_nw e2]; exact q3 c, fun c => by rw [gr_nw e2, q4]; exact (if_neg e).symm⟩
theorem rb_set {b n o k : Nat} {x : Option Nat} {f : Nat → Nat → Option Nat} {g : GG} (h : RB b n f g) : RB b n (up2 f o k x) (setR g (b + o) k x) := by
  obtain ⟨z, h⟩ := h
  refine ⟨z, fun q hq => ?_⟩
  obtain ⟨q1, q2, q3, q4⟩ := h q hq
  refine ⟨q1, q2, q3, fun c => ?_⟩
  show up2 (gr g) (b + o) k x (b + q) c = _
  unfold up2
  by_cases e : q = o ∧ c = k
  · rw [if_pos e, if_pos ⟨by rw [e.1], e.2⟩]
  · rw [if_neg e, if_neg (fun e2 => e ⟨by omega, e2.2⟩)]
    exact q4 c
theorem rb_cg {b n : Nat} {f f' : Nat → Nat → Option Nat} {g : GG} (h : RB b n f g) (hf : ∀ o, o < n → ∀ c, f o c = f' o c) : RB b n f' g :=
  ⟨h.1, fun o ho => ⟨(h.2 o ho).1, (h.2 o ho).2.1, (h.2 o ho).2.2.1, fun c => by rw [(h.2 o ho).2.2.2, hf o ho]⟩⟩
theorem rb_lab {κ : KK} {b n o k : Nat} {f : Nat → Nat → Option Nat} {g : GG} (h : RB b n f g) (hb : bs κ ≤ b) (ho : o < n) (hk : lbO o % 32 = k) : lab κ g (b + o) k := ⟨by omega, by rw [h.1]; omega, by rw [(h.2 o ho).1]; exact hk⟩
theorem rb_multi {b : Nat} {f : Nat → Nat → Option Nat} {g : GG} (h : RB b 33 f g) : RB b 58 (fun o c => if o = 33 then (if c < 24 then some (b + 34 + c) else none) else if 34 ≤ o then none else f o c) (mgG g) := by
  obtain ⟨z, h⟩ := h
  refine ⟨by show gn g + 25 = _; omega, fun o ho => ?_⟩
  show (if b + o = gn g then 12 else if gn g ≤ b + o ∧ b + o < gn g + 25 then 11 else gk g (b + o)) = _ ∧ (if b + o = gn g then 24 else if gn g ≤ b + o ∧ b + o < gn g + 25 then 12 else gl g (b + o)) = _ ∧ (∀ c, (if gn g ≤ b + o ∧ b + o < gn g + 25 then (fun _ => 0) else gi g (b + o)) c = 0) ∧ ∀ c, (if b + o = gn g then (fun j => if j < 24 then some (gn g + 1 + j) else none) else if gn g ≤ b + o ∧ b + o < gn g + 25 then (fun _ => none) else gr g (b + o)) c = _
  rcases Nat.lt_or_ge o 33 with h1 | h1
  · obtain ⟨q1, q2, q3, q4⟩ := h o h1
    rw [if_neg (by omega), if_neg (by omega), if_neg (by omega), if_neg (by omega), if_neg (by omega), if_neg (by omega), if_neg (by omega)]
    refine ⟨q1, q2, q3, fun c => ?_⟩
    show _ = (if o = 33 then (if c < 24 then some (b + 34 + c) else none) else if 34 ≤ o then none else f o c)
    rw [q4, if_neg (by omega), if_neg (by omega)]
  · by_cases e : o = 33
    · subst e
      rw [if_pos (by omega), if_pos (by omega), if_pos (by omega), if_pos (by omega)]
      refine ⟨rfl, rfl, fun c => rfl, fun c => ?_⟩
      show _ = (if 33 = 33 then (if c < 24 then some (b + 34 + c) else none) else if 34 ≤ 33 then none else f 33 c)
      rw [if_pos rfl, z]
    · rw [if_neg (by omega), if_pos (by omega), if_neg (by omega), if_pos (by omega), if_pos (by omega), if_neg (by omega), if_pos (by omega)]
      refine ⟨?_, ?_, fun c => rfl, fun c => ?_⟩
      · unfold lbO
        rw [if_neg (by omega), if_neg (by omega), if_neg (by omega), if_neg (by omega), if_pos (by omega)]
      · unfold lnO
        rw [if_neg (by omega), if_neg (by omega), if_neg (by omega), if_pos (by omega)]
      · show _ = (if o = 33 then (if c < 24 then some (b + 34 + c) else none) else if 34 ≤ o then none else f o c)
        rw [if_neg e, if_pos (by omega)]
