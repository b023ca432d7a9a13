/-! new cells -/
def gZ : GG := (0, fun _ => 0, fun _ _ => 0, fun _ _ => none, fun _ => 0)
theorem gi_new_at (g : GG) (lb len : Nat) : gi (newG g lb len) (gn g) = fun _ => 0 := if_pos rfl
theorem gr_new_at (g : GG) (lb len : Nat) : gr (newG g lb len) (gn g) = fun _ => none := if_pos rfl
theorem gk_new_at (g : GG) (lb len : Nat) : gk (newG g lb len) (gn g) = lb := if_pos rfl
theorem gl_new_at (g : GG) (lb len : Nat) : gl (newG g lb len) (gn g) = len := if_pos rfl
theorem gi_nw {g : GG} {lb len b : Nat} (h : b ≠ gn g) : gi (newG g lb len) b = gi g b := if_neg h
theorem gr_nw {g : GG} {lb len b : Nat} (h : b ≠ gn g) : gr (newG g lb len) b = gr g b := if_neg h
theorem gk_nw {g : GG} {lb len b : Nat} (h : b ≠ gn g) : gk (newG g lb len) b = gk g b := if_neg h
theorem gl_nw {g : GG} {lb len b : Nat} (h : b ≠ gn g) : gl (newG g lb len) b = gl g b := if_neg h
theorem gn_new (g : GG) (lb len : Nat) : gn (newG g lb len) = gn g + 1 := rfl
theorem Fs_new_at (g : GG) (lb len c : Nat) : Fs (newG g lb len) (gn g) c = Fs gZ 0 c := by
  unfold Fs
  rw [gi_new_at, gr_new_at]
  rfl
theorem lab_new {κ : KK} {g : GG} {lb len b k : Nat} (h : lab κ g b k) : lab κ (newG g lb len) b k := by
  obtain ⟨h1, h2, h3⟩ := h
  exact ⟨h1, by rw [gn_new]; omega, by rw [gk_nw (by omega)]; exact h3⟩
theorem lab_new_at {κ : KK} {g : GG} {lb len k : Nat} (hb : bs κ ≤ gn g) (h : lb % 32 = k) : lab κ (newG g lb len) (gn g) k := ⟨hb, by rw [gn_new]; omega, by rw [gk_new_at]; exact h⟩
section MK
variable {κ : KK} {y : MY} {d kc ks pc : Nat} {lv : List (Nat × Value)} {st : List Value} {g : GG} {Q : Option Value → GG → Prop}
theorem r_new {cx idx N kc' ks' : Nat} {C : String} {T : u_T} {ty0 : Nat → FieldType} (lb : Nat) (hd : decode y.2.1 pc = .ok (.new idx, 3)) (hc : vwCl[cx]? = some (C, T, N)) (hin : ∀ w ∈ u_ws C T N, w ∈ AL) (hty : ∀ k, k < N → parseFieldDescriptor (T k).2.2.1 = some (ty0 k)) (hcl : Cond.classLink y.1.cls idx C ∈ AL) (hinst : Cond.instantiable C N ∈ AL) (hini : Cond.initialized C ∈ AL) (hc6 : cx < 6) (hlb : lb % 32 = cx) (hdef : ∀ j, j < N → defaultValue (ty0 j) = vp_V (Fs gZ 0 cx) j) (hmc : 1 + kc' ≤ kc) (hms : N + ks' ≤ ks)
    (kk : Wp κ y d kc' ks' (pc + 3) lv (.ref (gn g) :: st) (newG g lb 0) Q) : Wp κ y d kc ks pc lv st g Q := by
  intro p l e R s m args below meth c H locs cells slots mc ms ls M hR h1 h2 hG hSS hlv
  obtain ⟨hx, hb, hr, hml, hown, hlk, hin0, hts, hK, hX, hsl, hsb, hbs⟩ := id M
  obtain ⟨hR1, hR2, hR3, hR4⟩ := hR
  have hKn := hK.1.1 cx _ hc
  refine W.newcK hx hb hown (hts _ hcl) (hts _ hinst) (hts _ hini) rfl hd (by omega) (by omega) hKn.2.1 hG.1 fun H1 kCl hkC e1 z1 o1 => ?_
  refine kk p l e R s m args below meth c H1 locs _ _ mc ms ls M ⟨hR1, hR2, hR3, hR4⟩ (by omega) (by omega) (hG.grown (by rw [z1, hG.1]) (fun q hq => o1 q (by rw [← hG.1]; exact hq)) ?_) ⟨by have := hSS.1; have := hG.1; omega, fun x g1 g2 => (o1 x (by have := hSS.1; have := hG.1; omega)).trans (hSS.2.1 x g1 g2), hSS.2.2⟩ hlv
  rw [ge_obj (by rw [gk_new_at]; exact hlb) hc6]
  refine ⟨_, hc, (u_born ty0 hts hin hKn hkC e1 hty).to fun j hj => ?_⟩
  rw [Fs_new_at]
  exact hdef j hj
theorem r_newI {n kc' ks' : Nat} {x : Int32} (lb : Nat) (hd : decode y.2.1 pc = .ok (.newarray .int, 2)) (hn : x = nI n) (hsm : n ≤ 1000) (hlb : lb % 32 = 6) (hmc : 1 + kc' ≤ kc) (hms : n + ks' ≤ ks) (kk : Wp κ y d kc' ks' (pc + 2) lv (.ref (gn g) :: st) (newG g lb n) Q) : Wp κ y d kc ks pc lv (.int x :: st) g Q := by
  intro p l e R s m args below meth c H locs cells slots mc ms ls M hR h1 h2 hG hSS hlv
  subst hn
  obtain ⟨hx, hb, hr, hml, hown, hlk, hin0, hts, hK, hX, hsl, hsb, hbs⟩ := id M
  obtain ⟨hR1, hR2, hR3, hR4⟩ := hR
  refine va_newaK (atype := .int) (N := n) hx hb (hts _ ma_int) rfl hd rfl (nI_pos (by omega)) (nI_clamp (by omega)) (by show n * 4 ≤ 536870912; omega) (by omega) (by omega) hG.1 fun H1 cA e1 z1 o1 hAr hNm => ?_
  have hcA : cA = cy κ 6 := Option.some.inj (hNm.symm.trans (hK.1.2 0 _ rfl).2)
  refine kk p l e R s m args below meth c H1 locs _ _ mc ms ls M ⟨hR1, hR2, hR3, hR4⟩ (by omega) (by omega) (hG.grown (by rw [z1, hG.1]) (fun q hq => o1 q (by rw [← hG.1]; exact hq)) ?_) ⟨by have := hSS.1; have := hG.1; omega, fun x g1 g2 => (o1 x (by have := hSS.1; have := hG.1; omega)).trans (hSS.2.1 x g1 g2), hSS.2.2⟩ hlv
  rw [ge_arr (c := 6) (by rw [gk_new_at]; exact hlb) (by decide), Ar_i (by decide), gl_new_at, gi_new_at]
  show H1[gn g]? = some (vp_cell _ _)
  rw [e1, hcA]
  rfl
theorem r_newZ {n kc' ks' : Nat} {x : Int32} (lb : Nat) (hd : decode y.2.1 pc = .ok (.newarray .boolean, 2)) (hn : x = nI n) (hsm : n ≤ 1000) (hlb : lb % 32 = 7) (hmc : 1 + kc' ≤ kc) (hms : n + ks' ≤ ks) (kk : Wp κ y d kc' ks' (pc + 2) lv (.ref (gn g) :: st) (newG g lb n) Q) : Wp κ y d kc ks pc lv (.int x :: st) g Q := by
  intro p l e R s m args below meth c H locs cells slots mc ms ls M hR h1 h2 hG hSS hlv
  subst hn
  obtain ⟨hx, hb, hr, hml, hown, hlk, hin0, hts, hK, hX, hsl, hsb, hbs⟩ := id M
  obtain ⟨hR1, hR2, hR3, hR4⟩ := hR
  refine va_newaK (atype := .boolean) (N := n) hx hb (hts _ ma_boolean) rfl hd rfl (nI_pos (by omega)) (nI_clamp (by omega)) (by show n * 1 ≤ 536870912; omega) (by omega) (by omega) hG.1 fun H1 cA e1 z1 o1 hAr hNm => ?_
  have hcA : cA = cy κ 7 := Option.some.inj (hNm.symm.trans (hK.1.2 1 _ rfl).2)
  refine kk p l e R s m args below meth c H1 locs _ _ mc ms ls M ⟨hR1, hR2, hR3, hR4⟩ (by omega) (by omega) (hG.grown (by rw [z1, hG.1]) (fun q hq => o1 q (by rw [← hG.1]; exact hq)) ?_) ⟨by have := hSS.1; have := hG.1; omega, fun x g1 g2 => (o1 x (by have := hSS.1; have := hG.1; omega)).trans (hSS.2.1 x g1 g2), hSS.2.2⟩ hlv
  rw [ge_arr (c := 7) (by rw [gk_new_at]; exact hlb) (by decide), Ar_i (by decide), gl_new_at, gi_new_at]
  show H1[gn g]? = some (vp_cell _ _)
  rw [e1, hcA]
  rfl
theorem r_newQ {cx idx n N kc' ks' : Nat} {C : String} {T : u_T} {x : Int32} (lb : Nat) (hd : decode y.2.1 pc = .ok (.anewarray idx, 3)) (hcx : cx = 0 ∨ cx = 1 ∨ cx = 3) (hc : vwCl[cx]? = some (C, T, N)) (hcl : Cond.classLink y.1.cls idx C ∈ AL) (hn : x = nI n) (hsm : n ≤ 1000) (hlb : elk (lb % 32) = cx ∧ 8 ≤ lb % 32 ∧ lb % 32 ≤ 10) (hmc : 1 + kc' ≤ kc) (hms : n + ks' ≤ ks) (kk : Wp κ y d kc' ks' (pc + 3) lv (.ref (gn g) :: st) (newG g lb n) Q) : Wp κ y d kc ks pc lv (.int x :: st) g Q := by
  intro p l e R s m args below meth c H locs cells slots mc ms ls M hR h1 h2 hG hSS hlv
  subst hn
  obtain ⟨hx, hb, hr, hml, hown, hlk, hin0, hts, hK, hX, hsl, hsb, hbs⟩ := id M
  obtain ⟨hR1, hR2, hR3, hR4⟩ := hR
  obtain ⟨k, hk⟩ : ∃ k, k = lb % 32 := ⟨_, rfl⟩
  rw [← hk] at hlb
  have hover : (Cond.arrayOver (.object C)).before #[] s = true := by
    rcases hcx with rfl | rfl | rfl
    · cases hc; exact hK.2.2.2.2.2 _ (by simp [nlA])
    · cases hc; exact hK.2.2.2.2.2 _ (by simp [nlA])
    · cases hc; exact hK.2.2.2.2.2 _ (by simp [nlA])
  have hcA0 : s.vm.findClass ("[" ++ (FieldType.object C).toString) = some (cy κ k) := by
    have h3 : k = 8 ∨ k = 9 ∨ k = 10 := by omega
    rcases h3 with rfl | rfl | rfl
    · obtain ⟨kA, comp, q1, q2, q3, q4⟩ := (hK.1.2 2 _ rfl).2
      have : cx = 0 := hlb.1.symm
      subst this
      cases hc; exact q4
    · obtain ⟨kA, comp, q1, q2, q3, q4⟩ := (hK.1.2 3 _ rfl).2
      have : cx = 1 := hlb.1.symm
      subst this
      cases hc; exact q4
    · obtain ⟨kA, comp, q1, q2, q3, q4⟩ := (hK.1.2 4 _ rfl).2
      have : cx = 3 := hlb.1.symm
      subst this
      cases hc; exact q4
  refine W.anew hx hb hown (hts _ hcl) (va_AO.use hover) rfl hd rfl (nI_pos (by omega)) (by rw [nI_clamp (by omega)]; omega) (by omega) (by rw [nI_clamp (by omega)]; omega) fun cA kA comp f1 f2 f3 f4 => ?_
  have hcA : cA = cy κ k := Option.some.inj (f1.symm.trans hcA0)
  subst hcA
  rw [nI_clamp (show n < 2 ^ 31 by omega)]
  generalize hH1 : H.push ({ cls := cy κ k, slots := Array.replicate n .null, vm := .none } : Cell) = H1
  have z1 : H1.size = H.size + 1 := by rw [← hH1, Array.size_push]
  have e1 : H1[H.size]? = some (arrV (cy κ k) n (fun _ => .null)) := by rw [← hH1, Array.getElem?_push_size, ← arrV_new]
  have o1 : ∀ q : Nat, q < H.size → H1[q]? = H[q]? := fun q hq => by rw [← hH1, Array.getElem?_push, if_neg (Nat.ne_of_lt hq)]
  refine W.eq (g2 := F0 m (pc + 3) ls (.ref (gn g) :: st)) (by rw [hG.1]) ?_
  refine kk p l e R s m args below meth c H1 locs _ _ mc ms ls M ⟨hR1, hR2, hR3, hR4⟩ (by omega) (by omega) (hG.grown z1 o1 ?_) ⟨by have := hSS.1; have := hG.1; omega, fun x g1 g2 => (o1 x (by have := hSS.1; have := hG.1; omega)).trans (hSS.2.1 x g1 g2), hSS.2.2⟩ hlv
  rw [ge_arr (c := k) (by rw [gk_new_at]; exact hk.symm) (by omega), Ar_r hlb.2.1, gl_new_at, gr_new_at]
  show H1[gn g]? = some (vp_cell _ _)
  rw [← hG.1, e1]
  rfl
end MK
