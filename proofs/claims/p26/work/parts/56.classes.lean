/-! the classes and array classes of a start -/
theorem lw_F : ∀ q ∈ nlF, Cond.fieldLinkNest q.1 q.2.1 q.2.2.1 q.2.2.2.1 q.2.2.2.2.1 q.2.2.2.2.2 ∈ lw_tbl := by decide +kernel
theorem lw_M : ∀ q ∈ nlM, Cond.methodLinkNest q.1 q.2.1 q.2.2.1 q.2.2.2 ∈ lw_tbl := by decide +kernel
theorem lw_A : ∀ t ∈ nlA, Cond.arrayOver t ∈ lw_tbl := by decide +kernel
theorem kx_first {s : State} {args : Array Value} (hts : ∀ w ∈ lw_tbl, w.before args s = true) (b L : Nat) (xv : Nat → Int32) : ∃ κ : KK, KX κ s ∧ bs κ = s.heap.size ∧ sb κ = b ∧ sl κ = L ∧ xs κ = xv := by
  have hAL : ∀ w ∈ AL, w.before args s = true := fun w hw => hts w (al_code hw).1
  obtain ⟨c0, i0, k0⟩ := u_known hAL cb0.2.1 (hAL _ mn_X0)
  obtain ⟨c1, i1, k1⟩ := u_known hAL cb1.2.1 (hAL _ mn_X1)
  obtain ⟨c2, i2, k2⟩ := u_known hAL cb2.2.1 (hAL _ mn_X2)
  obtain ⟨c3, i3, k3⟩ := u_known hAL cb3.2.1 (hAL _ mn_X3)
  obtain ⟨c4, i4, k4⟩ := u_known hAL cb4.2.1 (hAL _ mn_X4)
  obtain ⟨c5, i5, k5⟩ := u_known hAL cb5.2.1 (hAL _ mn_X5)
  obtain ⟨a6, q6, d6, n6, p6, r6⟩ := Cond.arrayClass_spec (hAL _ ma_int)
  obtain ⟨a7, q7, d7, n7, p7, r7⟩ := Cond.arrayClass_spec (hAL _ ma_boolean)
  obtain ⟨d8, a8, q8, m8, -, p8, r8, n8⟩ := Cond.arrayOver_spec (hts _ (lw_A (.object RX0) (by simp [nlA])))
  obtain ⟨d9, a9, q9, m9, -, p9, r9, n9⟩ := Cond.arrayOver_spec (hts _ (lw_A (.object RX1) (by simp [nlA])))
  obtain ⟨d10, a10, q10, m10, -, p10, r10, n10⟩ := Cond.arrayOver_spec (hts _ (lw_A (.object RX3) (by simp [nlA])))
  obtain ⟨d11, a11, q11, m11, -, p11, r11, n11⟩ := arrayOverA_spec (hts _ (lw_A (.array .int) (by simp [nlA])))
  obtain ⟨d12, a12, q12, m12, -, p12, r12, n12⟩ := arrayOverA_spec (hts _ (lw_A (.array (.array .int)) (by simp [nlA])))
  have e11 : d11 = a6 := Option.some.inj (m11.symm.trans n6)
  have e12 : d12 = a11 := Option.some.inj (m12.symm.trans n11)
  subst e11
  subst e12
  refine ⟨(fun k => match k with | 0 => c0 | 1 => c1 | 2 => c2 | 3 => c3 | 4 => c4 | _ => c5, fun k => match k with | 0 => i0 | 1 => i1 | 2 => i2 | 3 => i3 | 4 => i4 | _ => i5, fun k => match k with | 6 => d11 | 7 => a7 | 8 => a8 | 9 => a9 | 10 => a10 | 11 => d12 | _ => a12, s.heap.size, b, L, xv), ⟨⟨fun k q hq => ?_, fun k q hq => ?_⟩, ⟨q11, p11, r11⟩, ⟨q12, p12, r12⟩, fun q hq => va_Nw.of rfl (hts _ (lw_F q hq)), fun q hq => va_Nw.of rfl (hts _ (lw_M q hq)), fun t ht => hts _ (lw_A t ht)⟩, rfl, rfl, rfl, rfl⟩
  · match k, hq with
    | 0, hq => cases hq; exact k0
    | 1, hq => cases hq; exact k1
    | 2, hq => cases hq; exact k2
    | 3, hq => cases hq; exact k3
    | 4, hq => cases hq; exact k4
    | 5, hq => cases hq; exact k5
    | k + 6, hq => simp [vwCl] at hq
  · match k, hq with
    | 0, hq => cases hq; exact ⟨fun n z => ⟨fun k h => (by cases h), q6, p6, d6, r6⟩, n6⟩
    | 1, hq => cases hq; exact ⟨fun n z => ⟨fun k h => (by cases h), q7, p7, d7, r7⟩, n7⟩
    | 2, hq => cases hq; exact ⟨fun n z => ⟨fun k h => (by cases h), q8, p8, d8, r8⟩, q8, d8, p8, r8, m8, n8⟩
    | 3, hq => cases hq; exact ⟨fun n z => ⟨fun k h => (by cases h), q9, p9, d9, r9⟩, q9, d9, p9, r9, m9, n9⟩
    | 4, hq => cases hq; exact ⟨fun n z => ⟨fun k h => (by cases h), q10, p10, d10, r10⟩, q10, d10, p10, r10, m10, n10⟩
    | 5, hq => cases hq; exact ⟨fun n z => ⟨fun k h => (by cases h), q11, p11, d11, r11⟩, n11⟩
    | 6, hq => cases hq; exact ⟨fun n z => ⟨fun k h => (by cases h), q12, p12, d12, r12⟩, n12⟩
    | k + 7, hq => simp [tys] at hq
