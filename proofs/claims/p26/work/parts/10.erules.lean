theorem cat_rf (o : Option Nat) : (va_rf o).category = 1 := by cases o <;> rfl
/-- what the tables say of a class -/
def CB (t : Nat) (C : String) (T : u_T) (N : Nat) (ty0 : Nat → FieldType) : Prop := vwCl[t]? = some (C, T, N) ∧ (∀ w ∈ u_ws C T N, w ∈ AL) ∧ (∀ k, k < N → parseFieldDescriptor (T k).2.2.1 = some (ty0 k)) ∧ (∀ a, a < N → ∀ b, b < N → a ≠ b → (T a).2.1 ≠ (T b).2.1)
theorem cb0 : CB 0 RX0 TX0 9 tyX0 := ⟨rfl, inA0, tyX0_ok, nmX0⟩
theorem cb1 : CB 1 RX1 TX1 6 tyX1 := ⟨rfl, inA1, tyX1_ok, nmX1⟩
theorem cb2 : CB 2 RX2 TX2 2 tyX2 := ⟨rfl, inA2, tyX2_ok, nmX2⟩
theorem cb3 : CB 3 RX3 TX3 12 tyX3 := ⟨rfl, inA3, tyX3_ok, nmX3⟩
theorem cb4 : CB 4 RX4 TX4 6 tyX4 := ⟨rfl, inA4, tyX4_ok, nmX4⟩
theorem cb5 : CB 5 RX5 TX5 5 tyX5 := ⟨rfl, inA5, tyX5_ok, nmX5⟩
theorem Fs_I {g : GG} {a t k : Nat} (h : isIf t k = true) : (Fs g a t)[k]? = some (.int (gi g a k)) := by
  unfold isIf at h
  split at h <;> first | rfl | cases h
theorem Fs_R {g : GG} {a t k : Nat} (h : isRf t k = true) : (Fs g a t)[k]? = some (va_rf (gr g a k)) := by
  unfold isRf at h
  split at h <;> first | rfl | cases h
theorem isIf_I {t k : Nat} (h : isIf t k = true) : t < 6 ∧ isI t k = true := by
  have h6 := (If_c6 h).1
  refine ⟨h6, ?_⟩
  have : t = 0 ∨ t = 1 ∨ t = 2 ∨ t = 3 ∨ t = 4 ∨ t = 5 := by omega
  rcases this with rfl | rfl | rfl | rfl | rfl | rfl <;> exact h
theorem isRf_I {t k : Nat} (h : isRf t k = true) : t < 6 ∧ isI t k = false := by
  have h6 := (Rf_c6 h).1
  refine ⟨h6, ?_⟩
  unfold isRf at h
  split at h <;> first | rfl | cases h
theorem kd6 {t : Nat} (h : t < 6) : kd t = t := by
  have : t = 0 ∨ t = 1 ∨ t = 2 ∨ t = 3 ∨ t = 4 ∨ t = 5 := by omega
  rcases this with rfl | rfl | rfl | rfl | rfl | rfl <;> rfl
theorem lv1 (σ : ST) (t : Nat) (h : ∀ s, cnt s t = 1) : Lv σ t 0 := ⟨Int.le_refl 0, by rw [h]; omega⟩
section ER
variable {κ : KK} {y : MY} {d kc ks pc : Nat} {lv : List (Nat × Value)} {st : List Value} {g : GG} {Q : Option Value → GG → Prop} {A : Nat → Int → Nat} {σ : ST}
theorem e_iconst {n : Int} (hd : decode y.2.1 pc = .ok (.iconst n, 1)) (k : Wp κ y d kc ks (pc + 1) lv (.int (iI n) :: st) g Q) : Wp κ y d kc ks pc lv st g Q := r_iconst hd (iI n) rfl k
theorem e_bipush {n : Int} (hd : decode y.2.1 pc = .ok (.bipush n, 2)) (hv : (Int8.ofInt n).toInt32 = iI n) (k : Wp κ y d kc ks (pc + 2) lv (.int (iI n) :: st) g Q) : Wp κ y d kc ks pc lv st g Q := r_bipush hd (iI n) hv k
theorem e_sipush {n : Int} (hd : decode y.2.1 pc = .ok (.sipush n, 3)) (hv : (Int16.ofInt n).toInt32 = iI n) (k : Wp κ y d kc ks (pc + 3) lv (.int (iI n) :: st) g Q) : Wp κ y d kc ks pc lv st g Q := r_sipush hd (iI n) hv k
theorem e_iadd {a b : Int} (hd : decode y.2.1 pc = .ok (.iadd, 1)) (k : Wp κ y d kc ks (pc + 1) lv (.int (iI (a + b)) :: st) g Q) : Wp κ y d kc ks pc lv (.int (iI b) :: .int (iI a) :: st) g Q := r_iadd hd (by rw [iI_add]; exact k)
theorem e_isub {a b : Int} (hd : decode y.2.1 pc = .ok (.isub, 1)) (k : Wp κ y d kc ks (pc + 1) lv (.int (iI (a - b)) :: st) g Q) : Wp κ y d kc ks pc lv (.int (iI b) :: .int (iI a) :: st) g Q := r_isub hd (by rw [iI_sub]; exact k)
theorem e_imul {a b : Int} (hd : decode y.2.1 pc = .ok (.imul, 1)) (k : Wp κ y d kc ks (pc + 1) lv (.int (iI (a * b)) :: st) g Q) : Wp κ y d kc ks pc lv (.int (iI b) :: .int (iI a) :: st) g Q := r_imul hd (by rw [iI_mul]; exact k)
theorem e_iinc {i : Nat} {n a : Int} (hd : decode y.2.1 pc = .ok (.iinc i n, 3)) (hg : lvg lv i = some (.int (iI a))) (hn : i < y.2.2.1) (k : Wp κ y d kc ks (pc + 3) (sto i (.int (iI (a + n))) lv) st g Q) : Wp κ y d kc ks pc lv st g Q := r_iinc hd hg (iI_add a n) hn k
theorem e_null (A : Nat → Int → Nat) (t : Nat) (hd : decode y.2.1 pc = .ok (.aconst_null, 1)) (k : Wp κ y d kc ks (pc + 1) lv (vr A t (-1) :: st) g Q) : Wp κ y d kc ks pc lv st g Q := r_null hd (by rw [vr_none (by decide)] at k; exact k)
theorem e_iv {a b : Int} (h : a = b) (k : Wp κ y d kc ks pc lv (.int (iI b) :: st) g Q) : Wp κ y d kc ks pc lv (.int (iI a) :: st) g Q := by subst h; exact k
theorem e_rv {t : Nat} {a b : Int} (h : a = b) (k : Wp κ y d kc ks pc lv (vr A t b :: st) g Q) : Wp κ y d kc ks pc lv (vr A t a :: st) g Q := by subst h; exact k
theorem e_ic_eq {a b off : Int} (tgt : Nat) (hd : decode y.2.1 pc = .ok (.if_icmp .eq off, 3)) (ht : (pc : Int) + off = (tgt : Int)) (ha : R32 a) (hb : R32 b) (kt : a = b → Wp κ y d kc ks tgt lv st g Q) (kf : ¬ a = b → Wp κ y d kc ks (pc + 3) lv st g Q) : Wp κ y d kc ks pc lv (.int (iI b) :: .int (iI a) :: st) g Q :=
  r_ic_eq tgt hd ht (fun h => kt ((iI_eq ha hb).mp h)) (fun h => kf (fun e => h ((iI_eq ha hb).mpr e)))
theorem e_if_eq {a off : Int} (tgt : Nat) (hd : decode y.2.1 pc = .ok (.ifCond .eq off, 3)) (ht : (pc : Int) + off = (tgt : Int)) (ha : R32 a) (kt : a = 0 → Wp κ y d kc ks tgt lv st g Q) (kf : ¬ a = 0 → Wp κ y d kc ks (pc + 3) lv st g Q) : Wp κ y d kc ks pc lv (.int (iI a) :: st) g Q :=
  r_if_eq tgt hd ht (fun h => kt ((iI_eq ha (show R32 0 by decide)).mp h)) (fun h => kf (fun e => h ((iI_eq ha (show R32 0 by decide)).mpr e)))
theorem e_ic_ne {a b off : Int} (tgt : Nat) (hd : decode y.2.1 pc = .ok (.if_icmp .ne off, 3)) (ht : (pc : Int) + off = (tgt : Int)) (ha : R32 a) (hb : R32 b) (kt : ¬ a = b → Wp κ y d kc ks tgt lv st g Q) (kf : a = b → Wp κ y d kc ks (pc + 3) lv st g Q) : Wp κ y d kc ks pc lv (.int (iI b) :: .int (iI a) :: st) g Q :=
  r_ic_ne tgt hd ht (fun h => kt (fun e => h ((iI_eq ha hb).mpr e))) (fun h => kf ((iI_eq ha hb).mp h))
theorem e_if_ne {a off : Int} (tgt : Nat) (hd : decode y.2.1 pc = .ok (.ifCond .ne off, 3)) (ht : (pc : Int) + off = (tgt : Int)) (ha : R32 a) (kt : ¬ a = 0 → Wp κ y d kc ks tgt lv st g Q) (kf : a = 0 → Wp κ y d kc ks (pc + 3) lv st g Q) : Wp κ y d kc ks pc lv (.int (iI a) :: st) g Q :=
  r_if_ne tgt hd ht (fun h => kt (fun e => h ((iI_eq ha (show R32 0 by decide)).mpr e))) (fun h => kf ((iI_eq ha (show R32 0 by decide)).mp h))
theorem e_ic_lt {a b off : Int} (tgt : Nat) (hd : decode y.2.1 pc = .ok (.if_icmp .lt off, 3)) (ht : (pc : Int) + off = (tgt : Int)) (ha : R32 a) (hb : R32 b) (kt : a < b → Wp κ y d kc ks tgt lv st g Q) (kf : b ≤ a → Wp κ y d kc ks (pc + 3) lv st g Q) : Wp κ y d kc ks pc lv (.int (iI b) :: .int (iI a) :: st) g Q :=
  r_ic_lt tgt hd ht (fun h => kt ((iI_lt ha hb).mp h)) (fun h => kf (Int.not_lt.mp (fun e => h ((iI_lt ha hb).mpr e))))
theorem e_if_lt {a off : Int} (tgt : Nat) (hd : decode y.2.1 pc = .ok (.ifCond .lt off, 3)) (ht : (pc : Int) + off = (tgt : Int)) (ha : R32 a) (kt : a < 0 → Wp κ y d kc ks tgt lv st g Q) (kf : 0 ≤ a → Wp κ y d kc ks (pc + 3) lv st g Q) : Wp κ y d kc ks pc lv (.int (iI a) :: st) g Q :=
  r_if_lt tgt hd ht (fun h => kt ((iI_lt ha (show R32 0 by decide)).mp h)) (fun h => kf (Int.not_lt.mp (fun e => h ((iI_lt ha (show R32 0 by decide)).mpr e))))
theorem e_ic_ge {a b off : Int} (tgt : Nat) (hd : decode y.2.1 pc = .ok (.if_icmp .ge off, 3)) (ht : (pc : Int) + off = (tgt : Int)) (ha : R32 a) (hb : R32 b) (kt : b ≤ a → Wp κ y d kc ks tgt lv st g Q) (kf : a < b → Wp κ y d kc ks (pc + 3) lv st g Q) : Wp κ y d kc ks pc lv (.int (iI b) :: .int (iI a) :: st) g Q :=
  r_ic_ge tgt hd ht (fun h => kt ((iI_le hb ha).mp h)) (fun h => kf (Int.not_le.mp (fun e => h ((iI_le hb ha).mpr e))))
theorem e_if_ge {a off : Int} (tgt : Nat) (hd : decode y.2.1 pc = .ok (.ifCond .ge off, 3)) (ht : (pc : Int) + off = (tgt : Int)) (ha : R32 a) (kt : 0 ≤ a → Wp κ y d kc ks tgt lv st g Q) (kf : a < 0 → Wp κ y d kc ks (pc + 3) lv st g Q) : Wp κ y d kc ks pc lv (.int (iI a) :: st) g Q :=
  r_if_ge tgt hd ht (fun h => kt ((iI_le (show R32 0 by decide) ha).mp h)) (fun h => kf (Int.not_le.mp (fun e => h ((iI_le (show R32 0 by decide) ha).mpr e))))
theorem e_ic_gt {a b off : Int} (tgt : Nat) (hd : decode y.2.1 pc = .ok (.if_icmp .gt off, 3)) (ht : (pc : Int) + off = (tgt : Int)) (ha : R32 a) (hb : R32 b) (kt : b < a → Wp κ y d kc ks tgt lv st g Q) (kf : a ≤ b → Wp κ y d kc ks (pc + 3) lv st g Q) : Wp κ y d kc ks pc lv (.int (iI b) :: .int (iI a) :: st) g Q :=
  r_ic_gt tgt hd ht (fun h => kt ((iI_lt hb ha).mp h)) (fun h => kf (Int.not_lt.mp (fun e => h ((iI_lt hb ha).mpr e))))
theorem e_if_gt {a off : Int} (tgt : Nat) (hd : decode y.2.1 pc = .ok (.ifCond .gt off, 3)) (ht : (pc : Int) + off = (tgt : Int)) (ha : R32 a) (kt : 0 < a → Wp κ y d kc ks tgt lv st g Q) (kf : a ≤ 0 → Wp κ y d kc ks (pc + 3) lv st g Q) : Wp κ y d kc ks pc lv (.int (iI a) :: st) g Q :=
  r_if_gt tgt hd ht (fun h => kt ((iI_lt (show R32 0 by decide) ha).mp h)) (fun h => kf (Int.not_lt.mp (fun e => h ((iI_lt (show R32 0 by decide) ha).mpr e))))
theorem e_ic_le {a b off : Int} (tgt : Nat) (hd : decode y.2.1 pc = .ok (.if_icmp .le off, 3)) (ht : (pc : Int) + off = (tgt : Int)) (ha : R32 a) (hb : R32 b) (kt : a ≤ b → Wp κ y d kc ks tgt lv st g Q) (kf : b < a → Wp κ y d kc ks (pc + 3) lv st g Q) : Wp κ y d kc ks pc lv (.int (iI b) :: .int (iI a) :: st) g Q :=
  r_ic_le tgt hd ht (fun h => kt ((iI_le ha hb).mp h)) (fun h => kf (Int.not_le.mp (fun e => h ((iI_le ha hb).mpr e))))
theorem e_if_le {a off : Int} (tgt : Nat) (hd : decode y.2.1 pc = .ok (.ifCond .le off, 3)) (ht : (pc : Int) + off = (tgt : Int)) (ha : R32 a) (kt : a ≤ 0 → Wp κ y d kc ks tgt lv st g Q) (kf : 0 < a → Wp κ y d kc ks (pc + 3) lv st g Q) : Wp κ y d kc ks pc lv (.int (iI a) :: st) g Q :=
  r_if_le tgt hd ht (fun h => kt ((iI_le ha (show R32 0 by decide)).mp h)) (fun h => kf (Int.not_le.mp (fun e => h ((iI_le ha (show R32 0 by decide)).mpr e))))
theorem e_ifeq_b {p : Prop} {off : Int} (tgt : Nat) (hd : decode y.2.1 pc = .ok (.ifCond .eq off, 3)) (ht : (pc : Int) + off = (tgt : Int)) (kt : ¬ p → Wp κ y d kc ks tgt lv st g Q) (kf : p → Wp κ y d kc ks (pc + 3) lv st g Q) : Wp κ y d kc ks pc lv (.int (iI (bI p)) :: st) g Q := by
  refine r_if_eq tgt hd ht (fun h => kt fun q => ?_) (fun h => kf ?_)
  · rw [bI_t q] at h
    revert h; decide +kernel
  · by_cases q : p
    · exact q
    · rw [bI_f q] at h
      exact absurd rfl h
theorem e_ifne_b {p : Prop} {off : Int} (tgt : Nat) (hd : decode y.2.1 pc = .ok (.ifCond .ne off, 3)) (ht : (pc : Int) + off = (tgt : Int)) (kt : p → Wp κ y d kc ks tgt lv st g Q) (kf : ¬ p → Wp κ y d kc ks (pc + 3) lv st g Q) : Wp κ y d kc ks pc lv (.int (iI (bI p)) :: st) g Q := by
  refine r_if_ne tgt hd ht (fun h => kt ?_) (fun h => kf fun q => ?_)
  · by_cases q : p
    · exact q
    · rw [bI_f q] at h
      exact absurd rfl h
  · rw [bI_t q] at h
    revert h; decide +kernel
/-- references -/
theorem e_ac_eq {t : Nat} {a b off : Int} (tgt : Nat) (hd : decode y.2.1 pc = .ok (.if_acmp .eq off, 3)) (ht : (pc : Int) + off = (tgt : Int)) (hh : HR κ A g σ) (h26 : t < 27) (ha : -1 ≤ a ∧ a < cnt σ t) (hb : -1 ≤ b ∧ b < cnt σ t) (kt : a = b → Wp κ y d kc ks tgt lv st g Q) (kf : ¬ a = b → Wp κ y d kc ks (pc + 3) lv st g Q) : Wp κ y d kc ks pc lv (vr A t b :: vr A t a :: st) g Q :=
  r_ac_eq tgt hd ht (fun h => kt ((rf_inj hh h26 ha hb).mp h)) (fun h => kf fun e => h ((rf_inj hh h26 ha hb).mpr e))
theorem e_ac_ne {t : Nat} {a b off : Int} (tgt : Nat) (hd : decode y.2.1 pc = .ok (.if_acmp .ne off, 3)) (ht : (pc : Int) + off = (tgt : Int)) (hh : HR κ A g σ) (h26 : t < 27) (ha : -1 ≤ a ∧ a < cnt σ t) (hb : -1 ≤ b ∧ b < cnt σ t) (kt : ¬ a = b → Wp κ y d kc ks tgt lv st g Q) (kf : a = b → Wp κ y d kc ks (pc + 3) lv st g Q) : Wp κ y d kc ks pc lv (vr A t b :: vr A t a :: st) g Q :=
  r_ac_ne tgt hd ht (fun h => kt fun e => h ((rf_inj hh h26 ha hb).mpr e)) (fun h => kf ((rf_inj hh h26 ha hb).mp h))
theorem e_ifnull {t : Nat} {v off : Int} (tgt : Nat) (hd : decode y.2.1 pc = .ok (.ifnull off, 3)) (ht : (pc : Int) + off = (tgt : Int)) (kt : v < 0 → Wp κ y d kc ks tgt lv st g Q) (kf : 0 ≤ v → Wp κ y d kc ks (pc + 3) lv st g Q) : Wp κ y d kc ks pc lv (vr A t v :: st) g Q :=
  r_ifnullO tgt hd ht (fun h => kt (by by_cases q : v < 0; exact q; rw [rf_some (by omega)] at h; cases h)) (fun b h => kf (by by_cases q : v < 0; rw [rf_none q] at h; cases h; omega))
theorem e_ifnonnull {t : Nat} {v off : Int} (tgt : Nat) (hd : decode y.2.1 pc = .ok (.ifnonnull off, 3)) (ht : (pc : Int) + off = (tgt : Int)) (kt : 0 ≤ v → Wp κ y d kc ks tgt lv st g Q) (kf : v < 0 → Wp κ y d kc ks (pc + 3) lv st g Q) : Wp κ y d kc ks pc lv (vr A t v :: st) g Q :=
  r_ifnonnullO tgt hd ht (fun b h => kt (by by_cases q : v < 0; rw [rf_none q] at h; cases h; omega)) (fun h => kf (by by_cases q : v < 0; exact q; rw [rf_some (by omega)] at h; cases h))
/-- fields -/
theorem e_getI {t k idx N : Nat} {C : String} {T : u_T} {ty0 : Nat → FieldType} {r : Int} (ci : Int) (hd : decode y.2.1 pc = .ok (.getfield idx, 3)) (hb : CB t C T N ty0) (hk : k < N) (hm : Cond.fieldLink y.1.cls idx (T k).1 (T k).2.1 (T k).2.2.1 ∈ AL) (hi : isIf t k = true) (hci : ((k : Nat) : Int) = ci) (hh : HR κ A g σ) (hr : Lv σ t r)
    (kk : Wp κ y d kc ks (pc + 3) lv (.int (iI (σ t r ci)) :: st) g Q) : Wp κ y d kc ks pc lv (vr A t r :: st) g Q := by
  have h6 := isIf_I hi
  subst hci
  rw [vr_some hr.1]
  have hl := hr_lab hh (show t < 27 by omega) hr
  rw [kd6 h6.1] at hl
  refine r_get hd hb.1 hb.2.1 hk hm h6.1 hl (Fs_I hi) ?_
  rw [hh.2.2.1 t r k (by omega) hr h6.2]
  exact kk
theorem e_getR {t k idx N t1 : Nat} {C : String} {T : u_T} {ty0 : Nat → FieldType} {r : Int} (ci : Int) (hd : decode y.2.1 pc = .ok (.getfield idx, 3)) (hb : CB t C T N ty0) (hk : k < N) (hm : Cond.fieldLink y.1.cls idx (T k).1 (T k).2.1 (T k).2.2.1 ∈ AL) (hi : isRf t k = true) (ht1 : dt t k = t1) (h1 : t1 < 27) (hci : ((k : Nat) : Int) = ci) (hh : HR κ A g σ) (hr : Lv σ t r)
    (kk : Wp κ y d kc ks (pc + 3) lv (vr A t1 (σ t r ci) :: st) g Q) : Wp κ y d kc ks pc lv (vr A t r :: st) g Q := by
  have h6 := isRf_I hi
  subst hci
  rw [vr_some hr.1]
  have hl := hr_lab hh (show t < 27 by omega) hr
  rw [kd6 h6.1] at hl
  refine r_get hd hb.1 hb.2.1 hk hm h6.1 hl (Fs_R hi) ?_
  rw [hh.2.2.2.1 t r k t1 (by omega) hr ht1 h1]
  exact kk
theorem e_getF {t k idx N t1 : Nat} {C : String} {T : u_T} {ty0 : Nat → FieldType} {r : Int} (hd : decode y.2.1 pc = .ok (.getfield idx, 3)) (hb : CB t C T N ty0) (hk : k < N) (hm : Cond.fieldLink y.1.cls idx (T k).1 (T k).2.1 (T k).2.2.1 ∈ AL) (hi : isRf t k = true) (ht1 : fx t k = t1) (h1 : t1 < 27) (hh : HR κ A g σ) (hr : Lv σ t r)
    (kk : Wp κ y d kc ks (pc + 3) lv (vr A t1 r :: st) g Q) : Wp κ y d kc ks pc lv (vr A t r :: st) g Q := by
  have h6 := isRf_I hi
  rw [vr_some hr.1] at kk ⊢
  have hl := hr_lab hh (show t < 27 by omega) hr
  rw [kd6 h6.1] at hl
  refine r_get hd hb.1 hb.2.1 hk hm h6.1 hl (Fs_R hi) ?_
  rw [hh.2.2.2.2.1 t r k t1 (by omega) hr ht1 h1]
  exact kk
/-- .. of the law's own, from the law -/
theorem e_getIN {t k idx N : Nat} {C host : String} {T : u_T} {ty0 : Nat → FieldType} {r : Int} (ci : Int) (hd : decode y.2.1 pc = .ok (.getfield idx, 3)) (hb : CB t C T N ty0) (hk : k < N) (hq : (y.1.cls, idx, (T k).1, (T k).2.1, (T k).2.2.1, host) ∈ nlF) (hi : isIf t k = true) (hci : ((k : Nat) : Int) = ci) (hh : HR κ A g σ) (hr : Lv σ t r)
    (kk : Wp κ y d kc ks (pc + 3) lv (.int (iI (σ t r ci)) :: st) g Q) : Wp κ y d kc ks pc lv (vr A t r :: st) g Q := by
  have h6 := isIf_I hi
  subst hci
  rw [vr_some hr.1]
  have hl := hr_lab hh (show t < 27 by omega) hr
  rw [kd6 h6.1] at hl
  refine r_getN hd hb.1 hb.2.1 hk hq h6.1 hl (Fs_I hi) ?_
  rw [hh.2.2.1 t r k (by omega) hr h6.2]
  exact kk
theorem e_getFN {t k idx N t1 : Nat} {C host : String} {T : u_T} {ty0 : Nat → FieldType} {r : Int} (hd : decode y.2.1 pc = .ok (.getfield idx, 3)) (hb : CB t C T N ty0) (hk : k < N) (hq : (y.1.cls, idx, (T k).1, (T k).2.1, (T k).2.2.1, host) ∈ nlF) (hi : isRf t k = true) (ht1 : fx t k = t1) (h1 : t1 < 27) (hh : HR κ A g σ) (hr : Lv σ t r)
    (kk : Wp κ y d kc ks (pc + 3) lv (vr A t1 r :: st) g Q) : Wp κ y d kc ks pc lv (vr A t r :: st) g Q := by
  have h6 := isRf_I hi
  rw [vr_some hr.1] at kk ⊢
  have hl := hr_lab hh (show t < 27 by omega) hr
  rw [kd6 h6.1] at hl
  refine r_getN hd hb.1 hb.2.1 hk hq h6.1 hl (Fs_R hi) ?_
  rw [hh.2.2.2.2.1 t r k t1 (by omega) hr ht1 h1]
  exact kk
theorem e_putI {t k idx N : Nat} {C : String} {T : u_T} {ty0 : Nat → FieldType} {ty : FieldType} {r v : Int} (ci : Int) (hd : decode y.2.1 pc = .ok (.putfield idx, 3)) (hb : CB t C T N ty0) (hk : k < N) (hm : Cond.fieldLink y.1.cls idx (T k).1 (T k).2.1 (T k).2.2.1 ∈ AL) (hfin : (T k).2.2.2 = false) (hte : ty0 k = ty) (hn : narrow ty (.int (iI v)) = .int (iI v)) (hfit : fits ty (.int (iI v)) = true) (hi : isIf t k = true) (hci : ((k : Nat) : Int) = ci) (hh : HR κ A g σ) (hr : Lv σ t r)
    (kk : ∀ g', HR κ A g' (up σ t r ci v) → Wp κ y d kc ks (pc + 3) lv st g' Q) : Wp κ y d kc ks pc lv (.int (iI v) :: vr A t r :: st) g Q := by
  have h6 := isIf_I hi
  subst hci
  rw [vr_some hr.1]
  have hl := hr_lab hh (show t < 27 by omega) hr
  rw [kd6 h6.1] at hl
  exact r_putI hd hb.1 hb.2.1 hb.2.2.1 hb.2.2.2 hk hm hfin hte hn hfit hi hl (kk _ (hr_setI hh (by omega) hr h6.2 v))
theorem e_putR {t k idx N t1 : Nat} {C : String} {T : u_T} {ty0 : Nat → FieldType} {ty : FieldType} {r v : Int} (ci : Int) (hd : decode y.2.1 pc = .ok (.putfield idx, 3)) (hb : CB t C T N ty0) (hk : k < N) (hm : Cond.fieldLink y.1.cls idx (T k).1 (T k).2.1 (T k).2.2.1 ∈ AL) (hfin : (T k).2.2.2 = false) (hte : ty0 k = ty) (hn : ∀ z, narrow ty (va_rf z) = va_rf z) (hfit : ∀ z, fits ty (va_rf z) = true) (hi : isRf t k = true) (ht1 : dt t k = t1) (h1 : t1 < 27) (hx : fx t k = 99) (hci : ((k : Nat) : Int) = ci) (hh : HR κ A g σ) (hr : Lv σ t r) (hv : -1 ≤ v ∧ v < cnt σ t1)
    (kk : ∀ g', HR κ A g' (up σ t r ci v) → Wp κ y d kc ks (pc + 3) lv st g' Q) : Wp κ y d kc ks pc lv (vr A t1 v :: vr A t r :: st) g Q := by
  have h6 := isRf_I hi
  subst hci
  rw [vr_some (v := r) hr.1]
  have hl := hr_lab hh (show t < 27 by omega) hr
  rw [kd6 h6.1] at hl
  exact r_putRO hd hb.1 hb.2.1 hb.2.2.1 hb.2.2.2 hk hm hfin hte (hn _) (hfit _) hi hl (kk _ (hr_setR hh (by omega) hr ht1 h1 h6.2 hx (by omega) (by omega) v hv))
/-- arrays -/
theorem ln_small (t : Nat) : ln t < 2 ^ 31 := by
  unfold ln
  split <;> decide
theorem e_iald {t : Nat} {r j : Int} (hd : decode y.2.1 pc = .ok (.iaload, 1)) (h26 : t < 27) (h6 : 6 ≤ t) (hkd : kd t = 6) (hi : ∀ c, isI t c = true) (hh : HR κ A g σ) (hr : Lv σ t r) (hj : 0 ≤ j ∧ j < (ln t : Nat))
    (kk : Wp κ y d kc ks (pc + 1) lv (.int (iI (σ t r j)) :: st) g Q) : Wp κ y d kc ks pc lv (.int (iI j) :: vr A t r :: st) g Q := by
  rw [vr_some hr.1]
  have hl := hr_lab hh h26 hr
  have hn := hr_len hh h26 hr h6
  rw [hkd] at hl
  refine r_iald hd hl (iI_nI hj.1) (by rw [hn]; omega) (by rw [hn]; exact ln_small t) ?_
  rw [hh.2.2.1 t r j.toNat h26 hr (hi _), Int.toNat_of_nonneg hj.1]
  exact kk
/-- .. a scratch row's: what lies there is told apart -/
theorem e_ialdX {t : Nat} {r j : Int} {x : Int32} (hd : decode y.2.1 pc = .ok (.iaload, 1)) (h26 : t < 27) (h6 : 6 ≤ t) (hkd : kd t = 6) (hh : HR κ A g σ) (hr : Lv σ t r) (hj : 0 ≤ j ∧ j < (ln t : Nat)) (hx : gi g (A t r) j.toNat = x)
    (kk : Wp κ y d kc ks (pc + 1) lv (.int x :: st) g Q) : Wp κ y d kc ks pc lv (.int (iI j) :: vr A t r :: st) g Q := by
  rw [vr_some hr.1]
  have hl := hr_lab hh h26 hr
  have hn := hr_len hh h26 hr h6
  rw [hkd] at hl
  refine r_iald hd hl (iI_nI hj.1) (by rw [hn]; omega) (by rw [hn]; exact ln_small t) ?_
  rw [hx]
  exact kk
theorem e_bald {t : Nat} {r j : Int} (hd : decode y.2.1 pc = .ok (.baload, 1)) (h26 : t < 27) (h6 : 6 ≤ t) (hkd : kd t = 7) (hi : ∀ c, isI t c = true) (hh : HR κ A g σ) (hr : Lv σ t r) (hj : 0 ≤ j ∧ j < (ln t : Nat))
    (kk : Wp κ y d kc ks (pc + 1) lv (.int (iI (σ t r j)) :: st) g Q) : Wp κ y d kc ks pc lv (.int (iI j) :: vr A t r :: st) g Q := by
  rw [vr_some hr.1]
  have hl := hr_lab hh h26 hr
  have hn := hr_len hh h26 hr h6
  rw [hkd] at hl
  refine r_bald hd hl (iI_nI hj.1) (by rw [hn]; omega) (by rw [hn]; exact ln_small t) ?_
  rw [hh.2.2.1 t r j.toNat h26 hr (hi _), Int.toNat_of_nonneg hj.1]
  exact kk
theorem e_aald {t t1 : Nat} {r j : Int} (hd : decode y.2.1 pc = .ok (.aaload, 1)) (h26 : t < 27) (h6 : 6 ≤ t) (hkd : 8 ≤ kd t ∧ kd t ≤ 12) (hi : ∀ c, dt t c = t1) (h1 : t1 < 27) (hh : HR κ A g σ) (hr : Lv σ t r) (hj : 0 ≤ j ∧ j < (ln t : Nat))
    (kk : Wp κ y d kc ks (pc + 1) lv (vr A t1 (σ t r j) :: st) g Q) : Wp κ y d kc ks pc lv (.int (iI j) :: vr A t r :: st) g Q := by
  rw [vr_some hr.1]
  have hl := hr_lab hh h26 hr
  have hn := hr_len hh h26 hr h6
  refine r_aald hd hkd hl (iI_nI hj.1) (by rw [hn]; omega) (by rw [hn]; exact ln_small t) ?_
  rw [hh.2.2.2.1 t r j.toNat t1 h26 hr (hi _) h1, Int.toNat_of_nonneg hj.1]
  exact kk
/-- the Places, and the law's inner rows: the column is the row -/
theorem e_aald7 {j : Int} (hd : decode y.2.1 pc = .ok (.aaload, 1)) (hh : HR κ A g σ) (hj : 0 ≤ j ∧ j < 6)
    (kk : Wp κ y d kc ks (pc + 1) lv (vr A 0 j :: st) g Q) : Wp κ y d kc ks pc lv (.int (iI j) :: vr A 7 0 :: st) g Q := by
  have hr : Lv σ 7 0 := lv1 σ 7 fun _ => rfl
  rw [vr_some (v := 0) (by decide)]
  have hl := hr_lab hh (by decide) hr
  have hn := hr_len hh (by decide) hr (by decide)
  refine r_aald hd ⟨by decide, by decide⟩ hl (iI_nI hj.1) (by rw [hn]; show j.toNat < 6; omega) (by rw [hn]; exact ln_small 7) ?_
  rw [hh.2.2.2.2.2.1 j.toNat (by omega), Int.toNat_of_nonneg hj.1, ← rf_some (A := A) (t := 0) hj.1]
  exact kk
theorem e_aald21 {j : Int} (hd : decode y.2.1 pc = .ok (.aaload, 1)) (hh : HR κ A g σ) (hj : 0 ≤ j ∧ j < 24)
    (kk : Wp κ y d kc ks (pc + 1) lv (vr A 22 j :: st) g Q) : Wp κ y d kc ks pc lv (.int (iI j) :: vr A 21 0 :: st) g Q := by
  have hr : Lv σ 21 0 := lv1 σ 21 fun _ => rfl
  rw [vr_some (v := 0) (by decide)]
  have hl := hr_lab hh (by decide) hr
  have hn := hr_len hh (by decide) hr (by decide)
  refine r_aald hd ⟨by decide, by decide⟩ hl (iI_nI hj.1) (by rw [hn]; show j.toNat < 24; omega) (by rw [hn]; exact ln_small 21) ?_
  rw [hh.2.2.2.2.2.2.1 j.toNat (by omega), Int.toNat_of_nonneg hj.1, ← rf_some (A := A) (t := 22) hj.1]
  exact kk
theorem e_iast {t : Nat} {r j v : Int} (hd : decode y.2.1 pc = .ok (.iastore, 1)) (h26 : t < 27) (h6 : 6 ≤ t) (hkd : kd t = 6) (hi : ∀ c, isI t c = true) (hh : HR κ A g σ) (hr : Lv σ t r) (hj : 0 ≤ j ∧ j < (ln t : Nat))
    (kk : ∀ g', HR κ A g' (up σ t r j v) → Wp κ y d kc ks (pc + 1) lv st g' Q) : Wp κ y d kc ks pc lv (.int (iI v) :: .int (iI j) :: vr A t r :: st) g Q := by
  rw [vr_some hr.1]
  have hl := hr_lab hh h26 hr
  have hn := hr_len hh h26 hr h6
  rw [hkd] at hl
  refine r_iast hd hl (iI_nI hj.1) (by rw [hn]; omega) (by rw [hn]; exact ln_small t) ?_
  have h2 := hr_setI hh (c := j.toNat) h26 hr (hi _) v
  rw [Int.toNat_of_nonneg hj.1] at h2
  exact kk _ h2
theorem e_iastX {t : Nat} {r j : Int} {x : Int32} (hd : decode y.2.1 pc = .ok (.iastore, 1)) (h26 : t < 27) (h6 : 6 ≤ t) (hkd : kd t = 6) (hi : ∀ c, isI t c = false) (hh : HR κ A g σ) (hr : Lv σ t r) (hj : 0 ≤ j ∧ j < (ln t : Nat))
    (kk : HR κ A (setI g (A t r) j.toNat x) σ → Wp κ y d kc ks (pc + 1) lv st (setI g (A t r) j.toNat x) Q) : Wp κ y d kc ks pc lv (.int x :: .int (iI j) :: vr A t r :: st) g Q := by
  rw [vr_some hr.1]
  have hl := hr_lab hh h26 hr
  have hn := hr_len hh h26 hr h6
  rw [hkd] at hl
  exact r_iast hd hl (iI_nI hj.1) (by rw [hn]; omega) (by rw [hn]; exact ln_small t) (kk (hr_scr hh h26 hr hi x))
theorem e_bast {t : Nat} {r j v : Int} (hd : decode y.2.1 pc = .ok (.bastore, 1)) (h26 : t < 27) (h6 : 6 ≤ t) (hkd : kd t = 7) (hi : ∀ c, isI t c = true) (hv : v = 0 ∨ v = 1) (hh : HR κ A g σ) (hr : Lv σ t r) (hj : 0 ≤ j ∧ j < (ln t : Nat))
    (kk : ∀ g', HR κ A g' (up σ t r j v) → Wp κ y d kc ks (pc + 1) lv st g' Q) : Wp κ y d kc ks pc lv (.int (iI v) :: .int (iI j) :: vr A t r :: st) g Q := by
  rw [vr_some hr.1]
  have hl := hr_lab hh h26 hr
  have hn := hr_len hh h26 hr h6
  rw [hkd] at hl
  refine r_bast hd hl (iI_nI hj.1) (by rw [hn]; omega) (by rw [hn]; exact ln_small t) (narrow_01 hv) ?_
  have h2 := hr_setI hh (c := j.toNat) h26 hr (hi _) v
  rw [Int.toNat_of_nonneg hj.1] at h2
  exact kk _ h2
theorem e_aast {t t1 : Nat} {r j v : Int} (hd : decode y.2.1 pc = .ok (.aastore, 1)) (h26 : t < 27) (h6 : 6 ≤ t) (hkd : 8 ≤ kd t ∧ kd t ≤ 12) (hi : ∀ c, dt t c = t1) (h1 : t1 < 27) (hn2 : ∀ c, isI t c = false) (hx : ∀ c, fx t c = 99) (h7 : t ≠ 7) (h21 : t ≠ 21) (hel : elk (kd t) = kd t1) (hh : HR κ A g σ) (hr : Lv σ t r) (hj : 0 ≤ j ∧ j < (ln t : Nat)) (hv : Lv σ t1 v)
    (kk : ∀ g', HR κ A g' (up σ t r j v) → Wp κ y d kc ks (pc + 1) lv st g' Q) : Wp κ y d kc ks pc lv (vr A t1 v :: .int (iI j) :: vr A t r :: st) g Q := by
  rw [vr_some hr.1, vr_some hv.1]
  have hl := hr_lab hh h26 hr
  have hl1 := hr_lab hh h1 hv
  have hn := hr_len hh h26 hr h6
  refine r_aast hd hkd hl (by rw [hel]; exact hl1) (iI_nI hj.1) (by rw [hn]; omega) (by rw [hn]; exact ln_small t) ?_
  have h2 := hr_setR hh (c := j.toNat) h26 hr (hi _) h1 (hn2 _) (hx _) h7 h21 v ⟨by have := hv.1; omega, hv.2⟩
  rw [Int.toNat_of_nonneg hj.1, rf_some hv.1] at h2
  exact kk _ h2
/-- calls -/
theorem e_callV {z : MY} {n idx d' mc' ms' kc' ks' t N : Nat} {T : u_T} {ty0 : Nat → FieldType} {r : Int} {As rest : List Value} {P : Option Value → GG → Prop} (hd : decode y.2.1 pc = .ok (.invokevirtual idx, 3)) (hl : Cond.methodLink y.1.cls idx z.1 ∈ AL) (hz : CZ z n) (hi : Cond.instanceMethod z.1 ∈ AL) (hs : Cond.selects z.1.cls z.1 z.1 ∈ AL)
    (hb : CB t z.1.cls T N ty0) (h6 : t < 6) (hn : As.length = n) (hst : st = As.reverse ++ vr A t r :: rest) (hrs : (rest.map fun v => v.category).sum ≤ 8) (hdd : d' + 1 ≤ d) (hh : HR κ A g σ) (hr : Lv σ t r) (hS : Spec κ z d' mc' ms' (vr A t r :: As) g P) (hmc : mc' + kc' ≤ kc) (hms : ms' + ks' ≤ ks)
    (kk : ∀ (v : Option Value) (g' : GG), P v g' → Wp κ y d kc' ks' (pc + 3) lv (v.toList ++ rest) g' Q) : Wp κ y d kc ks pc lv st g Q := by
  have hla := hr_lab hh (show t < 27 by omega) hr
  rw [kd6 h6] at hla
  rw [vr_some hr.1] at hS hst
  exact r_callV hd hl hz hi hs hb.1 h6 hla hS hn hst hrs hdd hmc hms kk
/-- nothing but an answer -/
def PQ (κ : KK) (A : Nat → Int → Nat) (σ : ST) (v : Option Value) : Option Value → GG → Prop := fun r h => r = v ∧ HR κ A h σ
def PU (κ : KK) (A : Nat → Int → Nat) (z : MY) (d : Nat) (σ : ST) (As : List Value) (v : Value) : Prop := ∀ g, HR κ A g σ → Spec κ z d 0 0 As g (PQ κ A σ (some v))
/-- another state, no cells -/
def PV (κ : KK) (A : Nat → Int → Nat) (z : MY) (d : Nat) (σ : ST) (As : List Value) (v : Option Value) (σ' : ST) : Prop := ∀ g, HR κ A g σ → Spec κ z d 0 0 As g (PQ κ A σ' v)
theorem e_callVP {z : MY} {n idx d' t N : Nat} {T : u_T} {ty0 : Nat → FieldType} {r : Int} {As rest : List Value} {v : Value} (hd : decode y.2.1 pc = .ok (.invokevirtual idx, 3)) (hl : Cond.methodLink y.1.cls idx z.1 ∈ AL) (hz : CZ z n) (hi : Cond.instanceMethod z.1 ∈ AL) (hs : Cond.selects z.1.cls z.1 z.1 ∈ AL)
    (hb : CB t z.1.cls T N ty0) (h6 : t < 6) (hS : PU κ A z d' σ (vr A t r :: As) v) (hn : As.length = n) (hst : st = As.reverse ++ vr A t r :: rest) (hrs : (rest.map fun v => v.category).sum ≤ 8) (hdd : d' + 1 ≤ d) (hh : HR κ A g σ) (hr : Lv σ t r)
    (kk : ∀ g', HR κ A g' σ → Wp κ y d kc ks (pc + 3) lv (v :: rest) g' Q) : Wp κ y d kc ks pc lv st g Q :=
  e_callV hd hl hz hi hs hb h6 hn hst hrs hdd hh hr (hS g hh) (Nat.le_of_eq (Nat.zero_add kc)) (Nat.le_of_eq (Nat.zero_add ks)) (fun w g' h => by obtain ⟨rfl, h2⟩ := h; exact kk g' h2)
theorem e_callVV {z : MY} {n idx d' t N : Nat} {T : u_T} {ty0 : Nat → FieldType} {r : Int} {As rest : List Value} {v : Option Value} {σ' : ST} (hd : decode y.2.1 pc = .ok (.invokevirtual idx, 3)) (hl : Cond.methodLink y.1.cls idx z.1 ∈ AL) (hz : CZ z n) (hi : Cond.instanceMethod z.1 ∈ AL) (hs : Cond.selects z.1.cls z.1 z.1 ∈ AL)
    (hb : CB t z.1.cls T N ty0) (h6 : t < 6) (hS : PV κ A z d' σ (vr A t r :: As) v σ') (hn : As.length = n) (hst : st = As.reverse ++ vr A t r :: rest) (hrs : (rest.map fun v => v.category).sum ≤ 8) (hdd : d' + 1 ≤ d) (hh : HR κ A g σ) (hr : Lv σ t r)
    (kk : ∀ g', HR κ A g' σ' → Wp κ y d kc ks (pc + 3) lv (v.toList ++ rest) g' Q) : Wp κ y d kc ks pc lv st g Q :=
  e_callV hd hl hz hi hs hb h6 hn hst hrs hdd hh hr (hS g hh) (Nat.le_of_eq (Nat.zero_add kc)) (Nat.le_of_eq (Nat.zero_add ks)) (fun w g' h => by obtain ⟨rfl, h2⟩ := h; exact kk g' h2)
theorem e_callSP {z : MY} {n idx d' : Nat} {As rest : List Value} {v : Value} (hd : decode y.2.1 pc = .ok (.invokestatic idx, 3)) (hl : Cond.methodLink y.1.cls idx z.1 ∈ AL) (hz : CZ z n) (hi : Cond.static z.1 ∈ AL)
    (hS : PU κ A z d' σ As v) (hn : As.length = n) (hst : st = As.reverse ++ rest) (hrs : (rest.map fun v => v.category).sum ≤ 8) (hdd : d' + 1 ≤ d) (hh : HR κ A g σ)
    (kk : ∀ g', HR κ A g' σ → Wp κ y d kc ks (pc + 3) lv (v :: rest) g' Q) : Wp κ y d kc ks pc lv st g Q :=
  r_callS hd hl hz hi (hS g hh) hn hst hrs hdd (Nat.le_of_eq (Nat.zero_add kc)) (Nat.le_of_eq (Nat.zero_add ks)) (fun w g' h => by obtain ⟨rfl, h2⟩ := h; exact kk g' h2)
theorem e_callSV {z : MY} {n idx d' : Nat} {As rest : List Value} {v : Option Value} {σ' : ST} (hd : decode y.2.1 pc = .ok (.invokestatic idx, 3)) (hl : Cond.methodLink y.1.cls idx z.1 ∈ AL) (hz : CZ z n) (hi : Cond.static z.1 ∈ AL)
    (hS : PV κ A z d' σ As v σ') (hn : As.length = n) (hst : st = As.reverse ++ rest) (hrs : (rest.map fun v => v.category).sum ≤ 8) (hdd : d' + 1 ≤ d) (hh : HR κ A g σ)
    (kk : ∀ g', HR κ A g' σ' → Wp κ y d kc ks (pc + 3) lv (v.toList ++ rest) g' Q) : Wp κ y d kc ks pc lv st g Q :=
  r_callS hd hl hz hi (hS g hh) hn hst hrs hdd (Nat.le_of_eq (Nat.zero_add kc)) (Nat.le_of_eq (Nat.zero_add ks)) (fun w g' h => by obtain ⟨rfl, h2⟩ := h; exact kk g' h2)
theorem e_callSNP {z : MY} {host : String} {n idx d' : Nat} {As rest : List Value} {v : Value} (hd : decode y.2.1 pc = .ok (.invokestatic idx, 3)) (hl : (y.1.cls, idx, z.1, host) ∈ nlM) (hz : CZ z n) (hi : Cond.static z.1 ∈ AL)
    (hS : PU κ A z d' σ As v) (hn : As.length = n) (hst : st = As.reverse ++ rest) (hrs : (rest.map fun v => v.category).sum ≤ 8) (hdd : d' + 1 ≤ d) (hh : HR κ A g σ)
    (kk : ∀ g', HR κ A g' σ → Wp κ y d kc ks (pc + 3) lv (v :: rest) g' Q) : Wp κ y d kc ks pc lv st g Q :=
  r_callSN hd hl hz hi (hS g hh) hn hst hrs hdd (Nat.le_of_eq (Nat.zero_add kc)) (Nat.le_of_eq (Nat.zero_add ks)) (fun w g' h => by obtain ⟨rfl, h2⟩ := h; exact kk g' h2)
/-- ends -/
theorem q_iret {v w : Int} (hd : decode y.2.1 pc = .ok (.ireturn, 1)) (hr : y.2.2.2 = some .int) (hq : v = w) (hh : HR κ A g σ) : Wp κ y d kc ks pc lv [.int (iI v)] g (PQ κ A σ (some (.int (iI w)))) := by
  subst hq
  exact r_iret hd hr ⟨rfl, hh⟩
theorem q_zret {v w : Int} (hd : decode y.2.1 pc = .ok (.ireturn, 1)) (hr : y.2.2.2 = some .boolean) (h01 : v = 0 ∨ v = 1) (hq : v = w) (hh : HR κ A g σ) : Wp κ y d kc ks pc lv [.int (iI v)] g (PQ κ A σ (some (.int (iI w)))) := by
  subst hq
  exact r_zret hd hr (narrow_01 h01) ⟨rfl, hh⟩
theorem q_aret {t : Nat} {v w : Int} {rt : FieldType} (hd : decode y.2.1 pc = .ok (.areturn, 1)) (hr : y.2.2.2 = some rt) (hrt : (∃ n, rt = .object n) ∨ ∃ t, rt = .array t) (hq : v = w) (hh : HR κ A g σ) : Wp κ y d kc ks pc lv [vr A t v] g (PQ κ A σ (some (vr A t w))) := by
  subst hq
  exact r_aret hd hr hrt ⟨rfl, hh⟩
theorem q_vret (hd : decode y.2.1 pc = .ok (.return_, 1)) (hr : y.2.2.2 = none) (hh : HR κ A g σ) : Wp κ y d kc ks pc lv [] g (PQ κ A σ none) := r_vret hd hr ⟨rfl, hh⟩
theorem e_start {mc ms : Nat} {As : List Value} {lv : List (Nat × Value)} (hy : plainName y.1.cls = true) (hlen : (lg_sl As).length ≤ y.2.2.1) (hlv : lv_args 0 As = lv) (h : Wp κ y d mc ms 0 lv [] g Q) : Spec κ y d mc ms As g Q := spec_of hy hlen (by rw [hlv]; exact h)
end ER
theorem cz_X0_init : CZ MX0_init 0 := ⟨mi_X0, mo_X0_init, ⟨by decide, by decide, by decide +kernel⟩, by decide⟩
theorem cz_X0_knows : CZ MX0_knows 2 := ⟨mi_X0, mo_X0_knows, ⟨by decide, by decide, by decide +kernel⟩, by decide⟩
theorem cz_X0_count : CZ MX0_count 2 := ⟨mi_X0, mo_X0_count, ⟨by decide, by decide, by decide +kernel⟩, by decide⟩
theorem cz_X0_addEntry : CZ MX0_addEntry 3 := ⟨mi_X0, mo_X0_addEntry, ⟨by decide, by decide, by decide +kernel⟩, by decide⟩
theorem cz_X0_takeAway : CZ MX0_takeAway 1 := ⟨mi_X0, mo_X0_takeAway, ⟨by decide, by decide, by decide +kernel⟩, by decide⟩
theorem cz_X0_countOf : CZ MX0_countOf 1 := ⟨mi_X0, mo_X0_countOf, ⟨by decide, by decide, by decide +kernel⟩, by decide⟩
theorem cz_X0_fact : CZ MX0_fact 1 := ⟨mi_X0, mo_X0_fact, ⟨by decide, by decide, by decide +kernel⟩, by decide⟩
theorem cz_X0_entryFact : CZ MX0_entryFact 2 := ⟨mi_X0, mo_X0_entryFact, ⟨by decide, by decide, by decide +kernel⟩, by decide⟩
theorem cz_X1_init : CZ MX1_init 5 := ⟨mi_X1, mo_X1_init, ⟨by decide, by decide, by decide +kernel⟩, by decide⟩
theorem cz_X2_init : CZ MX2_init 0 := ⟨mi_X2, mo_X2_init, ⟨by decide, by decide, by decide +kernel⟩, by decide⟩
theorem cz_X2_findRoot : CZ MX2_findRoot 1 := ⟨mi_X2, mo_X2_findRoot, ⟨by decide, by decide, by decide +kernel⟩, by decide⟩
theorem cz_X2_findBeneath : CZ MX2_findBeneath 3 := ⟨mi_X2, mo_X2_findBeneath, ⟨by decide, by decide, by decide +kernel⟩, by decide⟩
theorem cz_X2_rootOf : CZ MX2_rootOf 1 := ⟨mi_X2, mo_X2_rootOf, ⟨by decide, by decide, by decide +kernel⟩, by decide⟩
theorem cz_X2_beneath : CZ MX2_beneath 3 := ⟨mi_X2, mo_X2_beneath, ⟨by decide, by decide, by decide +kernel⟩, by decide⟩
theorem cz_X2_countBeneath : CZ MX2_countBeneath 1 := ⟨mi_X2, mo_X2_countBeneath, ⟨by decide, by decide, by decide +kernel⟩, by decide⟩
theorem cz_X2_newShape : CZ MX2_newShape 4 := ⟨mi_X2, mo_X2_newShape, ⟨by decide, by decide, by decide +kernel⟩, by decide⟩
theorem cz_X3_init : CZ MX3_init 1 := ⟨mi_X3, mo_X3_init, ⟨by decide, by decide, by decide +kernel⟩, by decide⟩
theorem cz_X3_has : CZ MX3_has 1 := ⟨mi_X3, mo_X3_has, ⟨by decide, by decide, by decide +kernel⟩, by decide⟩
theorem cz_X3_is : CZ MX3_is 2 := ⟨mi_X3, mo_X3_is, ⟨by decide, by decide, by decide +kernel⟩, by decide⟩
theorem cz_X3_fill : CZ MX3_fill 5 := ⟨mi_X3, mo_X3_fill, ⟨by decide, by decide, by decide +kernel⟩, by decide⟩
theorem cz_X3_append : CZ MX3_append 1 := ⟨mi_X3, mo_X3_append, ⟨by decide, by decide, by decide +kernel⟩, by decide⟩
theorem cz_X3_takeAway : CZ MX3_takeAway 1 := ⟨mi_X3, mo_X3_takeAway, ⟨by decide, by decide, by decide +kernel⟩, by decide⟩
theorem cz_X3_pairs : CZ MX3_pairs 0 := ⟨mi_X3, mo_X3_pairs, ⟨by decide, by decide, by decide +kernel⟩, by decide⟩
theorem cz_X3_nameBits : CZ MX3_nameBits 0 := ⟨mi_X3, mo_X3_nameBits, ⟨by decide, by decide, by decide +kernel⟩, by decide⟩
theorem cz_X3_fieldFact : CZ MX3_fieldFact 2 := ⟨mi_X3, mo_X3_fieldFact, ⟨by decide, by decide, by decide +kernel⟩, by decide⟩
theorem cz_X3_kind : CZ MX3_kind 1 := ⟨mi_X3, mo_X3_kind, ⟨by decide, by decide, by decide +kernel⟩, by decide⟩
theorem cz_X3_placeInOrder : CZ MX3_placeInOrder 1 := ⟨mi_X3, mo_X3_placeInOrder, ⟨by decide, by decide, by decide +kernel⟩, by decide⟩
theorem cz_X4_init : CZ MX4_init 0 := ⟨mi_X4, mo_X4_init, ⟨by decide, by decide, by decide +kernel⟩, by decide⟩
theorem cz_X4_make : CZ MX4_make 1 := ⟨mi_X4, mo_X4_make, ⟨by decide, by decide, by decide +kernel⟩, by decide⟩
theorem cz_X4_read : CZ MX4_read 2 := ⟨mi_X4, mo_X4_read, ⟨by decide, by decide, by decide +kernel⟩, by decide⟩
theorem cz_X4_write : CZ MX4_write 3 := ⟨mi_X4, mo_X4_write, ⟨by decide, by decide, by decide +kernel⟩, by decide⟩
theorem cz_X4_define : CZ MX4_define 5 := ⟨mi_X4, mo_X4_define, ⟨by decide, by decide, by decide +kernel⟩, by decide⟩
theorem cz_X4_pair : CZ MX4_pair 6 := ⟨mi_X4, mo_X4_pair, ⟨by decide, by decide, by decide +kernel⟩, by decide⟩
theorem cz_X4_remove : CZ MX4_remove 2 := ⟨mi_X4, mo_X4_remove, ⟨by decide, by decide, by decide +kernel⟩, by decide⟩
theorem cz_X4_adopt : CZ MX4_adopt 2 := ⟨mi_X4, mo_X4_adopt, ⟨by decide, by decide, by decide +kernel⟩, by decide⟩
theorem cz_X4_shut : CZ MX4_shut 2 := ⟨mi_X4, mo_X4_shut, ⟨by decide, by decide, by decide +kernel⟩, by decide⟩
theorem cz_X4_settle : CZ MX4_settle 1 := ⟨mi_X4, mo_X4_settle, ⟨by decide, by decide, by decide +kernel⟩, by decide⟩
theorem cz_X4_readAt : CZ MX4_readAt 3 := ⟨mi_X4, mo_X4_readAt, ⟨by decide, by decide, by decide +kernel⟩, by decide⟩
theorem cz_X4_ofPlace : CZ MX4_ofPlace 2 := ⟨mi_X4, mo_X4_ofPlace, ⟨by decide, by decide, by decide +kernel⟩, by decide⟩
theorem cz_X4_entry : CZ MX4_entry 3 := ⟨mi_X4, mo_X4_entry, ⟨by decide, by decide, by decide +kernel⟩, by decide⟩
theorem cz_X4_ofObject : CZ MX4_ofObject 2 := ⟨mi_X4, mo_X4_ofObject, ⟨by decide, by decide, by decide +kernel⟩, by decide⟩
theorem cz_X4_ofField : CZ MX4_ofField 3 := ⟨mi_X4, mo_X4_ofField, ⟨by decide, by decide, by decide +kernel⟩, by decide⟩
theorem cz_X4_ofShape : CZ MX4_ofShape 2 := ⟨mi_X4, mo_X4_ofShape, ⟨by decide, by decide, by decide +kernel⟩, by decide⟩
theorem cz_X4_many : CZ MX4_many 1 := ⟨mi_X4, mo_X4_many, ⟨by decide, by decide, by decide +kernel⟩, by decide⟩
theorem cz_X4_wouldCost : CZ MX4_wouldCost 3 := ⟨mi_X4, mo_X4_wouldCost, ⟨by decide, by decide, by decide +kernel⟩, by decide⟩
theorem cz_X4_differs : CZ MX4_differs 2 := ⟨mi_X4, mo_X4_differs, ⟨by decide, by decide, by decide +kernel⟩, by decide⟩
theorem cz_X4_digest : CZ MX4_digest 0 := ⟨mi_X4, mo_X4_digest, ⟨by decide, by decide, by decide +kernel⟩, by decide⟩
theorem cz_X4_thingAt : CZ MX4_thingAt 1 := ⟨mi_X4, mo_X4_thingAt, ⟨by decide, by decide, by decide +kernel⟩, by decide⟩
theorem cz_X4_parentAt : CZ MX4_parentAt 1 := ⟨mi_X4, mo_X4_parentAt, ⟨by decide, by decide, by decide +kernel⟩, by decide⟩
theorem cz_X4_placeAt : CZ MX4_placeAt 1 := ⟨mi_X4, mo_X4_placeAt, ⟨by decide, by decide, by decide +kernel⟩, by decide⟩
theorem cz_X4_isName : CZ MX4_isName 1 := ⟨mi_X4, mo_X4_isName, ⟨by decide, by decide, by decide +kernel⟩, by decide⟩
theorem cz_X4_needName : CZ MX4_needName 1 := ⟨mi_X4, mo_X4_needName, ⟨by decide, by decide, by decide +kernel⟩, by decide⟩
theorem cz_X4_needWhat : CZ MX4_needWhat 2 := ⟨mi_X4, mo_X4_needWhat, ⟨by decide, by decide, by decide +kernel⟩, by decide⟩
theorem cz_X4_needValue : CZ MX4_needValue 1 := ⟨mi_X4, mo_X4_needValue, ⟨by decide, by decide, by decide +kernel⟩, by decide⟩
theorem cz_X4_needPair : CZ MX4_needPair 3 := ⟨mi_X4, mo_X4_needPair, ⟨by decide, by decide, by decide +kernel⟩, by decide⟩
theorem cz_X4_isNumber : CZ MX4_isNumber 1 := ⟨mi_X4, mo_X4_isNumber, ⟨by decide, by decide, by decide +kernel⟩, by decide⟩
theorem cz_X4_raised : CZ MX4_raised 2 := ⟨mi_X4, mo_X4_raised, ⟨by decide, by decide, by decide +kernel⟩, by decide⟩
theorem cz_X4_isInLine : CZ MX4_isInLine 2 := ⟨mi_X4, mo_X4_isInLine, ⟨by decide, by decide, by decide +kernel⟩, by decide⟩
theorem cz_X4_lineLength : CZ MX4_lineLength 1 := ⟨mi_X4, mo_X4_lineLength, ⟨by decide, by decide, by decide +kernel⟩, by decide⟩
theorem cz_X4_holderOf : CZ MX4_holderOf 2 := ⟨mi_X4, mo_X4_holderOf, ⟨by decide, by decide, by decide +kernel⟩, by decide⟩
theorem cz_X4_wayUp : CZ MX4_wayUp 2 := ⟨mi_X4, mo_X4_wayUp, ⟨by decide, by decide, by decide +kernel⟩, by decide⟩
theorem cz_X4_lookedAt : CZ MX4_lookedAt 2 := ⟨mi_X4, mo_X4_lookedAt, ⟨by decide, by decide, by decide +kernel⟩, by decide⟩
theorem cz_X4_getterOf : CZ MX4_getterOf 2 := ⟨mi_X4, mo_X4_getterOf, ⟨by decide, by decide, by decide +kernel⟩, by decide⟩
theorem cz_X4_valueOf : CZ MX4_valueOf 2 := ⟨mi_X4, mo_X4_valueOf, ⟨by decide, by decide, by decide +kernel⟩, by decide⟩
theorem cz_X4_writePlain : CZ MX4_writePlain 4 := ⟨mi_X4, mo_X4_writePlain, ⟨by decide, by decide, by decide +kernel⟩, by decide⟩
theorem cz_X4_hangBeneath : CZ MX4_hangBeneath 2 := ⟨mi_X4, mo_X4_hangBeneath, ⟨by decide, by decide, by decide +kernel⟩, by decide⟩
theorem cz_X4_mayDefine : CZ MX4_mayDefine 2 := ⟨mi_X4, mo_X4_mayDefine, ⟨by decide, by decide, by decide +kernel⟩, by decide⟩
theorem cz_X4_putTraits : CZ MX4_putTraits 3 := ⟨mi_X4, mo_X4_putTraits, ⟨by decide, by decide, by decide +kernel⟩, by decide⟩
theorem cz_X4_freeze : CZ MX4_freeze 1 := ⟨mi_X4, mo_X4_freeze, ⟨by decide, by decide, by decide +kernel⟩, by decide⟩
theorem cz_X4_canSettle : CZ MX4_canSettle 1 := ⟨mi_X4, mo_X4_canSettle, ⟨by decide, by decide, by decide +kernel⟩, by decide⟩
theorem cz_X4_settledShape : CZ MX4_settledShape 1 := ⟨mi_X4, mo_X4_settledShape, ⟨by decide, by decide, by decide +kernel⟩, by decide⟩
theorem cz_X4_dropEntries : CZ MX4_dropEntries 1 := ⟨mi_X4, mo_X4_dropEntries, ⟨by decide, by decide, by decide +kernel⟩, by decide⟩
theorem cz_X4_droppable : CZ MX4_droppable 1 := ⟨mi_X4, mo_X4_droppable, ⟨by decide, by decide, by decide +kernel⟩, by decide⟩
theorem cz_X4_costAt : CZ MX4_costAt 3 := ⟨mi_X4, mo_X4_costAt, ⟨by decide, by decide, by decide +kernel⟩, by decide⟩
theorem cz_X4_looseWords : CZ MX4_looseWords 1 := ⟨mi_X4, mo_X4_looseWords, ⟨by decide, by decide, by decide +kernel⟩, by decide⟩
theorem cz_X4_shapedWords : CZ MX4_shapedWords 1 := ⟨mi_X4, mo_X4_shapedWords, ⟨by decide, by decide, by decide +kernel⟩, by decide⟩
theorem cz_X4_wordsOf : CZ MX4_wordsOf 1 := ⟨mi_X4, mo_X4_wordsOf, ⟨by decide, by decide, by decide +kernel⟩, by decide⟩
theorem cz_X4_missingShapes : CZ MX4_missingShapes 1 := ⟨mi_X4, mo_X4_missingShapes, ⟨by decide, by decide, by decide +kernel⟩, by decide⟩
theorem cz_X4_saving : CZ MX4_saving 1 := ⟨mi_X4, mo_X4_saving, ⟨by decide, by decide, by decide +kernel⟩, by decide⟩
theorem cz_X4_objectFact : CZ MX4_objectFact 2 := ⟨mi_X4, mo_X4_objectFact, ⟨by decide, by decide, by decide +kernel⟩, by decide⟩
theorem cz_X4_numberOf : CZ MX4_numberOf 1 := ⟨mi_X4, mo_X4_numberOf, ⟨by decide, by decide, by decide +kernel⟩, by decide⟩
theorem cz_X4_childrenOf : CZ MX4_childrenOf 1 := ⟨mi_X4, mo_X4_childrenOf, ⟨by decide, by decide, by decide +kernel⟩, by decide⟩
theorem cz_X4_shapeFact : CZ MX4_shapeFact 2 := ⟨mi_X4, mo_X4_shapeFact, ⟨by decide, by decide, by decide +kernel⟩, by decide⟩
theorem cz_X4_thingsWith : CZ MX4_thingsWith 1 := ⟨mi_X4, mo_X4_thingsWith, ⟨by decide, by decide, by decide +kernel⟩, by decide⟩
theorem cz_X4_entriesOf : CZ MX4_entriesOf 1 := ⟨mi_X4, mo_X4_entriesOf, ⟨by decide, by decide, by decide +kernel⟩, by decide⟩
theorem cz_X4_total : CZ MX4_total 1 := ⟨mi_X4, mo_X4_total, ⟨by decide, by decide, by decide +kernel⟩, by decide⟩
theorem cz_X4_allFields : CZ MX4_allFields 0 := ⟨mi_X4, mo_X4_allFields, ⟨by decide, by decide, by decide +kernel⟩, by decide⟩
theorem cz_X4_placesTotal : CZ MX4_placesTotal 1 := ⟨mi_X4, mo_X4_placesTotal, ⟨by decide, by decide, by decide +kernel⟩, by decide⟩
theorem cz_X4_allWords : CZ MX4_allWords 0 := ⟨mi_X4, mo_X4_allWords, ⟨by decide, by decide, by decide +kernel⟩, by decide⟩
theorem cz_X4_unusedShapes : CZ MX4_unusedShapes 0 := ⟨mi_X4, mo_X4_unusedShapes, ⟨by decide, by decide, by decide +kernel⟩, by decide⟩
theorem cz_X4_fillList : CZ MX4_fillList 1 := ⟨mi_X4, mo_X4_fillList, ⟨by decide, by decide, by decide +kernel⟩, by decide⟩
theorem cz_X4_listUnlessAhead : CZ MX4_listUnlessAhead 4 := ⟨mi_X4, mo_X4_listUnlessAhead, ⟨by decide, by decide, by decide +kernel⟩, by decide⟩
theorem cz_X4_mixed : CZ MX4_mixed 2 := ⟨mi_X4, mo_X4_mixed, ⟨by decide, by decide, by decide +kernel⟩, by decide⟩
theorem cz_X4_withObject : CZ MX4_withObject 2 := ⟨mi_X4, mo_X4_withObject, ⟨by decide, by decide, by decide +kernel⟩, by decide⟩
theorem cz_X4_withPlace : CZ MX4_withPlace 2 := ⟨mi_X4, mo_X4_withPlace, ⟨by decide, by decide, by decide +kernel⟩, by decide⟩
theorem cz_X5_init : CZ MX5_init 0 := ⟨mi_X5, mo_X5_init, ⟨by decide, by decide, by decide +kernel⟩, by decide⟩
theorem cz_X5_isMade : CZ MX5_isMade 2 := ⟨mi_X5, mo_X5_isMade, ⟨by decide, by decide, by decide +kernel⟩, by decide⟩
theorem cz_X5_place : CZ MX5_place 2 := ⟨mi_X5, mo_X5_place, ⟨by decide, by decide, by decide +kernel⟩, by decide⟩
theorem cz_X5_found : CZ MX5_found 2 := ⟨mi_X5, mo_X5_found, ⟨by decide, by decide, by decide +kernel⟩, by decide⟩
theorem cz_X5_far : CZ MX5_far 2 := ⟨mi_X5, mo_X5_far, ⟨by decide, by decide, by decide +kernel⟩, by decide⟩
theorem cz_X5_isInLine : CZ MX5_isInLine 2 := ⟨mi_X5, mo_X5_isInLine, ⟨by decide, by decide, by decide +kernel⟩, by decide⟩
theorem cz_X5_held : CZ MX5_held 1 := ⟨mi_X5, mo_X5_held, ⟨by decide, by decide, by decide +kernel⟩, by decide⟩
theorem cz_X5_read : CZ MX5_read 3 := ⟨mi_X5, mo_X5_read, ⟨by decide, by decide, by decide +kernel⟩, by decide⟩
theorem cz_X5_writes : CZ MX5_writes 4 := ⟨mi_X5, mo_X5_writes, ⟨by decide, by decide, by decide +kernel⟩, by decide⟩
theorem cz_X5_put : CZ MX5_put 2 := ⟨mi_X5, mo_X5_put, ⟨by decide, by decide, by decide +kernel⟩, by decide⟩
theorem cz_X5_can : CZ MX5_can 2 := ⟨mi_X5, mo_X5_can, ⟨by decide, by decide, by decide +kernel⟩, by decide⟩
theorem cz_X5_removes : CZ MX5_removes 2 := ⟨mi_X5, mo_X5_removes, ⟨by decide, by decide, by decide +kernel⟩, by decide⟩
theorem cz_X5_adopts : CZ MX5_adopts 2 := ⟨mi_X5, mo_X5_adopts, ⟨by decide, by decide, by decide +kernel⟩, by decide⟩
theorem cz_X5_shuts : CZ MX5_shuts 2 := ⟨mi_X5, mo_X5_shuts, ⟨by decide, by decide, by decide +kernel⟩, by decide⟩
theorem cz_X5_isChanged : CZ MX5_isChanged 3 := ⟨mi_X5, mo_X5_isChanged, ⟨by decide, by decide, by decide +kernel⟩, by decide⟩
theorem cz_L_below : CZ ML_below 2 := ⟨mi_L, mo_L_below, ⟨by decide, by decide, by decide +kernel⟩, by decide⟩
theorem cz_L_cell : CZ ML_cell 2 := ⟨mi_L, mo_L_cell, ⟨by decide, by decide, by decide +kernel⟩, by decide⟩
theorem cz_L_isRead : CZ ML_isRead 3 := ⟨mi_L, mo_L_isRead, ⟨by decide, by decide, by decide +kernel⟩, by decide⟩
theorem cz_L_isSo : CZ ML_isSo 2 := ⟨mi_L, mo_L_isSo, ⟨by decide, by decide, by decide +kernel⟩, by decide⟩
theorem cz_L_arePlacesRight : CZ ML_arePlacesRight 2 := ⟨mi_L, mo_L_arePlacesRight, ⟨by decide, by decide, by decide +kernel⟩, by decide⟩
