/-! doubles that are whole numbers over a power of two: fd_D k i a: a is i / 2^k, exactly -/
section FD
def fd_sh (k : Int) : FP.Core.Datum → FP.Core.Datum
  | .fin s c q => .fin s c (q + k)
  | .nan => .nan
  | .inf s => .inf s
def fd_D (k : Int) (i : Int) (a : UInt64) : Prop := FP.Core.Whole i (fd_sh k (FP.Core.val64 a))
theorem fd_sum (k : Int) (x y : FP.Core.Datum) : FP.Core.exactSum (fd_sh k x) (fd_sh k y) = fd_sh k (FP.Core.exactSum x y) := by
  cases x with
  | nan => rfl
  | inf s =>
    cases y with
    | nan => rfl
    | inf t =>
      show (if s = t then FP.Core.Datum.inf s else FP.Core.Datum.nan) = fd_sh k (if s = t then FP.Core.Datum.inf s else FP.Core.Datum.nan)
      split <;> rfl
    | fin t d r => rfl
  | fin s c q =>
    cases y with
    | nan => rfl
    | inf t => rfl
    | fin t d r =>
      have e : min (q + k) (r + k) = min q r + k := by omega
      have e1 : q + k - (min q r + k) = q - min q r := by omega
      have e2 : r + k - (min q r + k) = r - min q r := by omega
      show FP.Core.Datum.fin (FP.Core.sumSign s t (FP.Core.sumUnits s c (q + k) t d (r + k) (min (q + k) (r + k)))) (FP.Core.sumUnits s c (q + k) t d (r + k) (min (q + k) (r + k))).natAbs (min (q + k) (r + k)) = FP.Core.Datum.fin (FP.Core.sumSign s t (FP.Core.sumUnits s c q t d r (min q r))) (FP.Core.sumUnits s c q t d r (min q r)).natAbs (min q r + k)
      rw [e]
      have u : FP.Core.sumUnits s c (q + k) t d (r + k) (min q r + k) = FP.Core.sumUnits s c q t d r (min q r) := by
        unfold FP.Core.sumUnits FP.Core.inUnits
        rw [e1, e2]
      rw [u]
theorem fd_prod (k j : Int) (x y : FP.Core.Datum) : FP.Core.exactProduct (fd_sh k x) (fd_sh j y) = fd_sh (k + j) (FP.Core.exactProduct x y) := by
  cases x with
  | nan => rfl
  | inf s =>
    cases y with
    | nan => rfl
    | inf t => rfl
    | fin t d r =>
      show (if d = 0 then FP.Core.Datum.nan else FP.Core.Datum.inf (s != t)) = fd_sh (k + j) (if d = 0 then FP.Core.Datum.nan else FP.Core.Datum.inf (s != t))
      split <;> rfl
  | fin s c q =>
    cases y with
    | nan => rfl
    | inf t =>
      show (if c = 0 then FP.Core.Datum.nan else FP.Core.Datum.inf (s != t)) = fd_sh (k + j) (if c = 0 then FP.Core.Datum.nan else FP.Core.Datum.inf (s != t))
      split <;> rfl
    | fin t d r =>
      show FP.Core.Datum.fin (s != t) (c * d) (q + k + (r + j)) = FP.Core.Datum.fin (s != t) (c * d) (q + r + (k + j))
      rw [show q + k + (r + j) = q + r + (k + j) by omega]
theorem fd_neg (k : Int) (x : FP.Core.Datum) : FP.Core.negate (fd_sh k x) = fd_sh k (FP.Core.negate x) := by cases x <;> rfl
theorem fd_order (k : Int) (x y : FP.Core.Datum) : FP.Core.order (fd_sh k x) (fd_sh k y) = FP.Core.order x y := by
  cases x with
  | nan => rfl
  | inf s => cases y <;> rfl
  | fin s c q =>
    cases y with
    | nan => rfl
    | inf t => rfl
    | fin t d r =>
      have e : min (q + k) (r + k) = min q r + k := by omega
      have e1 : q + k - (min q r + k) = q - min q r := by omega
      have e2 : r + k - (min q r + k) = r - min q r := by omega
      show some (compare (FP.Core.signed s (FP.Core.inUnits c (q + k) (min (q + k) (r + k)))) (FP.Core.signed t (FP.Core.inUnits d (r + k) (min (q + k) (r + k))))) = some (compare (FP.Core.signed s (FP.Core.inUnits c q (min q r))) (FP.Core.signed t (FP.Core.inUnits d r (min q r))))
      rw [e]
      unfold FP.Core.inUnits
      rw [e1, e2]
theorem fd_round {i k : Int} {d : FP.Core.Datum} (hk0 : 0 ≤ k) (hk : k ≤ 100) (hi : i.natAbs ≤ 2 ^ 53) (h : FP.Core.Whole i (fd_sh k d)) : FP.Core.Whole i (fd_sh k (FP.Core.round FP.Core.b64 d)) := by
  cases d with
  | nan => exact h.elim
  | inf s => exact h.elim
  | fin s c q =>
    replace h : FP.Core.Whole i (.fin s c (q + k)) := h
    by_cases hi0 : i = 0
    · have hc : c = 0 := (FP.Core.whole_zero h).mpr hi0
      subst hc
      have e : FP.Core.round FP.Core.b64 (.fin s 0 q) = .fin s 0 FP.Core.b64.qmin := by
        show FP.Core.roundRatio FP.Core.b64 s 0 1 q = _
        unfold FP.Core.roundRatio
        rw [if_pos rfl]
      rw [e]
      show FP.Core.signed s (0 * 2 ^ (FP.Core.b64.qmin + k).toNat) = i * _
      rw [hi0, Nat.zero_mul, Int.zero_mul]
      exact FP.Core.signed_zero s
    · obtain ⟨c', q', hfit, hv⟩ := FP.Core.natFit FP.Core.good_b64 FP.Core.wide_b64 s hi
      obtain ⟨f1, f2, f3, f4⟩ := hfit
      have qm : FP.Core.b64.qmin = -1074 := by decide
      have qx : FP.Core.b64.qmax = 971 := by decide
      have pp : (2 : Nat) ^ FP.Core.b64.p = 9007199254740992 := by decide
      have hn : 0 < i.natAbs := by omega
      have hq' : -53 ≤ q' := by
        rcases Int.lt_or_le q' (-53) with z | z
        · exfalso
          rw [show (q' - 0).toNat = 0 by omega, Nat.pow_zero, Nat.mul_one, Nat.mul_one] at hv
          have h2 : 2 ^ 54 ≤ 2 ^ (0 - q').toNat := Nat.pow_le_pow_right (by decide) (by omega)
          have h3 : 1 * 2 ^ (0 - q').toNat ≤ i.natAbs * 2 ^ (0 - q').toNat := Nat.mul_le_mul_right _ hn
          omega
        · exact z
      have fit2 : FP.Core.fits FP.Core.b64 (.fin s c' (q' - k)) := by
        refine ⟨f1, by omega, by omega, ?_⟩
        rcases f4 with z | z
        · omega
        · exact Or.inr z
      have step1 : FP.Core.roundRatio FP.Core.b64 s c 1 q = FP.Core.roundRatio FP.Core.b64 s i.natAbs 1 (-k) := by
        refine FP.Core.roundRatio_congr (by decide) (by decide) ?_
        have w := FP.Core.whole_natAbs h
        rw [show (q - -k).toNat = (q + k).toNat by omega, show (-k - q).toNat = (-(q + k)).toNat by omega]
        simpa using w
      have step2 : FP.Core.roundRatio FP.Core.b64 s i.natAbs 1 (-k) = .fin s c' (q' - k) := by
        refine FP.Core.roundRatio_exact FP.Core.good_b64 (by decide) fit2 ?_
        rw [show (-k - (q' - k)).toNat = (0 - q').toNat by omega, show (q' - k - -k).toNat = (q' - 0).toNat by omega]
        exact hv
      have e : FP.Core.round FP.Core.b64 (.fin s c q) = .fin s c' (q' - k) := step1.trans step2
      rw [e]
      show FP.Core.signed s (c' * 2 ^ (q' - k + k).toNat) = i * ((2 ^ (-(q' - k + k)).toNat : Nat) : Int)
      rw [show q' - k + k = q' by omega]
      rw [show (0 - q').toNat = (-q').toNat by omega, show (q' - 0).toNat = q'.toNat by omega, Nat.mul_one] at hv
      rw [← hv, FP.Core.signed_mul]
      congr 1
      rw [FP.Core.whole_sign h hi0]
      unfold FP.Core.signed
      by_cases h : i < 0 <;> simp [h] <;> omega
theorem fd_mul {k j i m : Int} {a b : UInt64} (ha : fd_D k i a) (hb : fd_D j m b) (h0 : 0 ≤ k + j) (h1 : k + j ≤ 100) (h : (i * m).natAbs ≤ 2 ^ 53) : fd_D (k + j) (i * m) (FP.dmul a b) := by
  unfold fd_D
  have e : FP.Core.val64 (FP.dmul a b) = FP.Core.round FP.Core.b64 (FP.Core.exactProduct (FP.Core.val64 a) (FP.Core.val64 b)) := FP.Core.val64_dmul a b
  rw [e]
  refine fd_round h0 h1 h ?_
  rw [← fd_prod]
  exact FP.Core.whole_product ha hb
theorem fd_add {k i m : Int} {a b : UInt64} (ha : fd_D k i a) (hb : fd_D k m b) (h0 : 0 ≤ k) (h1 : k ≤ 100) (h : (i + m).natAbs ≤ 2 ^ 53) : fd_D k (i + m) (FP.dadd a b) := by
  unfold fd_D
  have e : FP.Core.val64 (FP.dadd a b) = FP.Core.round FP.Core.b64 (FP.Core.exactSum (FP.Core.val64 a) (FP.Core.val64 b)) := FP.Core.val64_dadd a b
  rw [e]
  refine fd_round h0 h1 h ?_
  rw [← fd_sum]
  exact FP.Core.whole_sum ha hb
theorem fd_sub {k i m : Int} {a b : UInt64} (ha : fd_D k i a) (hb : fd_D k m b) (h0 : 0 ≤ k) (h1 : k ≤ 100) (h : (i - m).natAbs ≤ 2 ^ 53) : fd_D k (i - m) (FP.dsub a b) := by
  unfold fd_D
  have e : FP.Core.val64 (FP.dsub a b) = FP.Core.round FP.Core.b64 (FP.Core.exactSum (FP.Core.val64 a) (FP.Core.negate (FP.Core.val64 b))) := FP.Core.val64_dsub a b
  rw [e]
  refine fd_round h0 h1 h ?_
  rw [← fd_sum, ← fd_neg]
  exact FP.Core.whole_sum ha (FP.Core.whole_negate hb)
theorem fd_sh0 (d : FP.Core.Datum) : fd_sh 0 d = d := by
  cases d with
  | nan => rfl
  | inf s => rfl
  | fin s c q => show FP.Core.Datum.fin s c (q + 0) = _; rw [Int.add_zero]
theorem fd_l2d {v : Int} (h : v.natAbs ≤ 2 ^ 53) : fd_D 0 v (FP.l2d (lI v)) := by
  have hv : (lI v).toInt = v := lI_toInt (by omega) (by omega)
  have := FP.Core.l2d_int (a := lI v) (by rw [hv]; exact h)
  rw [hv] at this
  unfold fd_D
  rw [fd_sh0]
  exact this
theorem fd_i2d (x : Int32) : fd_D 0 x.toInt (FP.i2d x) := by
  unfold fd_D
  rw [fd_sh0]
  exact FP.Core.i2d_int x
theorem fd_up {k i : Int} {a : UInt64} (j : Nat) (h : fd_D k i a) : fd_D (k + j) (i * 2 ^ j) a := by
  unfold fd_D at h ⊢
  cases hv : FP.Core.val64 a with
  | nan => rw [hv] at h; exact h.elim
  | inf s => rw [hv] at h; exact h.elim
  | fin s c q =>
    rw [hv] at h
    have w : FP.Core.Whole ((2 : Int) ^ j) (.fin false 1 (j : Int)) := by
      show FP.Core.signed false (1 * 2 ^ ((j : Int)).toNat) = (2 : Int) ^ j * ((2 ^ (-(j : Int)).toNat : Nat) : Int)
      rw [show ((j : Int)).toNat = j by omega, show (-(j : Int)).toNat = 0 by omega]
      simp [FP.Core.signed]
    have p := FP.Core.whole_product (x := .fin s c (q + k)) h w
    have e : FP.Core.exactProduct (.fin s c (q + k)) (.fin false 1 (j : Int)) = fd_sh (k + j) (.fin s c q) := by
      show FP.Core.Datum.fin (s != false) (c * 1) (q + k + j) = FP.Core.Datum.fin s c (q + (k + j))
      rw [Nat.mul_one, show q + k + (j : Int) = q + (k + j) by omega]
      cases s <;> rfl
    rw [e] at p
    exact p
theorem fd_cmp {k i j : Int} {a b : UInt64} (ha : fd_D k i a) (hb : fd_D k j b) : FP.dcmp a b = some (compare i j) := by
  have h := FP.Core.order_whole ha hb
  rw [fd_order] at h
  exact h
theorem fd_nn {k i : Int} {a : UInt64} (h : fd_D k i a) : FP.Core.val64 a ≠ .nan := fun e => by
  unfold fd_D at h
  rw [e] at h
  exact h
theorem fd_n64 {k i : Int} {a : UInt64} (h : fd_D k i a) : vf_n64 a := by
  have h2 := (FP.Core.ne_nan a).mp (fd_nn h)
  unfold vf_n64
  rw [UInt64.le_iff_toNat_le, FP.Core.mask_toNat]
  exact h2
theorem fd_d2l {v : Int} {a : UInt64} (h : fd_D 0 v a) (h1 : -9223372036854775808 ≤ v) (h2 : v < 9223372036854775808) : FP.d2l a = lI v := by
  unfold fd_D at h
  rw [fd_sh0] at h
  have := FP.Core.d2l_int (a := lI v) (b := a) (by rw [lI_toInt h1 h2]; exact h)
  exact this
/-- far / 64 -/
theorem fd_c64 : FP.Core.val64 4634204016564240384 = .fin false 4503599627370496 (-46) := by decide +kernel
theorem fd_c8 : FP.Core.val64 4620693217682128896 = .fin false 4503599627370496 (-49) := by decide +kernel
theorem fd_c125 : FP.Core.val64 4593671619917905920 = .fin false 4503599627370496 (-55) := by decide +kernel
theorem fd_8 : fd_D (-3) 1 4620693217682128896 := by
  unfold fd_D
  rw [fd_c8]
  show FP.Core.signed false (4503599627370496 * 2 ^ ((-49 : Int) + -3).toNat) = 1 * ((2 ^ (-((-49 : Int) + -3)).toNat : Nat) : Int)
  decide
theorem fd_125 : fd_D 3 1 4593671619917905920 := by
  unfold fd_D
  rw [fd_c125]
  show FP.Core.signed false (4503599627370496 * 2 ^ ((-55 : Int) + 3).toNat) = 1 * ((2 ^ (-((-55 : Int) + 3)).toNat : Nat) : Int)
  decide
theorem fd_div64 {v : Int} {a : UInt64} (h : fd_D 0 v a) (hv : v.natAbs ≤ 2 ^ 53) : fd_D 6 v (FP.ddiv a 4634204016564240384) := by
  unfold fd_D at h ⊢
  rw [fd_sh0] at h
  have e : FP.Core.val64 (FP.ddiv a 4634204016564240384) = FP.Core.quotient FP.Core.b64 (FP.Core.val64 a) (FP.Core.val64 4634204016564240384) := FP.Core.val64_ddiv a _
  rw [e, fd_c64]
  cases hx : FP.Core.val64 a with
  | nan => rw [hx] at h; exact h.elim
  | inf s => rw [hx] at h; exact h.elim
  | fin s c q =>
    rw [hx] at h
    have q1 : FP.Core.quotient FP.Core.b64 (.fin s c q) (.fin false 4503599627370496 (-46)) = FP.Core.roundRatio FP.Core.b64 (s != false) c 4503599627370496 (q - -46) := rfl
    have q2 : FP.Core.roundRatio FP.Core.b64 (s != false) c 4503599627370496 (q - -46) = FP.Core.roundRatio FP.Core.b64 (s != false) c 1 (q - 6) := by
      refine FP.Core.roundRatio_congr (by decide) (by decide) ?_
      rw [show (q - -46 - (q - 6)).toNat = 52 by omega, show (q - 6 - (q - -46)).toNat = 0 by omega]
      omega
    have q3 : FP.Core.roundRatio FP.Core.b64 (s != false) c 1 (q - 6) = FP.Core.round FP.Core.b64 (.fin s c (q - 6)) := by
      cases s <;> rfl
    rw [q1, q2, q3]
    refine fd_round (by decide) (by decide) hv ?_
    show FP.Core.Whole v (.fin s c (q - 6 + 6))
    rw [show q - 6 + 6 = q by omega]
    exact h
/-- compares -/
theorem fd_cv {k i j : Int} {a b : UInt64} (ha : fd_D k i a) (hb : fd_D k j b) (op : CmpOp) : Op.cmpValue (FP.dcmp a b) op = iI (pg_sg (i - j)) := by
  rw [fd_cmp ha hb]
  rcases Int.lt_trichotomy i j with h | h | h
  · have e : compare i j = .lt := by simp [compare, compareOfLessAndEq, h]
    rw [e]
    have e2 : pg_sg (i - j) = -1 := by unfold pg_sg; rw [if_neg (by omega), if_pos (by omega)]
    rw [e2]
    cases op <;> rfl
  · have e : compare i j = .eq := by subst h; simp [compare, compareOfLessAndEq]
    rw [e]
    have e2 : pg_sg (i - j) = 0 := by unfold pg_sg; rw [if_neg (by omega), if_neg (by omega)]
    rw [e2]
    cases op <;> rfl
  · have e : compare i j = .gt := by
      have h1 : ¬ i < j := by omega
      have h2 : ¬ i = j := by omega
      simp [compare, compareOfLessAndEq, h1, h2]
    rw [e]
    have e2 : pg_sg (i - j) = 1 := by unfold pg_sg; rw [if_pos (by omega)]
    rw [e2]
    cases op <;> rfl
end FD
