/-! corners of the whole: as the class and as the reference find them -/
section HU
variable {X Y : Nat → Int} {n : Nat}
theorem pg_v1 (ax ay bx b_y cx cy : Int) : (ax * ax + ay * ay) * (bx * cy - b_y * cx) = (ax * cx + ay * cy) * (bx * ay - b_y * ax) + (ax * cy - ay * cx) * (ax * bx + ay * b_y) := by grind
theorem pg_v2 (ax ay bx b_y cx cy : Int) : (ax * ax + ay * ay) * (bx * cx + b_y * cy) = (ax * cx + ay * cy) * (ax * bx + ay * b_y) + (ax * cy - ay * cx) * (ax * b_y - ay * bx) := by grind
theorem pg_nz (ok : pg_ok n X Y) {p a : Nat} (hp : p < n) (ha : a < n) (hne : a ≠ p) : 0 < (X a - X p) * (X a - X p) + (Y a - Y p) * (Y a - Y p) :=
  pg_sqp fun q => hne (ok.2.2 a p ha hp (by omega) (by omega))
theorem pg_dt_v (m p b : Nat) : pg_dt X Y m p b = ((X m - X p) * (X m - X p) + (Y m - Y p) * (Y m - Y p)) - ((X m - X p) * (X b - X p) + (Y m - Y p) * (Y b - Y p)) := by unfold pg_dt; grind
theorem pg_tn_v (p a b : Nat) : pg_tn X Y a b p = (X a - X p) * (Y b - Y p) - (Y a - Y p) * (X b - X p) := by unfold pg_tn; grind
/-- BT by vectors from p -/
theorem pg_BT_v {p a b : Nat} : pg_BT X Y p a b ↔ (p ≠ a ∧ p ≠ b ∧ (X a - X p) * (Y b - Y p) - (Y a - Y p) * (X b - X p) = 0 ∧ (X a - X p) * (X b - X p) ≤ 0 ∧ (Y a - Y p) * (Y b - Y p) ≤ 0) := by
  unfold pg_BT
  rw [pg_tn_v p a b]
  have e1 : (X p - X a) * (X p - X b) = (X a - X p) * (X b - X p) := by grind
  have e2 : (Y p - Y a) * (Y p - Y b) = (Y a - Y p) * (Y b - Y p) := by grind
  rw [e1, e2]
theorem pg_BT_s {p a b : Nat} (h : pg_BT X Y p a b) : pg_BT X Y p b a := by
  obtain ⟨h1, h2, h3, h4, h5⟩ := h
  refine ⟨h2, h1, ?_, ?_, ?_⟩
  · have := pg_tn_s12 (X := X) (Y := Y) a b p
    omega
  · rw [Int.mul_comm]; exact h4
  · rw [Int.mul_comm]; exact h5
theorem pg_WI_r {p a b c : Nat} (h : pg_WI X Y p a b c) : pg_WI X Y p b c a := by
  have := pg_tn_rot (X := X) (Y := Y) a b c
  unfold pg_WI at h ⊢
  omega
theorem pg_WI_s {p a b c : Nat} (h : pg_WI X Y p a b c) : pg_WI X Y p b a c := by
  have e1 := pg_tn_s12 (X := X) (Y := Y) a b c
  have e2 := pg_tn_s12 (X := X) (Y := Y) a b p
  have e3 := pg_tn_s12 (X := X) (Y := Y) b c p
  have e4 := pg_tn_s12 (X := X) (Y := Y) c a p
  unfold pg_WI at h ⊢
  omega
theorem pg_IC_BT {p a b : Nat} (h : pg_IC n X Y p) (ha : a < n) (hb : b < n) (hab : a ≠ b) : ¬ pg_BT X Y p a b := by
  intro q
  rcases (show a < b ∨ b < a by omega) with e | e
  · exact (h a b e hb).1 q
  · exact (h b a e ha).1 (pg_BT_s q)
theorem pg_IC_WI {p a b c : Nat} (h : pg_IC n X Y p) (ha : a < n) (hb : b < n) (hc : c < n) (hab : a ≠ b) (hbc : b ≠ c) (hac : a ≠ c) (hpa : p ≠ a) (hpb : p ≠ b) (hpc : p ≠ c) : ¬ pg_WI X Y p a b c := by
  intro q
  have q2 := pg_WI_r q
  have q3 := pg_WI_r q2
  by_cases c1 : a < b ∧ b < c
  · exact (h a b c1.1 hb).2 c c1.2 hc hpa hpb hpc q
  by_cases c2 : b < c ∧ c < a
  · exact (h b c c2.1 hc).2 a c2.2 ha hpb hpc hpa q2
  by_cases c3 : c < a ∧ a < b
  · exact (h c a c3.1 ha).2 b c3.2 hb hpc hpa hpb q3
  by_cases c4 : b < a ∧ a < c
  · exact (h b a c4.1 ha).2 c c4.2 hc hpb hpa hpc (pg_WI_s q)
  by_cases c5 : c < b ∧ b < a
  · exact (h c b c5.1 hb).2 a c5.2 ha hpc hpb hpa (pg_WI_s q2)
  · exact (h a c (by omega) hc).2 b (by omega) hb hpa hpc hpb (pg_WI_s q3)
/-- sites in line with p lie on one side of it -/
theorem pg_IC_dot (ok : pg_ok n X Y) {p a b : Nat} (h : pg_IC n X Y p) (hp : p < n) (ha : a < n) (hb : b < n) (hpa : a ≠ p) (hpb : b ≠ p) (hz : (X a - X p) * (Y b - Y p) - (Y a - Y p) * (X b - X p) = 0) : 0 < (X a - X p) * (X b - X p) + (Y a - Y p) * (Y b - Y p) := by
  by_cases hab : a = b
  · subst hab; exact pg_nz ok hp ha hpa
  have nb := pg_IC_BT h ha hb hab
  rw [pg_BT_v] at nb
  rcases Int.lt_or_le 0 ((X a - X p) * (X b - X p) + (Y a - Y p) * (Y b - Y p)) with q | q
  · exact q
  exfalso
  have e : ((X a - X p) * (X b - X p)) * ((Y a - Y p) * (Y b - Y p)) = ((X a - X p) * (Y b - Y p)) * ((X a - X p) * (Y b - Y p)) := by
    have : (X a - X p) * (Y b - Y p) = (Y a - Y p) * (X b - X p) := by omega
    grind
  have s := pg_sq ((X a - X p) * (Y b - Y p))
  rw [← e] at s
  refine nb ⟨fun z => hpa z.symm, fun z => hpb z.symm, hz, ?_, ?_⟩
  · rcases Int.lt_or_le 0 ((X a - X p) * (X b - X p)) with r | r
    · have := Int.mul_neg_of_pos_of_neg r (show (Y a - Y p) * (Y b - Y p) < 0 by omega)
      omega
    · exact r
  · rcases Int.lt_or_le 0 ((Y a - Y p) * (Y b - Y p)) with r | r
    · have := Int.mul_neg_of_neg_of_pos (show (X a - X p) * (X b - X p) < 0 by omega) r
      omega
    · exact r
theorem pg_three {a b c x y z : Int} (ha : 0 ≤ a) (hb : 0 ≤ b) (hc : 0 ≤ c) (hs : 0 < a + b + c) (hx : 0 < a → 0 < x) (hy : 0 < b → 0 < y) (hz : 0 < c → 0 < z) : 0 < a * x + b * y + c * z := by
  have k : ∀ {u v : Int}, 0 ≤ u → (0 < u → 0 < v) → 0 ≤ u * v ∧ (0 < u → 0 < u * v) := fun {u v} h1 h2 => by
    rcases Int.lt_or_eq_of_le h1 with q | q
    · have := Int.mul_pos q (h2 q)
      exact ⟨by omega, fun _ => this⟩
    · rw [← q, Int.zero_mul]
      exact ⟨Int.le_refl 0, fun h => absurd h (by omega)⟩
  have k1 := k ha hx
  have k2 := k hb hy
  have k3 := k hc hz
  by_cases p1 : 0 < a
  · have := k1.2 p1; omega
  by_cases p2 : 0 < b
  · have := k2.2 p2; omega
  · have := k3.2 (by omega); omega
theorem pg_bary (qx qy rx ry sx sy : Int) (bx b_y : Int) : (rx * sy - ry * sx) * (bx * qx + b_y * qy) + (sx * qy - sy * qx) * (bx * rx + b_y * ry) + (qx * ry - qy * rx) * (bx * sx + b_y * sy) = 0 := by grind
theorem pg_bary2 (qx qy rx ry sx sy : Int) (bx b_y : Int) : (rx * sy - ry * sx) * (bx * qy - b_y * qx) + (sx * qy - sy * qx) * (bx * ry - b_y * rx) + (qx * ry - qy * rx) * (bx * sy - b_y * sx) = 0 := by grind
theorem pg_tn_sum (p a b c : Nat) : pg_tn X Y a b c = pg_tn X Y b c p + pg_tn X Y c a p + pg_tn X Y a b p := by unfold pg_tn; grind
/-- all sites on one side of a line through p and b, those on it between these: p is a corner -/
theorem pg_ext (ok : pg_ok n X Y) {p b : Nat} (hp : p < n) (hb : b < n) (hne : b ≠ p) {σ : Int} (hσ : σ = 1 ∨ σ = -1) (h1 : ∀ m, m < n → 0 ≤ σ * pg_tn X Y p b m) (h2 : ∀ m, m < n → pg_tn X Y p b m = 0 → pg_dt X Y m p b ≤ 0) : pg_IC n X Y p := by
  have hdot : ∀ m, m < n → m ≠ p → (X b - X p) * (Y m - Y p) - (Y b - Y p) * (X m - X p) = 0 → 0 < (X b - X p) * (X m - X p) + (Y b - Y p) * (Y m - Y p) := fun m hm hmp hz => by
    have k := h2 m hm hz
    have g := pg_nz ok hp hm hmp
    rw [pg_dt_v] at k
    have e : (X m - X p) * (X b - X p) + (Y m - Y p) * (Y b - Y p) = (X b - X p) * (X m - X p) + (Y b - Y p) * (Y m - Y p) := by grind
    omega
  have hcr : ∀ m, m < n → 0 ≤ σ * ((X b - X p) * (Y m - Y p) - (Y b - Y p) * (X m - X p)) := h1
  intro a c hac hc
  have ha : a < n := by omega
  refine ⟨fun q => ?_, fun d hcd hd hpa hpc hpd q => ?_⟩
  · rw [pg_BT_v] at q
    obtain ⟨q1, q2, q3, q4, q5⟩ := q
    have ga := pg_nz ok hp ha (fun z => q1 z.symm)
    have gc := pg_nz ok hp hc (fun z => q2 z.symm)
    have i1 := pg_v1 (X a - X p) (Y a - Y p) (X b - X p) (Y b - Y p) (X c - X p) (Y c - Y p)
    have i2 := pg_v2 (X a - X p) (Y a - Y p) (X b - X p) (Y b - Y p) (X c - X p) (Y c - Y p)
    have i3 := pg_v2 (X a - X p) (Y a - Y p) (X c - X p) (Y c - Y p) (X c - X p) (Y c - Y p)
    rw [q3, Int.zero_mul, Int.add_zero] at i1 i2 i3
    have ka := hcr a ha
    have kc := hcr c hc
    have da := hdot a ha (fun z => q1 z.symm)
    have dc := hdot c hc (fun z => q2 z.symm)
    have e0 : (X a - X p) * (X b - X p) + (Y a - Y p) * (Y b - Y p) = (X b - X p) * (X a - X p) + (Y b - Y p) * (Y a - Y p) := by grind
    rw [e0] at i2
    generalize (X b - X p) * (Y a - Y p) - (Y b - Y p) * (X a - X p) = ua at *
    generalize (X b - X p) * (Y c - Y p) - (Y b - Y p) * (X c - X p) = uc at *
    generalize (X b - X p) * (X a - X p) + (Y b - Y p) * (Y a - Y p) = va at *
    generalize (X b - X p) * (X c - X p) + (Y b - Y p) * (Y c - Y p) = vc at *
    have hd : (X a - X p) * (X c - X p) + (Y a - Y p) * (Y c - Y p) ≤ 0 := by omega
    generalize (X a - X p) * (X c - X p) + (Y a - Y p) * (Y c - Y p) = w at *
    generalize (X a - X p) * (X a - X p) + (Y a - Y p) * (Y a - Y p) = g1 at *
    generalize (X c - X p) * (X c - X p) + (Y c - Y p) * (Y c - Y p) = g2 at *
    have hw : w < 0 := by
      rcases Int.lt_or_eq_of_le hd with z | z
      · exact z
      · rw [z, Int.zero_mul] at i3
        have := Int.mul_pos ga gc
        omega
    -- g1 * uc = w * ua, both sides of sign σ
    have j : g1 * (σ * uc) = w * (σ * ua) := by
      have : g1 * (σ * uc) = σ * (g1 * uc) := by grind
      rw [this, i1]; grind
    have l1 := Int.mul_nonneg (Int.le_of_lt ga) kc
    have l2 : w * (σ * ua) ≤ 0 := Int.mul_nonpos_of_nonpos_of_nonneg hd ka
    have z1 : g1 * (σ * uc) = 0 := by omega
    have z2 : w * (σ * ua) = 0 := by omega
    have hs : σ ≠ 0 := by omega
    have uc0 : uc = 0 := by
      rcases Int.mul_eq_zero.mp z1 with z | z
      · omega
      · rcases Int.mul_eq_zero.mp z with z | z
        · exact absurd z hs
        · exact z
    have ua0 : ua = 0 := by
      rcases Int.mul_eq_zero.mp z2 with z | z
      · omega
      · rcases Int.mul_eq_zero.mp z with z | z
        · exact absurd z hs
        · exact z
    have m1 := Int.mul_pos ga (dc uc0)
    have m2 := Int.mul_neg_of_neg_of_pos hw (da ua0)
    omega
  · have ts := pg_tn_sum (X := X) (Y := Y) p a c d
    have w1 := pg_tn_v (X := X) (Y := Y) p c d
    have w2 := pg_tn_v (X := X) (Y := Y) p d a
    have w3 := pg_tn_v (X := X) (Y := Y) p a c
    have b1 := pg_bary (X a - X p) (Y a - Y p) (X c - X p) (Y c - Y p) (X d - X p) (Y d - Y p) (X b - X p) (Y b - Y p)
    have b2 := pg_bary2 (X a - X p) (Y a - Y p) (X c - X p) (Y c - Y p) (X d - X p) (Y d - Y p) (X b - X p) (Y b - Y p)
    have ka := hcr a ha
    have kc := hcr c hc
    have kd := hcr d hd
    have da := hdot a ha (fun z => hpa z.symm)
    have dc := hdot c hc (fun z => hpc z.symm)
    have dd := hdot d hd (fun z => hpd z.symm)
    rw [← w1, ← w2, ← w3] at b1 b2
    generalize (X b - X p) * (Y a - Y p) - (Y b - Y p) * (X a - X p) = ua at *
    generalize (X b - X p) * (Y c - Y p) - (Y b - Y p) * (X c - X p) = uc at *
    generalize (X b - X p) * (Y d - Y p) - (Y b - Y p) * (X d - X p) = ud at *
    generalize (X b - X p) * (X a - X p) + (Y b - Y p) * (Y a - Y p) = va at *
    generalize (X b - X p) * (X c - X p) + (Y b - Y p) * (Y c - Y p) = vc at *
    generalize (X b - X p) * (X d - X p) + (Y b - Y p) * (Y d - Y p) = vd at *
    have fin : ∀ (α β γ : Int), 0 ≤ α → 0 ≤ β → 0 ≤ γ → 0 < α + β + γ → α * va + β * vc + γ * vd = 0 → α * ua + β * uc + γ * ud = 0 → False := by
      intro α β γ h1 h2 h3 hs c1 c2
      have t1 := Int.mul_nonneg h1 ka
      have t2 := Int.mul_nonneg h2 kc
      have t3 := Int.mul_nonneg h3 kd
      have e : α * (σ * ua) + β * (σ * uc) + γ * (σ * ud) = σ * (α * ua + β * uc + γ * ud) := by grind
      rw [c2, Int.mul_zero] at e
      have hσ0 : σ ≠ 0 := by omega
      have z : ∀ {x u : Int}, x * (σ * u) = 0 → 0 < x → u = 0 := fun {x u} h hx => by
        rcases Int.mul_eq_zero.mp h with q | q
        · omega
        · rcases Int.mul_eq_zero.mp q with q | q
          · exact absurd q hσ0
          · exact q
      have := pg_three h1 h2 h3 hs (fun k => da (z (by omega) k)) (fun k => dc (z (by omega) k)) (fun k => dd (z (by omega) k))
      omega
    rcases q with ⟨t0, t1, t2, t3⟩ | ⟨t0, t1, t2, t3⟩
    · exact fin _ _ _ t2 t3 t1 (by omega) b1 b2
    · refine fin (-(pg_tn X Y c d p)) (-(pg_tn X Y d a p)) (-(pg_tn X Y a c p)) (by omega) (by omega) (by omega) (by omega) ?_ ?_
      · rw [Int.neg_mul, Int.neg_mul, Int.neg_mul]; omega
      · rw [Int.neg_mul, Int.neg_mul, Int.neg_mul]; omega
theorem pg_RS_IC (ok : pg_ok n X Y) {a b : Nat} (ha : a < n) (hb : b < n) (hne : b ≠ a) (h : pg_RS n X Y a b) : pg_IC n X Y a ∧ pg_IC n X Y b := by
  constructor
  · exact pg_ext ok ha hb hne (Or.inl rfl) (fun m hm => by have := (h m hm).1; omega) (fun m hm hz => by
      have := (h m hm).2
      omega)
  · refine pg_ext ok hb ha (fun z => hne z.symm) (Or.inr rfl) (fun m hm => ?_) (fun m hm hz => ?_)
    · have := (h m hm).1
      have e := pg_tn_s12 (X := X) (Y := Y) a b m
      omega
    · have := (h m hm).2
      have e := pg_tn_s12 (X := X) (Y := Y) a b m
      have e2 : pg_dt X Y m b a = pg_dt X Y m a b := by unfold pg_dt; grind
      omega
/-- a corner has a side of the whole behind it -/
theorem pg_IC_ex (ok : pg_ok n X Y) {p : Nat} (hp : p < n) (h : pg_IC n X Y p) : ∀ k, k ≤ n → (∀ x, x < k → x = p) ∨ ∃ b, b < k ∧ b ≠ p ∧ ∀ x, x < k → x ≠ p → 0 ≤ pg_tn X Y p b x ∧ ¬ (pg_tn X Y p b x = 0 ∧ 0 < pg_dt X Y x p b)
  | 0, _ => Or.inl (fun x hx => absurd hx (by omega))
  | k + 1, hk => by
    have self : ∀ y, pg_tn X Y p y y = 0 ∧ pg_dt X Y y p y = 0 := fun y => ⟨pg_tn_abb _ _, by unfold pg_dt; grind⟩
    by_cases hkp : k = p
    · rcases pg_IC_ex ok hp h k (by omega) with q | ⟨b, b1, b2, b3⟩
      · exact Or.inl (fun x hx => by
          rcases (show x < k ∨ x = k by omega) with e | e
          · exact q x e
          · omega)
      · exact Or.inr ⟨b, by omega, b2, fun x hx hxp => b3 x (by omega) hxp⟩
    rcases pg_IC_ex ok hp h k (by omega) with q | ⟨b, b1, b2, b3⟩
    · refine Or.inr ⟨k, by omega, hkp, fun x hx hxp => ?_⟩
      rcases (show x < k ∨ x = k by omega) with e | e
      · exact absurd (q x e) hxp
      · rw [e, (self k).1, (self k).2]; omega
    have hbn : b < n := by omega
    have hyn : k < n := by omega
    by_cases keep : 0 < pg_tn X Y p b k ∨ (pg_tn X Y p b k = 0 ∧ pg_dt X Y k p b ≤ 0)
    · refine Or.inr ⟨b, by omega, b2, fun x hx hxp => ?_⟩
      rcases (show x < k ∨ x = k by omega) with e | e
      · exact b3 x e hxp
      · rw [e]; omega
    refine Or.inr ⟨k, by omega, hkp, fun x hx hxp => ?_⟩
    rcases (show x < k ∨ x = k by omega) with e | e
    · have hxn : x < n := by omega
      obtain ⟨k1, k2⟩ := b3 x e hxp
      -- vectors from p: B, Y = of k, Xv = of x
      have gB := pg_nz ok hp hbn b2
      have gY := pg_nz ok hp hyn hkp
      have gX := pg_nz ok hp hxn hxp
      have tBY : pg_tn X Y p b k = (X b - X p) * (Y k - Y p) - (Y b - Y p) * (X k - X p) := rfl
      have tBX : pg_tn X Y p b x = (X b - X p) * (Y x - Y p) - (Y b - Y p) * (X x - X p) := rfl
      have tYX : pg_tn X Y p k x = (X k - X p) * (Y x - Y p) - (Y k - Y p) * (X x - X p) := rfl
      by_cases c1 : pg_tn X Y p b k < 0
      · -- case (i)
        rcases Int.lt_or_eq_of_le k1 with q | q
        · have hpos : 0 < pg_tn X Y p k x := by
            rcases Int.lt_trichotomy (pg_tn X Y p k x) 0 with z | z | z
            · exfalso
              have n1 : x ≠ k := by omega
              have n2 : k ≠ b := fun z2 => by rw [z2, (self b).1] at c1; omega
              have n3 : x ≠ b := fun z2 => by rw [z2, (self b).1] at q; omega
              refine pg_IC_WI h hxn hyn hbn n1 n2 n3 (fun z2 => hxp z2.symm) (fun z2 => hkp z2.symm) (fun z2 => b2 z2.symm) (Or.inl ?_)
              have s0 := pg_tn_sum (X := X) (Y := Y) p x k b
              have s1 := pg_tn_rot (X := X) (Y := Y) p x k
              have s2 := pg_tn_rot (X := X) (Y := Y) p k b
              have s3 := pg_tn_rot (X := X) (Y := Y) p b x
              have s4 := pg_tn_s23 (X := X) (Y := Y) p k x
              have s5 := pg_tn_s23 (X := X) (Y := Y) p b k
              omega
            · exfalso
              have d := pg_IC_dot ok h hp hyn hxn hkp hxp (by rw [← tYX]; exact z)
              have i := pg_v1 (X x - X p) (Y x - Y p) (X b - X p) (Y b - Y p) (X k - X p) (Y k - Y p)
              have z0 : (X x - X p) * (Y k - Y p) - (Y x - Y p) * (X k - X p) = 0 := by
                have : (X x - X p) * (Y k - Y p) - (Y x - Y p) * (X k - X p) = -((X k - X p) * (Y x - Y p) - (Y k - Y p) * (X x - X p)) := by grind
                rw [this, ← tYX, z]; rfl
              rw [z0, Int.zero_mul, Int.add_zero, ← tBY, ← tBX] at i
              have d2 : (X x - X p) * (X k - X p) + (Y x - Y p) * (Y k - Y p) = (X k - X p) * (X x - X p) + (Y k - Y p) * (Y x - Y p) := by grind
              rw [d2] at i
              have m1 := Int.mul_pos d q
              have m2 := Int.mul_neg_of_pos_of_neg gX c1
              omega
            · exact z
          omega
        · -- x in line with b
          have d := pg_IC_dot ok h hp hbn hxn b2 hxp (by rw [← tBX]; exact q.symm)
          have i := pg_v1 (X b - X p) (Y b - Y p) (X k - X p) (Y k - Y p) (X x - X p) (Y x - Y p)
          rw [← tBX, ← q, Int.zero_mul, Int.add_zero, ← tYX] at i
          have z0 : (X k - X p) * (Y b - Y p) - (Y k - Y p) * (X b - X p) = - pg_tn X Y p b k := by rw [tBY]; grind
          rw [z0] at i
          have m1 := Int.mul_pos d (show 0 < - pg_tn X Y p b k by omega)
          rw [← i, Int.mul_comm] at m1
          have := pg_pos_of_mul m1 gB
          omega
      · -- case (ii): k in line with b, beyond it
        have c2 : pg_tn X Y p b k = 0 := by omega
        have c3 : 0 < pg_dt X Y k p b := by omega
        have d := pg_IC_dot ok h hp hbn hyn b2 hkp (by rw [← tBY]; exact c2)
        have i := pg_v1 (X b - X p) (Y b - Y p) (X x - X p) (Y x - Y p) (X k - X p) (Y k - Y p)
        rw [← tBY, c2, Int.zero_mul, Int.add_zero] at i
        have z0 : (X x - X p) * (Y b - Y p) - (Y x - Y p) * (X b - X p) = - pg_tn X Y p b x := by rw [tBX]; grind
        have z1 : (X x - X p) * (Y k - Y p) - (Y x - Y p) * (X k - X p) = - pg_tn X Y p k x := by rw [tYX]; grind
        rw [z0, z1, Int.mul_neg, Int.mul_neg] at i
        have m1 := Int.mul_nonneg (Int.le_of_lt d) k1
        have m2 : 0 ≤ pg_tn X Y p k x * ((X b - X p) * (X b - X p) + (Y b - Y p) * (Y b - Y p)) := by rw [Int.mul_comm]; omega
        have m3 := pg_nn_of_mul m2 gB
        refine ⟨m3, fun ⟨w1, w2⟩ => ?_⟩
        rw [w1, Int.mul_zero] at i
        have w3 : pg_tn X Y p b x = 0 := by
          have : ((X b - X p) * (X k - X p) + (Y b - Y p) * (Y k - Y p)) * pg_tn X Y p b x = 0 := by omega
          rcases Int.mul_eq_zero.mp this with r | r
          · omega
          · exact r
        have w4 : pg_dt X Y x p b ≤ 0 := by omega
        rw [pg_dt_v] at c3 w2 w4
        -- B.Y > |B|²
        have j1 := pg_v2 (X b - X p) (Y b - Y p) (X k - X p) (Y k - Y p) (X k - X p) (Y k - Y p)
        rw [← tBY, c2, Int.zero_mul, Int.add_zero] at j1
        have j2 := pg_v2 (X b - X p) (Y b - Y p) (X x - X p) (Y x - Y p) (X k - X p) (Y k - Y p)
        rw [← tBY, c2, Int.zero_mul, Int.add_zero] at j2
        have e1 : (X k - X p) * (X b - X p) + (Y k - Y p) * (Y b - Y p) = (X b - X p) * (X k - X p) + (Y b - Y p) * (Y k - Y p) := by grind
        have e2 : (X x - X p) * (X b - X p) + (Y x - Y p) * (Y b - Y p) = (X b - X p) * (X x - X p) + (Y b - Y p) * (Y x - Y p) := by grind
        rw [e1] at c3
        rw [e2] at w4
        generalize (X b - X p) * (X k - X p) + (Y b - Y p) * (Y k - Y p) = BY at *
        generalize (X b - X p) * (X x - X p) + (Y b - Y p) * (Y x - Y p) = BX at *
        generalize (X b - X p) * (X b - X p) + (Y b - Y p) * (Y b - Y p) = BB at *
        generalize (X k - X p) * (X k - X p) + (Y k - Y p) * (Y k - Y p) = YY at *
        generalize (X x - X p) * (X x - X p) + (Y x - Y p) * (Y x - Y p) = XX at *
        generalize (X x - X p) * (X k - X p) + (Y x - Y p) * (Y k - Y p) = XY at *
        -- j1 : BB * YY = BY * BY ; YY > BY ; so BY > BB
        have l1 : BB < BY := by
          rcases Int.lt_or_le BB BY with r | r
          · exact r
          · have a1 := Int.mul_lt_mul_of_pos_left (show BY < YY by omega) gB
            have a2 := Int.mul_le_mul_of_nonneg_right r (Int.le_of_lt d)
            omega
        -- j2 : BB * XY = BY * BX
        have l2 : 0 < BX := by omega
        have l3 := Int.mul_lt_mul_of_pos_right l1 l2
        have l4 : BB * BX < BB * XY := by omega
        have l5 : BX < XY := Int.lt_of_mul_lt_mul_left l4 (Int.le_of_lt gB)
        omega
    · rw [e, (self k).1, (self k).2]; omega
end HU
