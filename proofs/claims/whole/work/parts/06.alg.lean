/-! plane geometry over Int, by site numbers: X Y the coordinates -/
section PG
/-- above 0 where a, b, c turn left -/
def pg_tn (X Y : Nat → Int) (a b c : Nat) : Int := (X b - X a) * (Y c - Y a) - (Y b - Y a) * (X c - X a)
/-- the square of a distance -/
def pg_gp (X Y : Nat → Int) (a b : Nat) : Int := (X b - X a) * (X b - X a) + (Y b - Y a) * (Y b - Y a)
def pg_dt (X Y : Nat → Int) (m a b : Nat) : Int := (X a - X m) * (X b - X m) + (Y a - Y m) * (Y b - Y m)
/-- above 0 where d is inside of the circle of a, b, c and these turn left -/
def pg_ic (X Y : Nat → Int) (a b c d : Nat) : Int := pg_gp X Y d a * pg_tn X Y d b c + pg_gp X Y d b * pg_tn X Y d c a + pg_gp X Y d c * pg_tn X Y d a b
def pg_I (wx wy ux uy x y : Int) : Int := (x * x + y * y) * (wx * uy - wy * ux) + (wx * wx + wy * wy) * (ux * y - uy * x) + (ux * ux + uy * uy) * (x * wy - y * wx)
variable {X Y : Nat → Int} {n : Nat}
theorem pg_tn_rot (a b c : Nat) : pg_tn X Y b c a = pg_tn X Y a b c := by unfold pg_tn; grind
theorem pg_tn_s12 (a b c : Nat) : pg_tn X Y b a c = - pg_tn X Y a b c := by unfold pg_tn; grind
theorem pg_tn_s23 (a b c : Nat) : pg_tn X Y a c b = - pg_tn X Y a b c := by unfold pg_tn; grind
theorem pg_tn_s13 (a b c : Nat) : pg_tn X Y c b a = - pg_tn X Y a b c := by unfold pg_tn; grind
theorem pg_tn_aab (a b : Nat) : pg_tn X Y a a b = 0 := by unfold pg_tn; grind
theorem pg_tn_aba (a b : Nat) : pg_tn X Y a b a = 0 := by unfold pg_tn; grind
theorem pg_tn_abb (a b : Nat) : pg_tn X Y a b b = 0 := by unfold pg_tn; grind
theorem pg_ic_rot (a b c d : Nat) : pg_ic X Y b c a d = pg_ic X Y a b c d := by unfold pg_ic; grind
theorem pg_ic_s23 (a b c d : Nat) : pg_ic X Y a c b d = - pg_ic X Y a b c d := by unfold pg_ic pg_gp pg_tn; grind
theorem pg_ic_last (a b c d : Nat) : pg_ic X Y a b d c = - pg_ic X Y a b c d := by unfold pg_ic pg_gp pg_tn; grind
theorem pg_ic_a (a b c : Nat) : pg_ic X Y a b c a = 0 := by unfold pg_ic pg_gp pg_tn; grind
theorem pg_ic_b (a b c : Nat) : pg_ic X Y a b c b = 0 := by unfold pg_ic pg_gp pg_tn; grind
theorem pg_ic_c (a b c : Nat) : pg_ic X Y a b c c = 0 := by unfold pg_ic pg_gp pg_tn; grind
theorem pg_ic_I (p w u x : Nat) : pg_ic X Y p w u x = - pg_I (X w - X p) (Y w - Y p) (X u - X p) (Y u - Y p) (X x - X p) (Y x - Y p) := by unfold pg_ic pg_gp pg_tn pg_I; grind
theorem pg_sumI (A B wx wy ux uy vx vy tx ty : Int) : (A * wx + B * wy) * pg_I vx vy tx ty ux uy - (A * ux + B * uy) * pg_I vx vy tx ty wx wy + (A * vx + B * vy) * pg_I wx wy ux uy tx ty - (A * tx + B * ty) * pg_I wx wy ux uy vx vy = 0 := by unfold pg_I; grind
theorem pg_E (wx wy ux uy vx vy : Int) : ((wx * vy - wy * vx) * (ux * ux + uy * uy) + (vx * uy - vy * ux) * (wx * wx + wy * wy)) * ((wx * uy - wy * ux) - (wx * vy - wy * vx) - (vx * uy - vy * ux)) + (wx * vy - wy * vx) * (vx * uy - vy * ux) * ((ux - wx) * (ux - wx) + (uy - wy) * (uy - wy)) = - ((wx * uy - wy * ux) * pg_I wx wy ux uy vx vy) := by unfold pg_I; grind
theorem pg_sq (x : Int) : 0 ≤ x * x := by
  rcases Int.le_total 0 x with h | h
  · exact Int.mul_nonneg h h
  · have := Int.mul_nonneg (a := -x) (b := -x) (by omega) (by omega)
    rw [Int.neg_mul_neg] at this
    exact this
theorem pg_sq0 {x y : Int} (h : x * x + y * y = 0) : x = 0 ∧ y = 0 := by
  have h1 := pg_sq x
  have h2 := pg_sq y
  have h3 : x * x = 0 := by omega
  have h4 : y * y = 0 := by omega
  exact ⟨by rcases Int.mul_eq_zero.mp h3 with h | h <;> exact h, by rcases Int.mul_eq_zero.mp h4 with h | h <;> exact h⟩
theorem pg_sqn (x y : Int) : 0 ≤ x * x + y * y := Int.add_nonneg (pg_sq x) (pg_sq y)
theorem pg_sqp {x y : Int} (h : ¬ (x = 0 ∧ y = 0)) : 0 < x * x + y * y := by
  have h1 := pg_sqn x y
  rcases Int.lt_or_eq_of_le h1 with q | q
  · exact q
  · exact absurd (pg_sq0 q.symm) h
/-- a point on the circle of 0, w, u within the angle lies beyond the side w u -/
theorem pg_cone {wx wy ux uy vx vy : Int} (hb : 0 < wx * vy - wy * vx) (hg : 0 < vx * uy - vy * ux) (hI : pg_I wx wy ux uy vx vy = 0) : wx * uy - wy * ux < (wx * vy - wy * vx) + (vx * uy - vy * ux) := by
  rcases Int.lt_or_le (wx * uy - wy * ux) ((wx * vy - wy * vx) + (vx * uy - vy * ux)) with h | h
  · exact h
  exfalso
  have e := pg_E wx wy ux uy vx vy
  rw [hI, Int.mul_zero, Int.neg_zero] at e
  have h1 : 0 ≤ (wx * vy - wy * vx) * (ux * ux + uy * uy) + (vx * uy - vy * ux) * (wx * wx + wy * wy) := Int.add_nonneg (Int.mul_nonneg (Int.le_of_lt hb) (pg_sqn _ _)) (Int.mul_nonneg (Int.le_of_lt hg) (pg_sqn _ _))
  have h2 := Int.mul_nonneg h1 (show 0 ≤ (wx * uy - wy * ux) - (wx * vy - wy * vx) - (vx * uy - vy * ux) by omega)
  have h3 : 0 < (wx * vy - wy * vx) * (vx * uy - vy * ux) * ((ux - wx) * (ux - wx) + (uy - wy) * (uy - wy)) := by
    refine Int.mul_pos (Int.mul_pos hb hg) (pg_sqp fun q => ?_)
    have q1 : ux = wx := by omega
    have q2 : uy = wy := by omega
    have q3 : wx * uy - wy * ux = 0 := by rw [q1, q2]; grind
    omega
  omega
/-- a point on the circle of 0, w, u in line with 0 and u is u -/
theorem pg_col {wx wy ux uy vx vy : Int} (hD : 0 < wx * uy - wy * ux) (hg : vx * uy - vy * ux = 0) (hv : ¬ (vx = 0 ∧ vy = 0)) (hI : pg_I wx wy ux uy vx vy = 0) : vx = ux ∧ vy = uy := by
  have e := pg_E wx wy ux uy vx vy
  rw [hI, hg] at e
  have e1 : (wx * uy - wy * ux) * vx = (wx * vy - wy * vx) * ux := by
    have : (wx * uy - wy * ux) * vx - (wx * vy - wy * vx) * ux = wx * (vx * uy - vy * ux) := by grind
    rw [hg] at this; omega
  have e2 : (wx * uy - wy * ux) * vy = (wx * vy - wy * vx) * uy := by
    have : (wx * uy - wy * ux) * vy - (wx * vy - wy * vx) * uy = wy * (vx * uy - vy * ux) := by grind
    rw [hg] at this; omega
  have e3 : ((wx * vy - wy * vx) * (ux * ux + uy * uy)) * ((wx * uy - wy * ux) - (wx * vy - wy * vx)) = 0 := by grind
  have hb : wx * vy - wy * vx ≠ 0 := by
    intro q
    rw [q, Int.zero_mul] at e1 e2
    refine hv ⟨?_, ?_⟩
    · rcases Int.mul_eq_zero.mp e1 with h | h
      · omega
      · exact h
    · rcases Int.mul_eq_zero.mp e2 with h | h
      · omega
      · exact h
  rcases Int.mul_eq_zero.mp e3 with h | h
  · rcases Int.mul_eq_zero.mp h with h | h
    · exact absurd h hb
    · obtain ⟨q1, q2⟩ := pg_sq0 h
      rw [q1, q2] at hD
      omega
  · have q : wx * vy - wy * vx = wx * uy - wy * ux := by omega
    rw [q] at e1 e2
    have hne : wx * uy - wy * ux ≠ 0 := by omega
    exact ⟨Int.eq_of_mul_eq_mul_left hne e1, Int.eq_of_mul_eq_mul_left hne e2⟩
theorem pg_plu (A B wx wy ux uy vx vy : Int) : (wx * vy - wy * vx) * (-(A * ux + B * uy)) = (A * wx + B * wy) * (vx * uy - vy * ux) + (wx * uy - wy * ux) * (-(A * vx + B * vy)) := by grind
theorem pg_pos_of_mul {a b : Int} (h : 0 < a * b) (hb : 0 < b) : 0 < a := by
  rcases Int.lt_or_le 0 a with q | q
  · exact q
  · exact absurd (Int.mul_nonpos_of_nonpos_of_nonneg q (Int.le_of_lt hb)) (by omega)
theorem pg_nn_of_mul {a b : Int} (h : 0 ≤ a * b) (hb : 0 < b) : 0 ≤ a := by
  rcases Int.lt_or_le a 0 with q | q
  · have := Int.mul_pos (a := -a) (b := b) (by omega) hb
    rw [Int.neg_mul] at this
    omega
  · exact q
theorem pg_z_of_mul {a b : Int} (h : a * b = 0) (hb : 0 < b) : a = 0 := by
  rcases Int.mul_eq_zero.mp h with h | h
  · exact h
  · omega
end PG
