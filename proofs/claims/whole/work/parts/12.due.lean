/-! when a triangle is due, as both programs ask it; bounds -/
section PD
variable {X Y : Nat → Int} {n : Nat}
theorem pg_mulb {a b A B : Int} (h1 : -A ≤ a) (h2 : a ≤ A) (h3 : -B ≤ b) (h4 : b ≤ B) : -(A * B) ≤ a * b ∧ a * b ≤ A * B := by
  have hA : 0 ≤ A := by omega
  have hB : 0 ≤ B := by omega
  have e1 := Int.mul_nonneg (show 0 ≤ A - a by omega) (show 0 ≤ B + b by omega)
  have e2 := Int.mul_nonneg (show 0 ≤ A + a by omega) (show 0 ≤ B - b by omega)
  have e3 := Int.mul_nonneg (show 0 ≤ A - a by omega) (show 0 ≤ B - b by omega)
  have e4 := Int.mul_nonneg (show 0 ≤ A + a by omega) (show 0 ≤ B + b by omega)
  have f1 : (A - a) * (B + b) = A * B + A * b - a * B - a * b := by grind
  have f2 : (A + a) * (B - b) = A * B - A * b + a * B - a * b := by grind
  have f3 : (A - a) * (B - b) = A * B - A * b - a * B + a * b := by grind
  have f4 : (A + a) * (B + b) = A * B + A * b + a * B + a * b := by grind
  omega
theorem pg_tn_b (h : pg_ok n X Y) {a b c : Nat} (ha : a < n) (hb : b < n) (hc : c < n) : -7200000000 ≤ pg_tn X Y a b c ∧ pg_tn X Y a b c ≤ 7200000000 := by
  have a1 := h.2.1 a ha
  have b1 := h.2.1 b hb
  have c1 := h.2.1 c hc
  have m1 := pg_mulb (a := X b - X a) (b := Y c - Y a) (A := 60000) (B := 60000) (by omega) (by omega) (by omega) (by omega)
  have m2 := pg_mulb (a := Y b - Y a) (b := X c - X a) (A := 60000) (B := 60000) (by omega) (by omega) (by omega) (by omega)
  unfold pg_tn
  omega
theorem pg_gp_b (h : pg_ok n X Y) {a b : Nat} (ha : a < n) (hb : b < n) : 0 ≤ pg_gp X Y a b ∧ pg_gp X Y a b ≤ 7200000000 := by
  have a1 := h.2.1 a ha
  have b1 := h.2.1 b hb
  have m1 := pg_mulb (a := X b - X a) (b := X b - X a) (A := 60000) (B := 60000) (by omega) (by omega) (by omega) (by omega)
  have m2 := pg_mulb (a := Y b - Y a) (b := Y b - Y a) (A := 60000) (B := 60000) (by omega) (by omega) (by omega) (by omega)
  have s1 := pg_sqn (X b - X a) (Y b - Y a)
  unfold pg_gp
  omega
theorem pg_dt_b (h : pg_ok n X Y) {a b c : Nat} (ha : a < n) (hb : b < n) (hc : c < n) : -7200000000 ≤ pg_dt X Y a b c ∧ pg_dt X Y a b c ≤ 7200000000 := by
  have a1 := h.2.1 a ha
  have b1 := h.2.1 b hb
  have c1 := h.2.1 c hc
  have m1 := pg_mulb (a := X b - X a) (b := X c - X a) (A := 60000) (B := 60000) (by omega) (by omega) (by omega) (by omega)
  have m2 := pg_mulb (a := Y b - Y a) (b := Y c - Y a) (A := 60000) (B := 60000) (by omega) (by omega) (by omega) (by omega)
  unfold pg_dt
  omega
theorem pg_gp_s (a b : Nat) : pg_gp X Y a b = pg_gp X Y b a := by unfold pg_gp; grind
theorem pg_gp_pos (h : pg_ok n X Y) {a b : Nat} (ha : a < n) (hb : b < n) (hne : a ≠ b) : 0 < pg_gp X Y a b := by
  unfold pg_gp
  exact pg_sqp fun q => hne (h.2.2 a b ha hb (by omega) (by omega))
/-- four sites on a circle: no three of them in line -/
theorem pg_cc (h : pg_ok n X Y) {a b c d : Nat} (hb : b < n) (hc : c < n) (hd : d < n) (ht : pg_tn X Y a b c ≠ 0) (hi : pg_ic X Y a b c d = 0) (n1 : d ≠ b) (n2 : d ≠ c) : pg_tn X Y b c d ≠ 0 := by
  intro hz
  have hbc : b ≠ c := fun e => ht (by rw [e]; exact pg_tn_abb _ _)
  -- base b: C = c - b, D = d - b; in line: D = 0, or C = D
  have e1 : pg_gp X Y b c * pg_tn X Y b c d = 0 := by rw [hz, Int.mul_zero]
  have key : pg_ic X Y a b c d * pg_gp X Y b c = pg_tn X Y a b c * ((X d - X b) * (X d - X c) + (Y d - Y b) * (Y d - Y c)) * -(pg_gp X Y b c) + pg_tn X Y b c d * (pg_ic X Y a b c d * 0 + pg_gp X Y b c * ((X a - X b) * (X a - X c) + (Y a - Y b) * (Y a - Y c))) := by
    unfold pg_ic pg_gp pg_tn; grind
  rw [hi, hz, Int.zero_mul, Int.zero_mul, Int.add_zero] at key
  have gpos := pg_gp_pos h hb hc hbc
  rcases Int.mul_eq_zero.mp key.symm with q | q
  · rcases Int.mul_eq_zero.mp q with q | q
    · exact ht q
    · -- (d - b).(d - c) = 0 and in line
      have s1 : pg_tn X Y b c d * pg_tn X Y b c d = pg_gp X Y b d * pg_gp X Y d c - ((X d - X b) * (X d - X c) + (Y d - Y b) * (Y d - Y c)) * ((X d - X b) * (X d - X c) + (Y d - Y b) * (Y d - Y c)) := by unfold pg_gp pg_tn; grind
      rw [hz, q] at s1
      have g1 := pg_gp_pos h hb hd (fun e => n1 e.symm)
      have g2 := pg_gp_pos h hd hc n2
      have := Int.mul_pos g1 g2
      omega
  · omega
/-- what both programs ask of each further site d -/
def pg_Q (X Y : Nat → Int) (a b c d : Nat) : Prop := d = a ∨ d = b ∨ d = c ∨ (0 < pg_tn X Y a b c ∧ pg_ic X Y a b c d < 0) ∨ (pg_tn X Y a b c < 0 ∧ 0 < pg_ic X Y a b c d) ∨ (pg_ic X Y a b c d = 0 ∧ a < d ∧ ((0 < pg_tn X Y a b c ∧ 0 < pg_tn X Y b c d) ∨ (pg_tn X Y a b c < 0 ∧ pg_tn X Y b c d < 0)))
theorem pg_Q_TR {a b c : Nat} (hab : a < b) (hbc : b < c) (hc : c < n) : (pg_tn X Y a b c ≠ 0 ∧ ∀ d, d < n → pg_Q X Y a b c d) ↔ pg_TR n X Y (a, b, c) := by
  constructor
  · intro ⟨ht, hd⟩
    refine ⟨hab, hbc, ?_⟩
    show pg_DT n X Y a b c ∨ pg_DT n X Y a c b
    rcases Int.lt_or_gt_of_ne ht with t | t
    · refine Or.inr ⟨by omega, by omega, by omega, by have := pg_tn_s23 (X := X) (Y := Y) a b c; omega, fun x hx n1 n2 n3 => ?_⟩
      have e := pg_ic_s23 (X := X) (Y := Y) a b c x
      have e2 := pg_tn_s12 (X := X) (Y := Y) b c x
      rcases hd x hx with q | q | q | q | q | q
      · exact absurd q n1
      · exact absurd q n3
      · exact absurd q n2
      · omega
      · exact Or.inl (by omega)
      · exact Or.inr ⟨by omega, fun _ _ => ⟨q.2.1, by omega⟩, fun _ _ => by omega, fun _ _ => by omega⟩
    · refine Or.inl ⟨by omega, by omega, by omega, t, fun x hx n1 n2 n3 => ?_⟩
      rcases hd x hx with q | q | q | q | q | q
      · exact absurd q n1
      · exact absurd q n2
      · exact absurd q n3
      · exact Or.inl q.2
      · omega
      · exact Or.inr ⟨by omega, fun _ _ => ⟨q.2.1, by omega⟩, fun _ _ => by omega, fun _ _ => by omega⟩
  · intro h0
    obtain ⟨-, -, h⟩ := h0
    replace h : pg_DT n X Y a b c ∨ pg_DT n X Y a c b := h
    rcases h with h | h
    · have t : 0 < pg_tn X Y a b c := h.2.2.2.1
      refine ⟨by omega, fun d hd => ?_⟩
      by_cases n1 : d = a
      · exact Or.inl n1
      by_cases n2 : d = b
      · exact Or.inr (Or.inl n2)
      by_cases n3 : d = c
      · exact Or.inr (Or.inr (Or.inl n3))
      rcases h.2.2.2.2 d hd n1 n2 n3 with q | ⟨q, f⟩
      · exact Or.inr (Or.inr (Or.inr (Or.inl ⟨t, q⟩)))
      · have g := f.1 hab (by omega : a < c)
        exact Or.inr (Or.inr (Or.inr (Or.inr (Or.inr ⟨q, g.1, Or.inl ⟨t, g.2⟩⟩))))
    · have t0 : 0 < pg_tn X Y a c b := h.2.2.2.1
      have e0 := pg_tn_s23 (X := X) (Y := Y) a b c
      have t : pg_tn X Y a b c < 0 := by omega
      refine ⟨by omega, fun d hd => ?_⟩
      by_cases n1 : d = a
      · exact Or.inl n1
      by_cases n2 : d = b
      · exact Or.inr (Or.inl n2)
      by_cases n3 : d = c
      · exact Or.inr (Or.inr (Or.inl n3))
      have e := pg_ic_s23 (X := X) (Y := Y) a b c d
      have e2 := pg_tn_s12 (X := X) (Y := Y) b c d
      rcases h.2.2.2.2 d hd n1 n3 n2 with q | ⟨q, f⟩
      · exact Or.inr (Or.inr (Or.inr (Or.inr (Or.inl ⟨t, by omega⟩))))
      · have g := f.1 (by omega : a < c) hab
        exact Or.inr (Or.inr (Or.inr (Or.inr (Or.inr ⟨by omega, g.1, Or.inr ⟨t, by omega⟩⟩))))
def pg_sg (x : Int) : Int := if 0 < x then 1 else if x < 0 then -1 else 0
theorem pg_sg_b (x : Int) : -1 ≤ pg_sg x ∧ pg_sg x ≤ 1 := by unfold pg_sg; (repeat' split) <;> omega
theorem pg_sg_pos {x : Int} : 0 < pg_sg x ↔ 0 < x := by unfold pg_sg; (repeat' split) <;> omega
theorem pg_sg_neg {x : Int} : pg_sg x < 0 ↔ x < 0 := by unfold pg_sg; (repeat' split) <;> omega
theorem pg_sg_0 {x : Int} : pg_sg x = 0 ↔ x = 0 := by unfold pg_sg; (repeat' split) <;> omega
/-- the sum of three products, by high and low parts -/
theorem pg_split (K p q r u v w : Int) : p * u + q * v + r * w = ((p / K) * u + (q / K) * v + (r / K) * w) * K + ((p % K) * u + (q % K) * v + (r % K) * w) := by
  have e1 := Int.mul_ediv_add_emod p K
  have e2 := Int.mul_ediv_add_emod q K
  have e3 := Int.mul_ediv_add_emod r K
  generalize p / K = p1 at *
  generalize p % K = p2 at *
  generalize q / K = q1 at *
  generalize q % K = q2 at *
  generalize r / K = r1 at *
  generalize r % K = r2 at *
  rw [← e1, ← e2, ← e3]
  grind
end PD
