/-! triangles of empty circles: apart, and how many -/
section PH
variable {X Y : Nat → Int} {n : Nat}
/-- the least of p, q, r is the least site on their circle, and x is on its side of the two others -/
def pg_FAN (X Y : Nat → Int) (p q r x : Nat) : Prop := (p < q → p < r → p < x ∧ 0 < pg_tn X Y q r x) ∧ (q < p → q < r → q < x ∧ 0 < pg_tn X Y r p x) ∧ (r < p → r < q → r < x ∧ 0 < pg_tn X Y p q x)
/-- p, q, r turn left and are a triangle that is due -/
def pg_DT (n : Nat) (X Y : Nat → Int) (p q r : Nat) : Prop := p < n ∧ q < n ∧ r < n ∧ 0 < pg_tn X Y p q r ∧ ∀ x, x < n → x ≠ p → x ≠ q → x ≠ r → pg_ic X Y p q r x < 0 ∨ (pg_ic X Y p q r x = 0 ∧ pg_FAN X Y p q r x)
theorem pg_ne {p q r : Nat} (h : pg_tn X Y p q r ≠ 0) : p ≠ q ∧ q ≠ r ∧ p ≠ r :=
  ⟨fun e => h (by rw [e]; exact pg_tn_aab _ _), fun e => h (by rw [e]; exact pg_tn_abb _ _), fun e => h (by rw [e]; exact pg_tn_aba _ _)⟩
theorem pg_DT_ne {p q r : Nat} (h : pg_DT n X Y p q r) : p ≠ q ∧ q ≠ r ∧ p ≠ r := pg_ne (X := X) (Y := Y) (by have := h.2.2.2.1; omega)
theorem pg_DT_rot {p q r : Nat} (h : pg_DT n X Y p q r) : pg_DT n X Y q r p := by
  obtain ⟨hp, hq, hr, ht, hx⟩ := h
  refine ⟨hq, hr, hp, by rw [pg_tn_rot]; exact ht, fun x h1 h2 h3 h4 => ?_⟩
  rw [pg_ic_rot]
  rcases hx x h1 h4 h2 h3 with h | ⟨h, f1, f2, f3⟩
  · exact Or.inl h
  · exact Or.inr ⟨h, fun a b => f2 b a, fun a b => f3 b a, fun a b => f1 a b⟩
theorem pg_DT_np {p q r x : Nat} (h : pg_DT n X Y p q r) (hx : x < n) : pg_ic X Y p q r x ≤ 0 := by
  by_cases h1 : x = p
  · rw [h1, pg_ic_a]; exact Int.le_refl 0
  by_cases h2 : x = q
  · rw [h2, pg_ic_b]; exact Int.le_refl 0
  by_cases h3 : x = r
  · rw [h3, pg_ic_c]; exact Int.le_refl 0
  rcases h.2.2.2.2 x hx h1 h2 h3 with q | ⟨q, -⟩ <;> omega
/-- on one side of p, q there is at most one -/
theorem pg_A {p q r r' : Nat} (h1 : pg_DT n X Y p q r) (h2 : pg_DT n X Y p q r') : r = r' := by
  apply Classical.byContradiction
  intro hne
  obtain ⟨a1, a2, a3⟩ := pg_DT_ne h1
  obtain ⟨b1, b2, b3⟩ := pg_DT_ne h2
  have e := pg_ic_last (X := X) (Y := Y) p q r r'
  have c1 := h1.2.2.2.2 r' h2.2.2.1 (by omega) (by omega) (by omega)
  have c2 := h2.2.2.2.2 r h1.2.2.1 (by omega) (by omega) (by omega)
  rcases c1 with c1 | ⟨c1, f1⟩
  · rcases c2 with c2 | ⟨c2, -⟩ <;> omega
  rcases c2 with c2 | ⟨c2, f2⟩
  · omega
  have t1 := pg_tn_s23 (X := X) (Y := Y) q r r'
  have t2 := pg_tn_s13 (X := X) (Y := Y) r p r'
  by_cases d1 : p < q ∧ p < r
  · obtain ⟨g1, g2⟩ := f1.1 d1.1 d1.2
    obtain ⟨g3, g4⟩ := f2.1 d1.1 g1
    omega
  by_cases d2 : q < p ∧ q < r
  · obtain ⟨g1, g2⟩ := f1.2.1 d2.1 d2.2
    obtain ⟨g3, g4⟩ := f2.2.1 d2.1 g1
    omega
  have d3 : r < p ∧ r < q := by omega
  obtain ⟨g1, g2⟩ := f1.2.2 d3.1 d3.2
  by_cases k1 : p < q ∧ p < r'
  · have := (f2.1 k1.1 k1.2).1; omega
  by_cases k2 : q < p ∧ q < r'
  · have := (f2.2.1 k2.1 k2.2).1; omega
  have := (f2.2.2 (by omega) (by omega)).1
  omega
theorem pg_notcone {A B : Int} {p w u v : Nat} (h : pg_DT n X Y p w u) (hpw : p < w) (hpu : p < u) (hv : v < n) (hvp : v ≠ p) (hvw : v ≠ w) (hvu : v ≠ u) (hic : pg_ic X Y p w u v = 0) (Lw : 0 < A * (X w - X p) + B * (Y w - Y p)) (Lu : A * (X u - X p) + B * (Y u - Y p) < 0) (Lv : A * (X v - X p) + B * (Y v - Y p) < 0) : ¬ 0 < (X v - X p) * (Y u - Y p) - (Y v - Y p) * (X u - X p) := by
  intro hg
  rcases h.2.2.2.2 v hv hvp hvw hvu with q | ⟨-, f⟩
  · omega
  have f1 := (f.1 hpw hpu).2
  have hD : 0 < (X w - X p) * (Y u - Y p) - (Y w - Y p) * (X u - X p) := h.2.2.2.1
  have hb : 0 < (X w - X p) * (Y v - Y p) - (Y w - Y p) * (X v - X p) := by
    refine pg_pos_of_mul (b := -(A * (X u - X p) + B * (Y u - Y p))) ?_ (by omega)
    rw [pg_plu]
    have h1 := Int.mul_pos Lw hg
    have h2 := Int.mul_pos hD (show 0 < -(A * (X v - X p) + B * (Y v - Y p)) by omega)
    omega
  have hI : pg_I (X w - X p) (Y w - Y p) (X u - X p) (Y u - Y p) (X v - X p) (Y v - Y p) = 0 := by
    have := pg_ic_I (X := X) (Y := Y) p w u v
    omega
  have c := pg_cone hb hg hI
  have e : pg_tn X Y w u v = ((X w - X p) * (Y u - Y p) - (Y w - Y p) * (X u - X p)) - ((X w - X p) * (Y v - Y p) - (Y w - Y p) * (X v - X p)) - ((X v - X p) * (Y u - Y p) - (Y v - Y p) * (X u - X p)) := by unfold pg_tn; grind
  omega
/-- two that lie on the same side of p, crossing the same line, are one -/
theorem pg_B {A B : Int} (inj : ∀ i j, i < n → j < n → X i = X j → Y i = Y j → i = j) {p w u w' u' : Nat} (h1 : pg_DT n X Y p w u) (h2 : pg_DT n X Y p w' u') (Lw : 0 < A * (X w - X p) + B * (Y w - Y p)) (Lu : A * (X u - X p) + B * (Y u - Y p) < 0) (Lw' : 0 < A * (X w' - X p) + B * (Y w' - Y p)) (Lu' : A * (X u' - X p) + B * (Y u' - Y p) < 0) : w = w' ∧ u = u' := by
  have main : u = u' → w = w' := fun e => by
    subst e
    exact pg_A (pg_DT_rot (pg_DT_rot h1)) (pg_DT_rot (pg_DT_rot h2))
  by_cases hu : u = u'
  · exact ⟨main hu, hu⟩
  by_cases hw : w = w'
  · subst hw
    exact ⟨rfl, pg_A h1 h2⟩
  exfalso
  obtain ⟨a1, a2, a3⟩ := pg_DT_ne h1
  obtain ⟨b1, b2, b3⟩ := pg_DT_ne h2
  have n1 : u ≠ w' := fun e => by rw [e] at Lu; omega
  have n2 : u' ≠ w := fun e => by rw [e] at Lu'; omega
  have lp := h1.1
  have lw := h1.2.1
  have lu := h1.2.2.1
  have lw' := h2.2.1
  have lu' := h2.2.2.1
  have ics : pg_ic X Y p w' u' u = 0 ∧ pg_ic X Y p w' u' w = 0 ∧ pg_ic X Y p w u u' = 0 ∧ pg_ic X Y p w u w' = 0 := by
    have k := pg_sumI A B (X w - X p) (Y w - Y p) (X u - X p) (Y u - Y p) (X w' - X p) (Y w' - Y p) (X u' - X p) (Y u' - Y p)
    have e1 := pg_ic_I (X := X) (Y := Y) p w' u' u
    have e2 := pg_ic_I (X := X) (Y := Y) p w' u' w
    have e3 := pg_ic_I (X := X) (Y := Y) p w u u'
    have e4 := pg_ic_I (X := X) (Y := Y) p w u w'
    have i1 := pg_DT_np h2 lu
    have i2 := pg_DT_np h2 lw
    have i3 := pg_DT_np h1 lu'
    have i4 := pg_DT_np h1 lw'
    generalize pg_I (X w' - X p) (Y w' - Y p) (X u' - X p) (Y u' - Y p) (X u - X p) (Y u - Y p) = j1 at *
    generalize pg_I (X w' - X p) (Y w' - Y p) (X u' - X p) (Y u' - Y p) (X w - X p) (Y w - Y p) = j2 at *
    generalize pg_I (X w - X p) (Y w - Y p) (X u - X p) (Y u - Y p) (X u' - X p) (Y u' - Y p) = j3 at *
    generalize pg_I (X w - X p) (Y w - Y p) (X u - X p) (Y u - Y p) (X w' - X p) (Y w' - Y p) = j4 at *
    generalize A * (X w - X p) + B * (Y w - Y p) = g1 at *
    generalize A * (X u - X p) + B * (Y u - Y p) = g2 at *
    generalize A * (X w' - X p) + B * (Y w' - Y p) = g3 at *
    generalize A * (X u' - X p) + B * (Y u' - Y p) = g4 at *
    have m1 := Int.mul_nonneg (Int.le_of_lt Lw) (show 0 ≤ j1 by omega)
    have m2 := Int.mul_nonneg (show 0 ≤ -g2 by omega) (show 0 ≤ j2 by omega)
    have m3 := Int.mul_nonneg (Int.le_of_lt Lw') (show 0 ≤ j3 by omega)
    have m4 := Int.mul_nonneg (show 0 ≤ -g4 by omega) (show 0 ≤ j4 by omega)
    rw [Int.neg_mul] at m2 m4
    have z1 : g1 * j1 = 0 := by omega
    have z2 : g2 * j2 = 0 := by omega
    have z3 : g3 * j3 = 0 := by omega
    have z4 : g4 * j4 = 0 := by omega
    refine ⟨?_, ?_, ?_, ?_⟩
    · rcases Int.mul_eq_zero.mp z1 with q | q <;> omega
    · rcases Int.mul_eq_zero.mp z2 with q | q <;> omega
    · rcases Int.mul_eq_zero.mp z3 with q | q <;> omega
    · rcases Int.mul_eq_zero.mp z4 with q | q <;> omega
  obtain ⟨c1, c2, c3, c4⟩ := ics
  have np1 : u' ≠ p := fun e => b3 e.symm
  have np2 : w' ≠ p := fun e => b1 e.symm
  have np3 : u ≠ p := fun e => a3 e.symm
  have np4 : w ≠ p := fun e => a1 e.symm
  have F1u : pg_FAN X Y p w u u' := by
    rcases h1.2.2.2.2 u' lu' np1 n2 (fun e => hu e.symm) with q | ⟨-, f⟩
    · omega
    · exact f
  have F1w : pg_FAN X Y p w u w' := by
    rcases h1.2.2.2.2 w' lw' np2 (fun e => hw e.symm) (fun e => n1 e.symm) with q | ⟨-, f⟩
    · omega
    · exact f
  have F2u : pg_FAN X Y p w' u' u := by
    rcases h2.2.2.2.2 u lu np3 n1 hu with q | ⟨-, f⟩
    · omega
    · exact f
  have F2w : pg_FAN X Y p w' u' w := by
    rcases h2.2.2.2.2 w lw np4 hw (fun e => n2 e.symm) with q | ⟨-, f⟩
    · omega
    · exact f
  by_cases d1 : p < w ∧ p < u
  · have g1 := (F1u.1 d1.1 d1.2).1
    have g2 := (F1w.1 d1.1 d1.2).1
    have k1 := pg_notcone h1 d1.1 d1.2 lu' np1 n2 (fun e => hu e.symm) c3 Lw Lu Lu'
    have k2 := pg_notcone h2 g2 g1 lu np3 n1 hu c1 Lw' Lu' Lu
    have sw : (X u - X p) * (Y u' - Y p) - (Y u - Y p) * (X u' - X p) = -((X u' - X p) * (Y u - Y p) - (Y u' - Y p) * (X u - X p)) := by grind
    have hI : pg_I (X w - X p) (Y w - Y p) (X u - X p) (Y u - Y p) (X u' - X p) (Y u' - Y p) = 0 := by
      have := pg_ic_I (X := X) (Y := Y) p w u u'
      omega
    have hv : ¬ (X u' - X p = 0 ∧ Y u' - Y p = 0) := fun q => by
      rw [q.1, q.2] at Lu'
      omega
    have r := pg_col h1.2.2.2.1 (by omega) hv hI
    exact hu (inj u u' lu lu' (by omega) (by omega))
  by_cases d2 : w < p ∧ w < u
  · have g1 := (F1u.2.1 d2.1 d2.2).1
    have g2 := (F1w.2.1 d2.1 d2.2).1
    by_cases k1 : p < w' ∧ p < u'
    · have := (F2w.1 k1.1 k1.2).1; omega
    by_cases k2 : w' < p ∧ w' < u'
    · have := (F2w.2.1 k2.1 k2.2).1; omega
    have := (F2w.2.2 (by omega) (by omega)).1
    omega
  have d3 : u < p ∧ u < w := by omega
  have g1 := (F1u.2.2 d3.1 d3.2).1
  have g2 := (F1w.2.2 d3.1 d3.2).1
  by_cases k1 : p < w' ∧ p < u'
  · have := (F2u.1 k1.1 k1.2).1; omega
  by_cases k2 : w' < p ∧ w' < u'
  · have := (F2u.2.1 k2.1 k2.2).1; omega
  have := (F2u.2.2 (by omega) (by omega)).1
  omega
end PH
