/-! at most 23 triangles -/
section PI
variable {X Y : Nat → Int} {n : Nat}
theorem pg_min (f : Nat → Int) : ∀ n, 0 < n → ∃ m, m < n ∧ ∀ i, i < n → f m ≤ f i
  | 0, h => absurd h (by omega)
  | n + 1, _ => by
    by_cases h0 : n = 0
    · subst h0
      exact ⟨0, by omega, fun i hi => by have e : i = 0 := by omega
                                         rw [e]; exact Int.le_refl _⟩
    · obtain ⟨m, h1, h2⟩ := pg_min f n (by omega)
      by_cases h : f m ≤ f n
      · refine ⟨m, by omega, fun i hi => ?_⟩
        by_cases e : i = n
        · rw [e]; exact h
        · exact h2 i (by omega)
      · refine ⟨n, by omega, fun i hi => ?_⟩
        by_cases e : i = n
        · rw [e]; exact Int.le_refl _
        · have := h2 i (by omega)
          omega
def pg_L (X Y : Nat → Int) (i : Nat) : Int := 100001 * X i + Y i
/-- what the sites are: at most 14, within the limits, no two the same -/
def pg_ok (n : Nat) (X Y : Nat → Int) : Prop := n ≤ 14 ∧ (∀ i, i < n → -30000 ≤ X i ∧ X i ≤ 30000 ∧ -30000 ≤ Y i ∧ Y i ≤ 30000) ∧ ∀ i j, i < n → j < n → X i = X j → Y i = Y j → i = j
theorem pg_L_inj (h : pg_ok n X Y) {i j : Nat} (hi : i < n) (hj : j < n) (e : pg_L X Y i = pg_L X Y j) : i = j := by
  have a := h.2.1 i hi
  have b := h.2.1 j hj
  unfold pg_L at e
  exact h.2.2 i j hi hj (by omega) (by omega)
def pg_code (n : Nat) (X Y : Nat → Int) (p q r k : Nat) : Prop := pg_DT n X Y p q r ∧ ((k = 2 * p ∧ pg_L X Y r < pg_L X Y p ∧ pg_L X Y p < pg_L X Y q) ∨ (k = 2 * p + 1 ∧ pg_L X Y q < pg_L X Y p ∧ pg_L X Y p < pg_L X Y r))
theorem pg_code_inj (h : pg_ok n X Y) {p q r p' q' r' k : Nat} (h1 : pg_code n X Y p q r k) (h2 : pg_code n X Y p' q' r' k) : p = p' ∧ q = q' ∧ r = r' := by
  obtain ⟨d1, c1⟩ := h1
  obtain ⟨d2, c2⟩ := h2
  have e : p = p' := by omega
  subst e
  unfold pg_L at c1 c2
  rcases c1 with ⟨k1, a1, a2⟩ | ⟨k1, a1, a2⟩
  · rcases c2 with ⟨k2, b1, b2⟩ | ⟨k2, b1, b2⟩
    · exact ⟨rfl, pg_B (A := 100001) (B := 1) h.2.2 d1 d2 (by omega) (by omega) (by omega) (by omega)⟩
    · omega
  · rcases c2 with ⟨k2, b1, b2⟩ | ⟨k2, b1, b2⟩
    · omega
    · exact ⟨rfl, pg_B (A := -100001) (B := -1) h.2.2 d1 d2 (by omega) (by omega) (by omega) (by omega)⟩
theorem pg_code_ex (h : pg_ok n X Y) {a b c : Nat} (d : pg_DT n X Y a b c) : ∃ p q r k, pg_code n X Y p q r k ∧ ((p = a ∧ q = b ∧ r = c) ∨ (p = b ∧ q = c ∧ r = a) ∨ (p = c ∧ q = a ∧ r = b)) := by
  obtain ⟨n1, n2, n3⟩ := pg_DT_ne d
  have m1 : pg_L X Y a ≠ pg_L X Y b := fun e => n1 (pg_L_inj h d.1 d.2.1 e)
  have m2 : pg_L X Y b ≠ pg_L X Y c := fun e => n2 (pg_L_inj h d.2.1 d.2.2.1 e)
  have m3 : pg_L X Y a ≠ pg_L X Y c := fun e => n3 (pg_L_inj h d.1 d.2.2.1 e)
  by_cases c1 : pg_L X Y c < pg_L X Y a ∧ pg_L X Y a < pg_L X Y b
  · exact ⟨a, b, c, 2 * a, ⟨d, Or.inl ⟨rfl, c1⟩⟩, by omega⟩
  by_cases c2 : pg_L X Y b < pg_L X Y a ∧ pg_L X Y a < pg_L X Y c
  · exact ⟨a, b, c, 2 * a + 1, ⟨d, Or.inr ⟨rfl, c2⟩⟩, by omega⟩
  by_cases c3 : pg_L X Y a < pg_L X Y b ∧ pg_L X Y b < pg_L X Y c
  · exact ⟨b, c, a, 2 * b, ⟨pg_DT_rot d, Or.inl ⟨rfl, c3⟩⟩, by omega⟩
  by_cases c4 : pg_L X Y c < pg_L X Y b ∧ pg_L X Y b < pg_L X Y a
  · exact ⟨b, c, a, 2 * b + 1, ⟨pg_DT_rot d, Or.inr ⟨rfl, c4⟩⟩, by omega⟩
  by_cases c5 : pg_L X Y b < pg_L X Y c ∧ pg_L X Y c < pg_L X Y a
  · exact ⟨c, a, b, 2 * c, ⟨pg_DT_rot (pg_DT_rot d), Or.inl ⟨rfl, c5⟩⟩, by omega⟩
  · exact ⟨c, a, b, 2 * c + 1, ⟨pg_DT_rot (pg_DT_rot d), Or.inr ⟨rfl, by omega⟩⟩, by omega⟩
def pg_TR (n : Nat) (X Y : Nat → Int) (t : Nat × Nat × Nat) : Prop := t.1 < t.2.1 ∧ t.2.1 < t.2.2 ∧ (pg_DT n X Y t.1 t.2.1 t.2.2 ∨ pg_DT n X Y t.1 t.2.2 t.2.1)
def pg_R (n : Nat) (X Y : Nat → Int) (t : Nat × Nat × Nat) (k : Nat) : Prop := t.1 < t.2.1 ∧ t.2.1 < t.2.2 ∧ ∃ p q r, pg_code n X Y p q r k ∧ ∀ i, (i = p ∨ i = q ∨ i = r) ↔ (i = t.1 ∨ i = t.2.1 ∨ i = t.2.2)
theorem pg_R_ex (h : pg_ok n X Y) {t : Nat × Nat × Nat} (ht : pg_TR n X Y t) : ∃ k, pg_R n X Y t k := by
  obtain ⟨h1, h2, h3⟩ := ht
  rcases h3 with h3 | h3
  · obtain ⟨p, q, r, k, c, e⟩ := pg_code_ex h h3
    exact ⟨k, h1, h2, p, q, r, c, fun i => by omega⟩
  · obtain ⟨p, q, r, k, c, e⟩ := pg_code_ex h h3
    exact ⟨k, h1, h2, p, q, r, c, fun i => by omega⟩
theorem pg_R_inj (h : pg_ok n X Y) (t t' : Nat × Nat × Nat) (k : Nat) (h1 : pg_R n X Y t k) (h2 : pg_R n X Y t' k) : t = t' := by
  obtain ⟨a1, a2, p, q, r, c1, e1⟩ := h1
  obtain ⟨b1, b2, p', q', r', c2, e2⟩ := h2
  obtain ⟨g1, g2, g3⟩ := pg_code_inj h c1 c2
  subst g1 g2 g3
  obtain ⟨t1, t2, t3⟩ := t
  obtain ⟨u1, u2, u3⟩ := t'
  dsimp only at a1 a2 b1 b2 e1 e2
  have i1 := (e2 t1).mp ((e1 t1).mpr (Or.inl rfl))
  have i2 := (e2 t2).mp ((e1 t2).mpr (Or.inr (Or.inl rfl)))
  have i3 := (e2 t3).mp ((e1 t3).mpr (Or.inr (Or.inr rfl)))
  have k1 : t1 = u1 := by omega
  have k2 : t2 = u2 := by omega
  have k3 : t3 = u3 := by omega
  rw [k1, k2, k3]
theorem pg_pig : ∀ (N : Nat) (l : List Nat), l.Nodup → (∀ x ∈ l, x < N) → l.length ≤ N
  | 0, [], _, _ => Nat.le_refl 0
  | 0, x :: l, _, h => absurd (h x List.mem_cons_self) (by omega)
  | N + 1, l, nd, h => by
    by_cases hN : N ∈ l
    · have h1 := pg_pig N (l.erase N) (nd.erase N) (fun x hx => by
        have h2 := nd.mem_erase_iff.mp hx
        have := h x h2.2
        omega)
      rw [List.length_erase_of_mem hN] at h1
      omega
    · have h1 := pg_pig N l nd (fun x hx => by
        have := h x hx
        have h2 : x ≠ N := fun e => hN (e ▸ hx)
        omega)
      omega
theorem pg_ks {α : Type} (R : α → Nat → Prop) (inj : ∀ x y k, R x k → R y k → x = y) : ∀ l : List α, l.Nodup → (∀ x ∈ l, ∃ k, R x k) → ∃ ks : List Nat, ks.length = l.length ∧ ks.Nodup ∧ ∀ k ∈ ks, ∃ x ∈ l, R x k
  | [], _, _ => ⟨[], rfl, List.nodup_nil, fun k h => absurd h List.not_mem_nil⟩
  | x :: l, nd, h => by
    obtain ⟨n1, n2⟩ := List.nodup_cons.mp nd
    obtain ⟨ks, a, b, c⟩ := pg_ks R inj l n2 (fun y hy => h y (List.mem_cons_of_mem _ hy))
    obtain ⟨k, hk⟩ := h x List.mem_cons_self
    refine ⟨k :: ks, by simp [a], List.nodup_cons.mpr ⟨fun hm => ?_, b⟩, fun k' hk' => ?_⟩
    · obtain ⟨y, hy, hr⟩ := c k hm
      exact n1 (inj x y k hk hr ▸ hy)
    · rcases List.mem_cons.mp hk' with e | e
      · exact ⟨x, List.mem_cons_self, e ▸ hk⟩
      · obtain ⟨y, hy, hr⟩ := c k' e
        exact ⟨y, List.mem_cons_of_mem _ hy, hr⟩
theorem pg_topI (A B wx wy ux uy hx hy : Int) : (A * wx + B * wy) * (hx * uy - hy * ux) + (-(A * ux + B * uy)) * (hx * wy - hy * wx) = (wx * uy - wy * ux) * (A * hx + B * hy) := by grind
theorem pg_tn_diff (a b c d : Nat) : pg_tn X Y a b d - pg_tn X Y a b c = (X b - X a) * (Y d - Y c) - (Y b - Y a) * (X d - X c) := by unfold pg_tn; grind
theorem pg_top {lo hi e q r : Nat} (d : pg_DT n X Y e q r) (hl : pg_L X Y lo < pg_L X Y hi) (h1 : pg_L X Y r < pg_L X Y e) (h2 : pg_L X Y e < pg_L X Y q) (k1 : pg_tn X Y lo hi q ≤ pg_tn X Y lo hi e) (k2 : pg_tn X Y lo hi r ≤ pg_tn X Y lo hi e) : False := by
  have i := pg_topI 100001 1 (X q - X e) (Y q - Y e) (X r - X e) (Y r - Y e) (X hi - X lo) (Y hi - Y lo)
  have e1 := pg_tn_diff (X := X) (Y := Y) lo hi e q
  have e2 := pg_tn_diff (X := X) (Y := Y) lo hi e r
  rw [← e1, ← e2] at i
  unfold pg_L at hl h1 h2
  have hD : 0 < (X q - X e) * (Y r - Y e) - (Y q - Y e) * (X r - X e) := d.2.2.2.1
  have m1 := Int.mul_nonneg (show 0 ≤ 100001 * (X q - X e) + 1 * (Y q - Y e) by omega) (show 0 ≤ -(pg_tn X Y lo hi r - pg_tn X Y lo hi e) by omega)
  have m2 := Int.mul_nonneg (show 0 ≤ -(100001 * (X r - X e) + 1 * (Y r - Y e)) by omega) (show 0 ≤ -(pg_tn X Y lo hi q - pg_tn X Y lo hi e) by omega)
  have m3 := Int.mul_pos hD (show 0 < 100001 * (X hi - X lo) + 1 * (Y hi - Y lo) by omega)
  rw [Int.mul_neg] at m1 m2
  rw [← i] at m3
  omega
theorem pg_bot {lo hi e q r : Nat} (d : pg_DT n X Y e q r) (hl : pg_L X Y lo < pg_L X Y hi) (h1 : pg_L X Y q < pg_L X Y e) (h2 : pg_L X Y e < pg_L X Y r) (k1 : pg_tn X Y lo hi e ≤ pg_tn X Y lo hi q) (k2 : pg_tn X Y lo hi e ≤ pg_tn X Y lo hi r) : False := by
  have i := pg_topI (-100001) (-1) (X q - X e) (Y q - Y e) (X r - X e) (Y r - Y e) (X hi - X lo) (Y hi - Y lo)
  have e1 := pg_tn_diff (X := X) (Y := Y) lo hi e q
  have e2 := pg_tn_diff (X := X) (Y := Y) lo hi e r
  rw [← e1, ← e2] at i
  unfold pg_L at hl h1 h2
  have hD : 0 < (X q - X e) * (Y r - Y e) - (Y q - Y e) * (X r - X e) := d.2.2.2.1
  have m1 := Int.mul_nonneg (show 0 ≤ (-100001) * (X q - X e) + (-1) * (Y q - Y e) by omega) (show 0 ≤ pg_tn X Y lo hi r - pg_tn X Y lo hi e by omega)
  have m2 := Int.mul_nonneg (show 0 ≤ -((-100001) * (X r - X e) + (-1) * (Y r - Y e)) by omega) (show 0 ≤ pg_tn X Y lo hi q - pg_tn X Y lo hi e by omega)
  have m3 := Int.mul_pos hD (show 0 < -((-100001) * (X hi - X lo) + (-1) * (Y hi - Y lo)) by omega)
  rw [Int.mul_neg, ← i] at m3
  omega
theorem pg_bound (h : pg_ok n X Y) (l : List (Nat × Nat × Nat)) (nd : l.Nodup) (ht : ∀ t ∈ l, pg_TR n X Y t) : l.length ≤ 23 := by
  obtain ⟨ks, hk1, hk2, hk3⟩ := pg_ks (pg_R n X Y) (pg_R_inj h) l nd (fun t hm => pg_R_ex h (ht t hm))
  cases hks : ks with
  | nil => rw [hks] at hk1; simp at hk1; omega
  | cons k0 ks0 =>
    obtain ⟨t0, -, -, -, p0, q0, r0, c0, -⟩ := hk3 k0 (by rw [hks]; exact List.mem_cons_self)
    have hn : 0 < n := by have := c0.1.1; omega
    obtain ⟨lo, lo1, lo2⟩ := pg_min (pg_L X Y) n hn
    obtain ⟨hi, hi1, hi2⟩ := pg_min (fun i => - pg_L X Y i) n hn
    obtain ⟨e, e1, e2⟩ := pg_min (fun i => - pg_tn X Y lo hi i) n hn
    obtain ⟨f, f1, f2⟩ := pg_min (fun i => pg_tn X Y lo hi i) n hn
    have hl : pg_L X Y lo < pg_L X Y hi := by
      have a1 := lo2 p0 c0.1.1
      have a2 := lo2 q0 c0.1.2.1
      have a3 := lo2 r0 c0.1.2.2.1
      have b1 := hi2 p0 c0.1.1
      have b2 := hi2 q0 c0.1.2.1
      have b3 := hi2 r0 c0.1.2.2.1
      have := c0.2
      omega
    have hlo : pg_tn X Y lo hi lo = 0 := pg_tn_aba _ _
    have hhi : pg_tn X Y lo hi hi = 0 := pg_tn_abb _ _
    have base : ∀ k ∈ ks, k < 2 * n ∧ k ≠ 2 * lo ∧ k ≠ 2 * lo + 1 ∧ k ≠ 2 * hi ∧ k ≠ 2 * hi + 1 := by
      intro k hk
      obtain ⟨t, -, -, -, p, q, r, c, -⟩ := hk3 k hk
      have a1 := lo2 q c.1.2.1
      have a2 := lo2 r c.1.2.2.1
      have b1 := hi2 q c.1.2.1
      have b2 := hi2 r c.1.2.2.1
      have hp := c.1.1
      rcases c.2 with ⟨g, g1, g2⟩ | ⟨g, g1, g2⟩
      · have n1 : p ≠ lo := fun z => by rw [z] at g1; omega
        have n2 : p ≠ hi := fun z => by rw [z] at g2; omega
        omega
      · have n1 : p ≠ lo := fun z => by rw [z] at g1; omega
        have n2 : p ≠ hi := fun z => by rw [z] at g2; omega
        omega
    have lohi : lo ≠ hi := fun z => by rw [z] at hl; omega
    have fin : ∀ kx, kx < 2 * n → kx ≠ 2 * lo → kx ≠ 2 * lo + 1 → kx ≠ 2 * hi → kx ≠ 2 * hi + 1 → kx ∉ ks → l.length ≤ 23 := by
      intro kx x1 x2 x3 x4 x5 x6
      have hb := pg_pig (2 * n) (2 * lo :: (2 * lo + 1) :: (2 * hi) :: (2 * hi + 1) :: kx :: ks) (by
        refine List.nodup_cons.mpr ⟨fun hm => ?_, List.nodup_cons.mpr ⟨fun hm => ?_, List.nodup_cons.mpr ⟨fun hm => ?_, List.nodup_cons.mpr ⟨fun hm => ?_, List.nodup_cons.mpr ⟨x6, hk2⟩⟩⟩⟩⟩
        · rcases List.mem_cons.mp hm with z | hm
          · omega
          rcases List.mem_cons.mp hm with z | hm
          · omega
          rcases List.mem_cons.mp hm with z | hm
          · omega
          rcases List.mem_cons.mp hm with z | hm
          · omega
          exact (base _ hm).2.1 rfl
        · rcases List.mem_cons.mp hm with z | hm
          · omega
          rcases List.mem_cons.mp hm with z | hm
          · omega
          rcases List.mem_cons.mp hm with z | hm
          · omega
          exact (base _ hm).2.2.1 rfl
        · rcases List.mem_cons.mp hm with z | hm
          · omega
          rcases List.mem_cons.mp hm with z | hm
          · omega
          exact (base _ hm).2.2.2.1 rfl
        · rcases List.mem_cons.mp hm with z | hm
          · omega
          exact (base _ hm).2.2.2.2 rfl) (fun x hm => by
        rcases List.mem_cons.mp hm with z | hm
        · omega
        rcases List.mem_cons.mp hm with z | hm
        · omega
        rcases List.mem_cons.mp hm with z | hm
        · omega
        rcases List.mem_cons.mp hm with z | hm
        · omega
        rcases List.mem_cons.mp hm with z | hm
        · omega
        exact (base _ hm).1)
      have hn14 := h.1
      simp only [List.length_cons] at hb
      omega
    by_cases he : 0 < pg_tn X Y lo hi e
    · have n1 : e ≠ lo := fun z => by rw [z] at he; omega
      have n2 : e ≠ hi := fun z => by rw [z] at he; omega
      refine fin (2 * e) (by omega) (by omega) (by omega) (by omega) (by omega) (fun hm => ?_)
      obtain ⟨t, -, -, -, p, q, r, c, -⟩ := hk3 _ hm
      rcases c.2 with ⟨g, g1, g2⟩ | ⟨g, g1, g2⟩
      · have z : p = e := by omega
        subst z
        have a1 := e2 q c.1.2.1
        have a2 := e2 r c.1.2.2.1
        exact pg_top c.1 hl g1 g2 (by omega) (by omega)
      · omega
    by_cases hf : pg_tn X Y lo hi f < 0
    · have n1 : f ≠ lo := fun z => by rw [z] at hf; omega
      have n2 : f ≠ hi := fun z => by rw [z] at hf; omega
      refine fin (2 * f + 1) (by omega) (by omega) (by omega) (by omega) (by omega) (fun hm => ?_)
      obtain ⟨t, -, -, -, p, q, r, c, -⟩ := hk3 _ hm
      rcases c.2 with ⟨g, g1, g2⟩ | ⟨g, g1, g2⟩
      · omega
      · have z : p = f := by omega
        subst z
        exact pg_bot c.1 hl g1 g2 (f2 q c.1.2.1) (f2 r c.1.2.2.1)
    exfalso
    have z : ∀ i, i < n → pg_tn X Y lo hi i = 0 := fun i hi => by
      have a := e2 i hi
      have b := f2 i hi
      omega
    have zp := z p0 c0.1.1
    have zq := z q0 c0.1.2.1
    have zr := z r0 c0.1.2.2.1
    rcases c0.2 with ⟨g, g1, g2⟩ | ⟨g, g1, g2⟩
    · exact pg_top c0.1 hl g1 g2 (by omega) (by omega)
    · exact pg_bot c0.1 hl g1 g2 (by omega) (by omega)
end PI
