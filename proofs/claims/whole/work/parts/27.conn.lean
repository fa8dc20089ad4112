/-! the ring, and that the edges hold the sites together -/
section CN
variable {X Y : Nat → Int} {n : Nat}
theorem pg_IC_NX (ok : pg_ok n X Y) {a : Nat} (ha : a < n) : pg_IC n X Y a ↔ (n = 1 ∨ ∃ b, pg_NX n X Y a b) := by
  constructor
  · intro h
    rcases pg_IC_ex ok ha h n (Nat.le_refl n) with q | ⟨b, b1, b2, b3⟩
    · left
      have h0 := q 0 (by omega)
      rcases Nat.lt_or_ge 1 n with e | e
      · have := q 1 e; omega
      · omega
    · right
      have hRS : pg_RS n X Y a b := fun m hm => by
        by_cases e : m = a
        · rw [e, pg_tn_aba]
          have : pg_dt X Y a a b = 0 := by unfold pg_dt; grind
          omega
        · exact b3 m hm e
      -- the least such b
      have least : ∀ k, (∃ b, b < k ∧ b ≠ a ∧ pg_RS n X Y a b) → ∃ b, b < k ∧ b ≠ a ∧ pg_RS n X Y a b ∧ ∀ c, c < b → c ≠ a → ¬ pg_RS n X Y a c := by
        intro k
        induction k with
        | zero => rintro ⟨b, hb, _⟩; exact absurd hb (by omega)
        | succ k ih =>
          rintro ⟨b, hb, hne, hr⟩
          by_cases e : ∃ b, b < k ∧ b ≠ a ∧ pg_RS n X Y a b
          · obtain ⟨b', h1, h2, h3, h4⟩ := ih e
            exact ⟨b', by omega, h2, h3, h4⟩
          · have hbk : b = k := by
              rcases (show b < k ∨ b = k by omega) with z | z
              · exact absurd ⟨b, z, hne, hr⟩ e
              · exact z
            exact ⟨b, hb, hne, hr, fun c hc hne2 hr2 => e ⟨c, by omega, hne2, hr2⟩⟩
      obtain ⟨b', h1, h2, h3, h4⟩ := least n ⟨b, b1, b2, hRS⟩
      exact ⟨b', h1, h2, h3, h4⟩
  · rintro (h | ⟨b, h⟩)
    · intro x y hxy hy
      omega
    · exact (pg_RS_IC ok ha h.1 h.2.1 h.2.2.1).1
theorem pg_FO_RS (ok : pg_ok n X Y) {a b : Nat} (ha : a < n) (hb : b < n) (hI : pg_IC n X Y a) : pg_FO n X Y a b ↔ (b ≠ a ∧ pg_RS n X Y a b) := by
  constructor
  · rintro ⟨hne, hIb, hc⟩
    refine ⟨hne, fun m hm => ?_⟩
    by_cases e1 : m = a
    · rw [e1, pg_tn_aba]
      have : pg_dt X Y a a b = 0 := by unfold pg_dt; grind
      omega
    by_cases e2 : m = b
    · rw [e2, pg_tn_abb]
      have : pg_dt X Y b a b = 0 := by unfold pg_dt; grind
      omega
    refine ⟨hc m hm e1 e2, fun ⟨z, d⟩ => ?_⟩
    have d1 := pg_IC_dot ok hI ha hb hm hne e1 z
    have z2 : (X a - X b) * (Y m - Y b) - (Y a - Y b) * (X m - X b) = 0 := by
      have e : (X a - X b) * (Y m - Y b) - (Y a - Y b) * (X m - X b) = - pg_tn X Y a b m := by unfold pg_tn; grind
      rw [e, z]; rfl
    have d2 := pg_IC_dot ok hIb hb ha hm (fun q => hne q.symm) e2 z2
    have gB := pg_nz ok ha hb hne
    have tz : (X b - X a) * (Y m - Y a) - (Y b - Y a) * (X m - X a) = 0 := z
    have j1 := pg_v2 (X b - X a) (Y b - Y a) (X m - X a) (Y m - Y a) (X m - X a) (Y m - Y a)
    rw [tz, Int.zero_mul, Int.add_zero] at j1
    rw [pg_dt_v] at d
    have e1 : (X m - X a) * (X b - X a) + (Y m - Y a) * (Y b - Y a) = (X b - X a) * (X m - X a) + (Y b - Y a) * (Y m - Y a) := by grind
    have e3 : (X a - X b) * (X m - X b) + (Y a - Y b) * (Y m - Y b) = ((X b - X a) * (X b - X a) + (Y b - Y a) * (Y b - Y a)) - ((X b - X a) * (X m - X a) + (Y b - Y a) * (Y m - Y a)) := by grind
    rw [e1] at d
    rw [e3] at d2
    generalize (X b - X a) * (X m - X a) + (Y b - Y a) * (Y m - Y a) = BM at *
    generalize (X b - X a) * (X b - X a) + (Y b - Y a) * (Y b - Y a) = BB at *
    generalize (X m - X a) * (X m - X a) + (Y m - Y a) * (Y m - Y a) = MM at *
    have l1 := Int.mul_lt_mul_of_pos_right (show BM < BB by omega) d1
    have l2 := Int.mul_lt_mul_of_pos_left (show BM < MM by omega) gB
    omega
  · rintro ⟨hne, hR⟩
    exact ⟨hne, (pg_RS_IC ok ha hb hne hR).2, fun c hc _ _ => (hR c hc).1⟩
theorem pg_RS_inj (ok : pg_ok n X Y) {a a' b : Nat} (ha : a < n) (ha' : a' < n) (h : pg_RS n X Y a b) (h' : pg_RS n X Y a' b) : a = a' := by
  have k1 := h a' ha'
  have k2 := h' a ha
  have e := pg_tn_s13 (X := X) (Y := Y) a b a'
  have z1 : pg_tn X Y a b a' = 0 := by omega
  have z2 : pg_tn X Y a' b a = 0 := by omega
  have d1 : pg_dt X Y a' a b ≤ 0 := by
    rcases Int.lt_or_le 0 (pg_dt X Y a' a b) with q | q
    · exact absurd ⟨z1, q⟩ k1.2
    · exact q
  have d2 : pg_dt X Y a a' b ≤ 0 := by
    rcases Int.lt_or_le 0 (pg_dt X Y a a' b) with q | q
    · exact absurd ⟨z2, q⟩ k2.2
    · exact q
  have s : pg_dt X Y a' a b + pg_dt X Y a a' b = (X a - X a') * (X a - X a') + (Y a - Y a') * (Y a - Y a') := by unfold pg_dt; grind
  have n1 := pg_sqn (X a - X a') (Y a - Y a')
  obtain ⟨q1, q2⟩ := pg_sq0 (show (X a - X a') * (X a - X a') + (Y a - Y a') * (Y a - Y a') = 0 by omega)
  exact ok.2.2 a a' ha ha' (by omega) (by omega)
theorem pg_CH_nd (ok : pg_ok n X Y) {f k : Nat} {RG : Nat → Nat} (h : pg_CH n X Y f k RG) : ∀ i j, i < j → j < k → RG i ≠ RG j
  | 0, j, h1, h2 => by
    intro e
    have a := h.1 (by omega)
    have b := (h.2.2 (j - 1) (by omega)).2
    rw [show j - 1 + 1 = j by omega] at b
    exact b (by rw [← e, a])
  | i + 1, j, h1, h2 => by
    intro e
    have a := (h.2.2 i (by omega)).1
    have b := (h.2.2 (j - 1) (by omega)).1
    rw [show j - 1 + 1 = j by omega, ← e] at b
    exact pg_CH_nd ok h i (j - 1) (by omega) (by omega) (pg_RS_inj ok (h.2.1 i (by omega)) (h.2.1 (j - 1) (by omega)) a.2.2.1 b.2.2.1)
theorem pg_CH_len (ok : pg_ok n X Y) {f k : Nat} {RG : Nat → Nat} (h : pg_CH n X Y f k RG) : k ≤ n := by
  have nd : ((List.range k).map RG).Nodup := by
    unfold List.Nodup
    rw [List.pairwise_map]
    exact List.Pairwise.imp_of_mem (fun {i j} hi hj hij => pg_CH_nd ok h i j hij (List.mem_range.mp hj)) (List.pairwise_lt_range (n := k))
  have := pg_pig n _ nd (fun x hx => by
    obtain ⟨i, h1, h2⟩ := List.mem_map.mp hx
    rw [← h2]
    exact h.2.1 i (List.mem_range.mp h1))
  rw [List.length_map, List.length_range] at this
  exact this
/-- what follows the last of n corners is the first -/
theorem pg_CH_back (ok : pg_ok n X Y) {f k b : Nat} {RG : Nat → Nat} (h : pg_CH n X Y f k RG) (hk : 0 < k) (hn : n ≤ k) (hb : pg_NX n X Y (RG (k - 1)) b) : b = f := by
  apply Classical.byContradiction
  intro hne
  have h2 : pg_CH n X Y f (k + 1) (fun i => if i = k then b else RG i) := pg_CH_add h hb.1 (Or.inr ⟨hk, hb, hne⟩)
  have := pg_CH_len ok h2
  omega
/-- there is a corner -/
theorem pg_IC_some (ok : pg_ok n X Y) (hn : 0 < n) : ∃ p, p < n ∧ pg_IC n X Y p := by
  obtain ⟨p, hp, hmin⟩ := pg_min (pg_L X Y) n hn
  refine ⟨p, hp, ?_⟩
  have pos : ∀ m, m < n → m ≠ p → 0 < 100001 * (X m - X p) + (Y m - Y p) := fun m hm hmp => by
    have a := hmin m hm
    have b : pg_L X Y p ≠ pg_L X Y m := fun e => hmp (pg_L_inj ok hm hp e.symm)
    unfold pg_L at a b
    omega
  intro a c hac hc
  have ha : a < n := by omega
  refine ⟨fun q => ?_, fun d hcd hd hpa hpc hpd q => ?_⟩
  · rw [pg_BT_v] at q
    obtain ⟨q1, q2, q3, q4, q5⟩ := q
    have ga := pg_nz ok hp ha (fun z => q1 z.symm)
    have pa := pos a ha (fun z => q1 z.symm)
    have pc := pos c hc (fun z => q2 z.symm)
    have i : ((X a - X p) * (X a - X p) + (Y a - Y p) * (Y a - Y p)) * (100001 * (X c - X p) + (Y c - Y p)) = ((X a - X p) * (X c - X p) + (Y a - Y p) * (Y c - Y p)) * (100001 * (X a - X p) + (Y a - Y p)) + ((X a - X p) * (Y c - Y p) - (Y a - Y p) * (X c - X p)) * (-(100001 * (Y a - Y p)) + (X a - X p)) := by grind
    rw [q3, Int.zero_mul, Int.add_zero] at i
    have m1 := Int.mul_pos ga pc
    have m2 := Int.mul_nonpos_of_nonpos_of_nonneg (show (X a - X p) * (X c - X p) + (Y a - Y p) * (Y c - Y p) ≤ 0 by omega) (Int.le_of_lt pa)
    omega
  · have ts := pg_tn_sum (X := X) (Y := Y) p a c d
    have w1 := pg_tn_v (X := X) (Y := Y) p c d
    have w2 := pg_tn_v (X := X) (Y := Y) p d a
    have w3 := pg_tn_v (X := X) (Y := Y) p a c
    have b1 := pg_bary (X a - X p) (Y a - Y p) (X c - X p) (Y c - Y p) (X d - X p) (Y d - Y p) 100001 1
    rw [← w1, ← w2, ← w3] at b1
    have pa := pos a ha (fun z => hpa z.symm)
    have pc := pos c hc (fun z => hpc z.symm)
    have pd := pos d hd (fun z => hpd z.symm)
    rcases q with ⟨t0, t1, t2, t3⟩ | ⟨t0, t1, t2, t3⟩
    · have := pg_three t2 t3 t1 (by omega) (fun _ => show 0 < 100001 * (X a - X p) + 1 * (Y a - Y p) by omega) (fun _ => show 0 < 100001 * (X c - X p) + 1 * (Y c - Y p) by omega) (fun _ => show 0 < 100001 * (X d - X p) + 1 * (Y d - Y p) by omega)
      omega
    · have := pg_three (a := -(pg_tn X Y c d p)) (b := -(pg_tn X Y d a p)) (c := -(pg_tn X Y a c p)) (by omega) (by omega) (by omega) (by omega) (fun _ => show 0 < 100001 * (X a - X p) + 1 * (Y a - Y p) by omega) (fun _ => show 0 < 100001 * (X c - X p) + 1 * (Y c - Y p) by omega) (fun _ => show 0 < 100001 * (X d - X p) + 1 * (Y d - Y p) by omega)
      rw [Int.neg_mul, Int.neg_mul, Int.neg_mul] at this
      omega
/-- vectors on one side of B: there is a first one -/
theorem pg_first (Q : Nat → Prop) (vx vy : Nat → Int) (bx b_y : Int) (hB : ∀ x, Q x → 0 < bx * vy x - b_y * vx x) : ∀ k, (∃ x, x < k ∧ Q x) → ∃ r, r < k ∧ Q r ∧ ∀ x, x < k → Q x → 0 ≤ vx r * vy x - vy r * vx x
  | 0, h => by obtain ⟨x, hx, _⟩ := h; exact absurd hx (by omega)
  | k + 1, h => by
    by_cases hk : Q k
    · by_cases e : ∃ x, x < k ∧ Q x
      · obtain ⟨r, r1, r2, r3⟩ := pg_first Q vx vy bx b_y hB k e
        by_cases g : 0 ≤ vx r * vy k - vy r * vx k
        · exact ⟨r, by omega, r2, fun x hx hq => by
            rcases (show x < k ∨ x = k by omega) with z | z
            · exact r3 x z hq
            · rw [z]; exact g⟩
        · refine ⟨k, by omega, hk, fun x hx hq => ?_⟩
          rcases (show x < k ∨ x = k by omega) with z | z
          · have i : (vx k * vy x - vy k * vx x) * (bx * vy r - b_y * vx r) = (bx * vy k - b_y * vx k) * (vx r * vy x - vy r * vx x) + (-(vx r * vy k - vy r * vx k)) * (bx * vy x - b_y * vx x) := by grind
            have m1 := Int.mul_nonneg (Int.le_of_lt (hB k hk)) (r3 x z hq)
            have m2 := Int.mul_pos (show 0 < -(vx r * vy k - vy r * vx k) by omega) (hB x hq)
            exact pg_nn_of_mul (by omega) (hB r r2)
          · rw [z]
            have : vx k * vy k - vy k * vx k = 0 := by grind
            omega
      · exact ⟨k, by omega, hk, fun x hx hq => by
          rcases (show x < k ∨ x = k by omega) with z | z
          · exact absurd ⟨x, z, hq⟩ e
          · rw [z]
            have : vx k * vy k - vy k * vx k = 0 := by grind
            omega⟩
    · obtain ⟨x, hx, hq⟩ := h
      have hxk : x < k := by
        rcases (show x < k ∨ x = k by omega) with z | z
        · exact z
        · exact absurd (z ▸ hq) hk
      obtain ⟨r, r1, r2, r3⟩ := pg_first Q vx vy bx b_y hB k ⟨x, hxk, hq⟩
      exact ⟨r, by omega, r2, fun y hy hqy => by
        rcases (show y < k ∨ y = k by omega) with z | z
        · exact r3 y z hqy
        · exact absurd (z ▸ hqy) hk⟩
theorem pg_ic_dt (s t c x : Nat) : pg_ic X Y s t c x = pg_dt X Y c s t * pg_tn X Y s t x - pg_dt X Y x s t * pg_tn X Y s t c := by unfold pg_ic pg_gp pg_tn pg_dt; grind
/-- left of s, t: the site with the greatest angle, of several the one with the least number -/
theorem pg_near (s t : Nat) (hd : ∀ x, x < n → x ≠ s → x ≠ t → 0 < pg_dt X Y x s t) : ∀ k, k ≤ n → (∃ x, x < k ∧ 0 < pg_tn X Y s t x) → ∃ c, c < k ∧ 0 < pg_tn X Y s t c ∧ ∀ x, x < k → 0 < pg_tn X Y s t x → pg_dt X Y c s t * pg_tn X Y s t x ≤ pg_dt X Y x s t * pg_tn X Y s t c ∧ (pg_dt X Y c s t * pg_tn X Y s t x = pg_dt X Y x s t * pg_tn X Y s t c → c ≤ x)
  | 0, _, h => by obtain ⟨x, hx, _⟩ := h; exact absurd hx (by omega)
  | k + 1, hk, h => by
    have notst : ∀ x, 0 < pg_tn X Y s t x → x ≠ s ∧ x ≠ t := fun x hx => ⟨fun e => by rw [e, pg_tn_aba] at hx; omega, fun e => by rw [e, pg_tn_abb] at hx; omega⟩
    by_cases hq : 0 < pg_tn X Y s t k
    · by_cases e : ∃ x, x < k ∧ 0 < pg_tn X Y s t x
      · obtain ⟨c, c1, c2, c3⟩ := pg_near s t hd k (by omega) e
        by_cases g : pg_dt X Y c s t * pg_tn X Y s t k ≤ pg_dt X Y k s t * pg_tn X Y s t c
        · exact ⟨c, by omega, c2, fun x hx hx2 => by
            rcases (show x < k ∨ x = k by omega) with z | z
            · exact c3 x z hx2
            · rw [z]; exact ⟨g, fun _ => by omega⟩⟩
        · refine ⟨k, by omega, hq, fun x hx hx2 => ?_⟩
          rcases (show x < k ∨ x = k by omega) with z | z
          · have l1 := (c3 x z hx2).1
            have l2 : pg_dt X Y k s t * pg_tn X Y s t c < pg_dt X Y c s t * pg_tn X Y s t k := by omega
            have m1 := Int.mul_lt_mul_of_pos_right l2 hx2
            have m2 := Int.mul_le_mul_of_nonneg_right l1 (Int.le_of_lt hq)
            have e1 : pg_dt X Y k s t * pg_tn X Y s t c * pg_tn X Y s t x = pg_tn X Y s t c * (pg_dt X Y k s t * pg_tn X Y s t x) := by grind
            have e2 : pg_dt X Y x s t * pg_tn X Y s t c * pg_tn X Y s t k = pg_tn X Y s t c * (pg_dt X Y x s t * pg_tn X Y s t k) := by grind
            have e3 : pg_dt X Y c s t * pg_tn X Y s t k * pg_tn X Y s t x = pg_dt X Y c s t * pg_tn X Y s t x * pg_tn X Y s t k := by grind
            have m3 : pg_tn X Y s t c * (pg_dt X Y k s t * pg_tn X Y s t x) < pg_tn X Y s t c * (pg_dt X Y x s t * pg_tn X Y s t k) := by omega
            have m4 := Int.lt_of_mul_lt_mul_left m3 (Int.le_of_lt c2)
            omega
          · rw [z]; exact ⟨Int.le_refl _, fun _ => Nat.le_refl _⟩
      · exact ⟨k, by omega, hq, fun x hx hx2 => by
          rcases (show x < k ∨ x = k by omega) with z | z
          · exact absurd ⟨x, z, hx2⟩ e
          · rw [z]; exact ⟨Int.le_refl _, fun _ => Nat.le_refl _⟩⟩
    · obtain ⟨x, hx, hx2⟩ := h
      have hxk : x < k := by
        rcases (show x < k ∨ x = k by omega) with z | z
        · exact z
        · exact absurd (z ▸ hx2) hq
      obtain ⟨c, c1, c2, c3⟩ := pg_near s t hd k (by omega) ⟨x, hxk, hx2⟩
      exact ⟨c, by omega, c2, fun y hy hy2 => by
        rcases (show y < k ∨ y = k by omega) with z | z
        · exact c3 y z hy2
        · exact absurd (z ▸ hy2) hq⟩
/-- two sites whose round about them is free: a triangle on each side where there are sites -/
theorem pg_del (ok : pg_ok n X Y) {s t : Nat} (hs : s < n) (ht : t < n) (hd : ∀ x, x < n → x ≠ s → x ≠ t → 0 < pg_dt X Y x s t) (hl : ∃ x, x < n ∧ 0 < pg_tn X Y s t x) : ∃ r, pg_DT n X Y s t r := by
  obtain ⟨c, c1, c2, c3⟩ := pg_near s t hd n (Nat.le_refl n) hl
  have notst : ∀ x, 0 < pg_tn X Y s t x → x ≠ s ∧ x ≠ t := fun x hx => ⟨fun e => by rw [e, pg_tn_aba] at hx; omega, fun e => by rw [e, pg_tn_abb] at hx; omega⟩
  obtain ⟨ncs, nct⟩ := notst c c2
  have hst : s ≠ t := fun e => by rw [e, pg_tn_aab] at c2; omega
  -- sites on the circle
  have key : ∀ r, r < n → 0 < pg_tn X Y s t r → pg_ic X Y s t c r = 0 → ∀ x, x < n → x ≠ s → x ≠ t → pg_ic X Y s t r x < 0 ∨ (pg_ic X Y s t r x = 0 ∧ 0 < pg_tn X Y s t x ∧ pg_ic X Y s t c x = 0) := by
    intro r hr hr2 hrc x hx nxs nxt
    have dx := hd x hx nxs nxt
    have dr := hd r hr (notst r hr2).1 (notst r hr2).2
    rw [pg_ic_dt] at hrc
    rw [pg_ic_dt s t r x, pg_ic_dt s t c x]
    by_cases hx2 : 0 < pg_tn X Y s t x
    · have l := (c3 x hx hx2).1
      -- r has c's ratio
      have e1 : pg_dt X Y c s t * pg_tn X Y s t r = pg_dt X Y r s t * pg_tn X Y s t c := by omega
      have e2 : pg_tn X Y s t c * (pg_dt X Y r s t * pg_tn X Y s t x - pg_dt X Y x s t * pg_tn X Y s t r) = pg_tn X Y s t r * (pg_dt X Y c s t * pg_tn X Y s t x - pg_dt X Y x s t * pg_tn X Y s t c) := by grind
      rcases Int.lt_or_eq_of_le l with q | q
      · left
        have m := Int.mul_neg_of_pos_of_neg hr2 (show pg_dt X Y c s t * pg_tn X Y s t x - pg_dt X Y x s t * pg_tn X Y s t c < 0 by omega)
        rw [← e2] at m
        rcases Int.lt_or_le (pg_dt X Y r s t * pg_tn X Y s t x - pg_dt X Y x s t * pg_tn X Y s t r) 0 with z | z
        · exact z
        · have := Int.mul_nonneg (Int.le_of_lt c2) z; omega
      · right
        have z0 : pg_dt X Y c s t * pg_tn X Y s t x - pg_dt X Y x s t * pg_tn X Y s t c = 0 := by omega
        rw [z0, Int.mul_zero] at e2
        refine ⟨?_, hx2, z0⟩
        rcases Int.mul_eq_zero.mp e2 with z | z
        · omega
        · exact z
    · left
      have m1 := Int.mul_pos dx hr2
      have m2 := Int.mul_nonneg (Int.le_of_lt dr) (show 0 ≤ -(pg_tn X Y s t x) by omega)
      rw [Int.mul_neg] at m2
      omega
  have leastc : ∀ x, x < n → 0 < pg_tn X Y s t x → pg_ic X Y s t c x = 0 → c ≤ x := fun x hx hx2 hz => by
    rw [pg_ic_dt] at hz
    exact (c3 x hx hx2).2 (by omega)
  by_cases k1 : c < s ∧ c < t
  · refine ⟨c, hs, ht, c1, c2, fun x hx n1 n2 n3 => ?_⟩
    rcases key c c1 c2 (pg_ic_c s t c) x hx n1 n2 with q | ⟨q1, q2, q3⟩
    · exact Or.inl q
    · have := leastc x hx q2 q3
      exact Or.inr ⟨q1, fun _ _ => by omega, fun _ _ => by omega, fun _ _ => ⟨by omega, q2⟩⟩
  by_cases k2 : s < t
  · have ksc : s < c := by omega
    obtain ⟨r, r1, ⟨r2, r3, r4⟩, r5⟩ := pg_first (fun x => x < n ∧ 0 < pg_tn X Y s t x ∧ pg_ic X Y s t c x = 0) (fun x => X x - X t) (fun x => Y x - Y t) (X t - X s) (Y t - Y s) (fun x hx => by
      have e : (X t - X s) * (Y x - Y t) - (Y t - Y s) * (X x - X t) = pg_tn X Y s t x := by unfold pg_tn; grind
      show 0 < (X t - X s) * (Y x - Y t) - (Y t - Y s) * (X x - X t)
      rw [e]; exact hx.2.1) n ⟨c, c1, c1, c2, pg_ic_c s t c⟩
    have hcr := leastc r r2 r3 r4
    refine ⟨r, hs, ht, r2, r3, fun x hx n1 n2 n3 => ?_⟩
    rcases key r r2 r3 r4 x hx n1 n2 with q | ⟨q1, q2, q3⟩
    · exact Or.inl q
    · have hcx := leastc x hx q2 q3
      have g := r5 x hx ⟨hx, q2, q3⟩
      have e : (X r - X t) * (Y x - Y t) - (Y r - Y t) * (X x - X t) = pg_tn X Y t r x := rfl
      have nz := pg_cc ok ht r2 hx (show pg_tn X Y s t r ≠ 0 by omega) q1 n2 n3
      have g2 : 0 < pg_tn X Y t r x := by
        rw [e] at g
        omega
      exact Or.inr ⟨q1, fun _ _ => ⟨by omega, g2⟩, fun _ _ => by omega, fun _ _ => by omega⟩
  · have kts : t < s := by omega
    have ktc : t < c := by omega
    obtain ⟨r, r1, ⟨r2, r3, r4⟩, r5⟩ := pg_first (fun x => x < n ∧ 0 < pg_tn X Y s t x ∧ pg_ic X Y s t c x = 0) (fun x => X x - X s) (fun x => -(Y x - Y s)) (-(X t - X s)) (Y t - Y s) (fun x hx => by
      have e : (-(X t - X s)) * (-(Y x - Y s)) - (Y t - Y s) * (X x - X s) = pg_tn X Y s t x := by unfold pg_tn; grind
      show 0 < (-(X t - X s)) * (-(Y x - Y s)) - (Y t - Y s) * (X x - X s)
      rw [e]; exact hx.2.1) n ⟨c, c1, c1, c2, pg_ic_c s t c⟩
    have hcr := leastc r r2 r3 r4
    refine ⟨r, hs, ht, r2, r3, fun x hx n1 n2 n3 => ?_⟩
    rcases key r r2 r3 r4 x hx n1 n2 with q | ⟨q1, q2, q3⟩
    · exact Or.inl q
    · have hcx := leastc x hx q2 q3
      have g := r5 x hx ⟨hx, q2, q3⟩
      have e : (X r - X s) * (-(Y x - Y s)) - (-(Y r - Y s)) * (X x - X s) = pg_tn X Y r s x := by unfold pg_tn; grind
      have q4 : pg_ic X Y t r s x = 0 := by rw [pg_ic_rot]; exact q1
      have q5 : pg_tn X Y t r s ≠ 0 := by rw [pg_tn_rot]; omega
      have nz := pg_cc ok r2 hs hx q5 q4 n3 n1
      have g2 : 0 < pg_tn X Y r s x := by
        rw [e] at g
        omega
      exact Or.inr ⟨q1, fun _ _ => by omega, fun _ _ => ⟨by omega, g2⟩, fun _ _ => by omega⟩
theorem pg_DT_TR {p q r : Nat} (h : pg_DT n X Y p q r) : ∃ a b c, pg_TR n X Y (a, b, c) ∧ ∀ i, (i = p ∨ i = q ∨ i = r) → (i = a ∨ i = b ∨ i = c) := by
  obtain ⟨n1, n2, n3⟩ := pg_DT_ne h
  have h2 := pg_DT_rot h
  have h3 := pg_DT_rot h2
  by_cases c1 : p < q ∧ q < r
  · exact ⟨p, q, r, ⟨c1.1, c1.2, Or.inl h⟩, fun i hi => hi⟩
  by_cases c2 : q < r ∧ r < p
  · exact ⟨q, r, p, ⟨c2.1, c2.2, Or.inl h2⟩, fun i hi => by omega⟩
  by_cases c3 : r < p ∧ p < q
  · exact ⟨r, p, q, ⟨c3.1, c3.2, Or.inl h3⟩, fun i hi => by omega⟩
  by_cases c4 : p < r ∧ r < q
  · exact ⟨p, r, q, ⟨c4.1, c4.2, Or.inr h⟩, fun i hi => by omega⟩
  by_cases c5 : q < p ∧ p < r
  · exact ⟨q, p, r, ⟨c5.1, c5.2, Or.inr h2⟩, fun i hi => by omega⟩
  · exact ⟨r, q, p, ⟨by show r < q; omega, by show q < p; omega, Or.inr h3⟩, fun i hi => by omega⟩
/-- the nearest pair of two groups -/
theorem pg_pair (ok : pg_ok n X Y) {GR : Nat → Nat} (h : ∃ i j, i < n ∧ j < n ∧ GR i ≠ GR j) : ∃ s t, s < n ∧ t < n ∧ GR s ≠ GR t ∧ ∀ x, x < n → x ≠ s → x ≠ t → 0 < pg_dt X Y x s t := by
  obtain ⟨i, j, hi, hj, hij⟩ := h
  have hn : 0 < n := by omega
  obtain ⟨m, m1, m2⟩ := pg_min (fun k => if GR (k / n) ≠ GR (k % n) then pg_gp X Y (k / n) (k % n) else 1000000000000) (n * n) (Nat.mul_pos hn hn)
  have code : ∀ a b, a < n → b < n → a * n + b < n * n ∧ (a * n + b) / n = a ∧ (a * n + b) % n = b := fun a b ha hb => by
    have h1 : (a + 1) * n ≤ n * n := Nat.mul_le_mul_right n ha
    rw [Nat.add_mul, Nat.one_mul] at h1
    refine ⟨by omega, ?_, ?_⟩
    · rw [Nat.add_comm, Nat.add_mul_div_right _ _ hn, Nat.div_eq_of_lt hb, Nat.zero_add]
    · rw [Nat.add_comm, Nat.add_mul_mod_self_right, Nat.mod_eq_of_lt hb]
  have hs : m / n < n := Nat.div_lt_of_lt_mul m1
  have ht : m % n < n := Nat.mod_lt _ hn
  have gt : GR (m / n) ≠ GR (m % n) := by
    intro e
    obtain ⟨k1, k2, k3⟩ := code i j hi hj
    have := m2 _ k1
    rw [k2, k3, if_pos hij, if_neg (fun q => q e)] at this
    have g := pg_gp_b ok hi hj
    omega
  refine ⟨m / n, m % n, hs, ht, gt, fun x hx n1 n2 => ?_⟩
  have best : ∀ a b, a < n → b < n → GR a ≠ GR b → pg_gp X Y (m / n) (m % n) ≤ pg_gp X Y a b := fun a b ha hb hab => by
    obtain ⟨k1, k2, k3⟩ := code a b ha hb
    have := m2 _ k1
    rw [k2, k3, if_pos hab, if_pos gt] at this
    exact this
  generalize m / n = s at *
  generalize m % n = t at *
  have e : 2 * pg_dt X Y x s t = pg_gp X Y s x + pg_gp X Y x t - pg_gp X Y s t := by unfold pg_dt pg_gp; grind
  have p1 := pg_gp_pos ok hs hx (fun q => n1 q.symm)
  have p2 := pg_gp_pos ok hx ht n2
  by_cases g : GR x = GR s
  · have := best x t hx ht (by rw [g]; exact gt)
    omega
  · have := best s x hs hx (fun q => g q.symm)
    omega
theorem pg_line {s t p q r : Nat} (hst : ¬ (X t - X s = 0 ∧ Y t - Y s = 0)) (h1 : pg_tn X Y s t p = 0) (h2 : pg_tn X Y s t q = 0) (h3 : pg_tn X Y s t r = 0) : pg_tn X Y p q r = 0 := by
  have g := pg_sqp hst
  have i : pg_tn X Y p q r * ((X t - X s) * (X t - X s) + (Y t - Y s) * (Y t - Y s)) = ((X t - X s) * (X q - X p) + (Y t - Y s) * (Y q - Y p)) * (pg_tn X Y s t r - pg_tn X Y s t p) - ((X t - X s) * (X r - X p) + (Y t - Y s) * (Y r - Y p)) * (pg_tn X Y s t q - pg_tn X Y s t p) := by unfold pg_tn; grind
  rw [h1, h2, h3] at i
  exact pg_z_of_mul (by rw [i]; grind) g
/-- an edge between two groups, where there are triangles -/
theorem pg_edge (ok : pg_ok n X Y) {s t : Nat} (hs : s < n) (ht : t < n) (hst : s ≠ t) (hd : ∀ x, x < n → x ≠ s → x ≠ t → 0 < pg_dt X Y x s t) (hT : ∃ a b c, pg_TR n X Y (a, b, c)) : ∃ a b c, pg_TR n X Y (a, b, c) ∧ (s = a ∨ s = b ∨ s = c) ∧ (t = a ∨ t = b ∨ t = c) := by
  obtain ⟨a, b, c, hT⟩ := hT
  have hlt := pg_TR_lt hT
  have hne : pg_tn X Y a b c ≠ 0 := ((pg_Q_TR hlt.1 hlt.2.1 hlt.2.2).mpr hT).1
  have hst2 : ¬ (X t - X s = 0 ∧ Y t - Y s = 0) := fun q => hst (ok.2.2 s t hs ht (by omega) (by omega))
  have off : ∃ x, x < n ∧ pg_tn X Y s t x ≠ 0 := by
    apply Classical.byContradiction
    intro q
    have z : ∀ x, x < n → pg_tn X Y s t x = 0 := fun x hx => by
      apply Classical.byContradiction
      intro r
      exact q ⟨x, hx, r⟩
    exact hne (pg_line hst2 (z a (by omega)) (z b (by omega)) (z c hlt.2.2))
  obtain ⟨x, hx, hx2⟩ := off
  rcases Int.lt_or_gt_of_ne hx2 with g | g
  · have hd2 : ∀ x, x < n → x ≠ t → x ≠ s → 0 < pg_dt X Y x t s := fun x hx n1 n2 => by
      have := hd x hx n2 n1
      have e : pg_dt X Y x t s = pg_dt X Y x s t := by unfold pg_dt; grind
      omega
    have e := pg_tn_s12 (X := X) (Y := Y) s t x
    obtain ⟨r, hr⟩ := pg_del ok ht hs hd2 ⟨x, hx, by omega⟩
    obtain ⟨a', b', c', k1, k2⟩ := pg_DT_TR hr
    exact ⟨a', b', c', k1, k2 s (Or.inr (Or.inl rfl)), k2 t (Or.inl rfl)⟩
  · obtain ⟨r, hr⟩ := pg_del ok hs ht hd ⟨x, hx, g⟩
    obtain ⟨a', b', c', k1, k2⟩ := pg_DT_TR hr
    exact ⟨a', b', c', k1, k2 s (Or.inl rfl), k2 t (Or.inr (Or.inl rfl))⟩
end CN
