/-! the row of triangles packed; the tree's steps -/
section PT
variable {X Y : Nat → Int} {n : Nat}
def pg_ENT (n : Nat) (X Y : Nat → Int) (q tc : Nat) (TT : Nat → Nat) : Prop := ∃ A B C, pg_EN n X Y q tc A B C ∧ ∀ t, t < tc → TT t = A t + 16 * B t + 256 * C t
theorem pg_ENT_0 {TT : Nat → Nat} : pg_ENT n X Y 0 0 TT := ⟨fun _ => 0, fun _ => 0, fun _ => 0, pg_EN_0, fun t h => absurd h (by omega)⟩
theorem pg_ENT_jump {q q' tc : Nat} {TT : Nat → Nat} (h : pg_ENT n X Y q tc TT) (hq : q ≤ q') (hn : ∀ a b c, a < b → b < c → c < n → a * 256 + b * 16 + c < q' → a * 256 + b * 16 + c < q) : pg_ENT n X Y q' tc TT := by
  obtain ⟨A, B, C, h1, h2⟩ := h
  exact ⟨A, B, C, pg_EN_jump h1 hq hn, h2⟩
theorem pg_ENT_no {a b c tc : Nat} {TT : Nat → Nat} (hn : n ≤ 14) (hb : b < n) (hc : c < n) (h : pg_ENT n X Y (a * 256 + b * 16 + c) tc TT) (hT : ¬ pg_TR n X Y (a, b, c)) : pg_ENT n X Y (a * 256 + b * 16 + (c + 1)) tc TT := by
  obtain ⟨A, B, C, h1, h2⟩ := h
  exact ⟨A, B, C, pg_EN_no hn hb hc h1 hT, h2⟩
theorem pg_ENT_add {a b c tc : Nat} {TT : Nat → Nat} (hn : n ≤ 14) (hb : b < n) (hc : c < n) (h : pg_ENT n X Y (a * 256 + b * 16 + c) tc TT) (hT : pg_TR n X Y (a, b, c)) : pg_ENT n X Y (a * 256 + b * 16 + (c + 1)) (tc + 1) (fun i => if i = tc then a + 16 * b + 256 * c else TT i) := by
  obtain ⟨A, B, C, h1, h2⟩ := h
  refine ⟨_, _, _, pg_EN_add hn hb hc h1 hT, fun t ht => ?_⟩
  by_cases e : t = tc
  · simp [e]
  · simp only [if_neg e]
    exact h2 t (by omega)
theorem pg_ENT_lt (ok : pg_ok n X Y) {a b c tc : Nat} {TT : Nat → Nat} (hb : b < n) (hc : c < n) (h : pg_ENT n X Y (a * 256 + b * 16 + c) tc TT) (hT : pg_TR n X Y (a, b, c)) : tc < 23 := by
  obtain ⟨A, B, C, h1, h2⟩ := h
  exact pg_EN_lt ok hb hc h1 hT
set_option maxRecDepth 20000 in
theorem pg_ENT_A {tc a : Nat} {TT : Nat → Nat} (hn : n ≤ 14) (h : pg_ENT n X Y (a * 256) tc TT) : pg_ENT n X Y (a * 256 + (a + 1) * 16) tc TT := by
  refine pg_ENT_jump h ?_ ?_
  · omega
  · intro a' b' c' _ _ _ _
    omega
set_option maxRecDepth 20000 in
theorem pg_ENT_B {tc a b : Nat} {TT : Nat → Nat} (hn : n ≤ 14) (hb : b < n) (h : pg_ENT n X Y (a * 256 + b * 16) tc TT) : pg_ENT n X Y (a * 256 + b * 16 + (b + 1)) tc TT := by
  refine pg_ENT_jump h ?_ ?_
  · omega
  · intro a' b' c' _ _ _ _
    omega
set_option maxRecDepth 20000 in
theorem pg_ENT_C {tc a b : Nat} {TT : Nat → Nat} (hn : n ≤ 14) (h : pg_ENT n X Y (a * 256 + b * 16 + n) tc TT) : pg_ENT n X Y (a * 256 + (b + 1) * 16) tc TT := by
  refine pg_ENT_jump h ?_ ?_
  · omega
  · intro a' b' c' _ _ _ _
    omega
set_option maxRecDepth 20000 in
theorem pg_ENT_D {tc a : Nat} {TT : Nat → Nat} (hn : n ≤ 14) (h : pg_ENT n X Y (a * 256 + n * 16) tc TT) : pg_ENT n X Y ((a + 1) * 256) tc TT := by
  refine pg_ENT_jump h ?_ ?_
  · omega
  · intro a' b' c' _ _ _ _
    omega
set_option maxRecDepth 20000 in
theorem pg_ENT_E {tc : Nat} {TT : Nat → Nat} (hn : n ≤ 14) (h : pg_ENT n X Y (n * 256) tc TT) : pg_ENT n X Y 4096 tc TT := by
  refine pg_ENT_jump h ?_ ?_
  · omega
  · intro a' b' c' _ _ _ _
    omega
theorem pg_ENT_23 (ok : pg_ok n X Y) {q tc : Nat} {TT : Nat → Nat} (h : pg_ENT n X Y q tc TT) : tc ≤ 23 := by
  obtain ⟨A, B, C, h1, h2⟩ := h
  exact pg_EN_23 ok h1
/-- an edge's bit -/
def pg_EB (NB : Nat → Nat) (i j : Nat) : Prop := NB i / 2 ^ j % 2 = 1
theorem pg_EB_tb {NB : Nat → Nat} {i j : Nat} : pg_EB NB i j ↔ (NB i).testBit j = true := by
  unfold pg_EB
  rw [Nat.testBit_eq_decide_div_mod_eq]
  simp
theorem pg_EB_or {x j k : Nat} : (x ||| 2 ^ k) / 2 ^ j % 2 = 1 ↔ (x / 2 ^ j % 2 = 1 ∨ j = k) := by
  have h1 : (x ||| 2 ^ k).testBit j = (x.testBit j || (2 ^ k).testBit j) := Nat.testBit_or x (2 ^ k) j
  rw [Nat.testBit_two_pow] at h1
  rw [Nat.testBit_eq_decide_div_mod_eq, Nat.testBit_eq_decide_div_mod_eq] at h1
  constructor
  · intro h
    rw [h] at h1
    by_cases e : x / 2 ^ j % 2 = 1
    · exact Or.inl e
    · simp [e] at h1
      exact Or.inr h1.symm
  · intro h
    rcases h with h | h
    · simp [h] at h1; exact h1
    · simp [h] at h1; rw [h]; exact h1
/-- a pair that may be taken; the pair that is taken -/
def pg_CA (n : Nat) (E : Nat → Nat → Prop) (GR : Nat → Nat) (a b : Nat) : Prop := a < b ∧ b < n ∧ E a b ∧ GR a ≠ GR b
def pg_SEL (n : Nat) (X Y : Nat → Int) (E : Nat → Nat → Prop) (GR : Nat → Nat) (x y : Nat) : Prop := pg_CA n E GR x y ∧ ∀ a b, pg_CA n E GR a b → pg_gp X Y x y < pg_gp X Y a b ∨ (pg_gp X Y x y = pg_gp X Y a b ∧ x * 16 + y ≤ a * 16 + b)
theorem pg_SEL_u {E : Nat → Nat → Prop} {GR : Nat → Nat} {x y x' y' : Nat} (hn : n ≤ 14) (h : pg_SEL n X Y E GR x y) (h' : pg_SEL n X Y E GR x' y') : x = x' ∧ y = y' := by
  have a := h.2 x' y' h'.1
  have b := h'.2 x y h.1
  have c := h.1
  have d := h'.1
  unfold pg_CA at c d
  omega
theorem pg_SEL_c {E E' : Nat → Nat → Prop} {GR GR' : Nat → Nat} {x y : Nat} (hE : ∀ a b, a < n → b < n → (E a b ↔ E' a b)) (hG : ∀ i, i < n → GR i = GR' i) (h : pg_SEL n X Y E GR x y) : pg_SEL n X Y E' GR' x y := by
  have ca : ∀ a b, pg_CA n E GR a b ↔ pg_CA n E' GR' a b := fun a b => by
    unfold pg_CA
    constructor
    · rintro ⟨h1, h2, h3, h4⟩
      exact ⟨h1, h2, (hE a b (by omega) h2).mp h3, by rw [← hG a (by omega), ← hG b h2]; exact h4⟩
    · rintro ⟨h1, h2, h3, h4⟩
      exact ⟨h1, h2, (hE a b (by omega) h2).mpr h3, by rw [hG a (by omega), hG b h2]; exact h4⟩
  exact ⟨(ca x y).mp h.1, fun a b hab => h.2 a b ((ca a b).mpr hab)⟩
/-- the best pair so far: of those ahead of q -/
def pg_ST (n : Nat) (X Y : Nat → Int) (E : Nat → Nat → Prop) (GR : Nat → Nat) (q : Nat) (u v : Int32) (g : Int64) : Prop := (u = -1 ∧ v = -1 ∧ ∀ a b, pg_CA n E GR a b → q ≤ a * 16 + b) ∨ ∃ x y, u = nI x ∧ v = nI y ∧ g = lI (pg_gp X Y x y) ∧ pg_CA n E GR x y ∧ x * 16 + y < q ∧ ∀ a b, pg_CA n E GR a b → a * 16 + b < q → pg_gp X Y x y < pg_gp X Y a b ∨ (pg_gp X Y x y = pg_gp X Y a b ∧ x * 16 + y ≤ a * 16 + b)
theorem pg_ST_0 {E : Nat → Nat → Prop} {GR : Nat → Nat} {g : Int64} : pg_ST n X Y E GR 0 (-1) (-1) g := Or.inl ⟨rfl, rfl, fun a b _ => Nat.zero_le _⟩
theorem pg_ST_jump {E : Nat → Nat → Prop} {GR : Nat → Nat} {q q' : Nat} {u v : Int32} {g : Int64} (h : pg_ST n X Y E GR q u v g) (hq : q ≤ q') (hj : ∀ a b, a < b → b < n → a * 16 + b < q' → a * 16 + b < q) : pg_ST n X Y E GR q' u v g := by
  rcases h with ⟨h1, h2, h3⟩ | ⟨x, y, h1, h2, h3, h4, h5, h6⟩
  · refine Or.inl ⟨h1, h2, fun a b hab => ?_⟩
    have k := h3 a b hab
    have j := hj a b hab.1 hab.2.1
    omega
  · exact Or.inr ⟨x, y, h1, h2, h3, h4, by omega, fun a b hab hlt => h6 a b hab (hj a b hab.1 hab.2.1 hlt)⟩
theorem pg_ST_skip {E : Nat → Nat → Prop} {GR : Nat → Nat} {a b : Nat} {u v : Int32} {g : Int64} (hn : n ≤ 14) (hb : b < n) (h : pg_ST n X Y E GR (a * 16 + b) u v g) (hc : ¬ pg_CA n E GR a b) : pg_ST n X Y E GR (a * 16 + (b + 1)) u v g := by
  rcases h with ⟨h1, h2, h3⟩ | ⟨x, y, h1, h2, h3, h4, h5, h6⟩
  · refine Or.inl ⟨h1, h2, fun a' b' hab => ?_⟩
    have k := h3 a' b' hab
    by_cases e : a' * 16 + b' = a * 16 + b
    · have l := hab.2.1
      have e1 : a' = a := by omega
      have e2 : b' = b := by omega
      subst e1 e2
      exact absurd hab hc
    · omega
  · refine Or.inr ⟨x, y, h1, h2, h3, h4, by omega, fun a' b' hab hlt => ?_⟩
    by_cases e : a' * 16 + b' = a * 16 + b
    · have l := hab.2.1
      have e1 : a' = a := by omega
      have e2 : b' = b := by omega
      subst e1 e2
      exact absurd hab hc
    · exact h6 a' b' hab (by omega)
theorem pg_ST_keep (ok : pg_ok n X Y) {E : Nat → Nat → Prop} {GR : Nat → Nat} {a b : Nat} {u v : Int32} {g : Int64} (ha : a < n) (hb : b < n) (h : pg_ST n X Y E GR (a * 16 + b) u v g) (hu : ¬ u < 0) (hg : g ≤ lI (pg_gp X Y a b)) : pg_ST n X Y E GR (a * 16 + (b + 1)) u v g := by
  have hn := ok.1
  rcases h with ⟨h1, h2, h3⟩ | ⟨x, y, h1, h2, h3, h4, h5, h6⟩
  · exact absurd (by rw [h1]; decide) hu
  · refine Or.inr ⟨x, y, h1, h2, h3, h4, by omega, fun a' b' hab hlt => ?_⟩
    by_cases e : a' * 16 + b' = a * 16 + b
    · have l := hab.2.1
      have e1 : a' = a := by omega
      have e2 : b' = b := by omega
      subst e1 e2
      have hx : x < n := by have := h4.1; have := h4.2.1; omega
      have g1 := pg_gp_b ok hx h4.2.1
      have g2 := pg_gp_b ok ha hb
      rw [h3, lI_le (by omega) (by omega) (by omega) (by omega)] at hg
      omega
    · exact h6 a' b' hab (by omega)
theorem pg_ST_new (ok : pg_ok n X Y) {E : Nat → Nat → Prop} {GR : Nat → Nat} {a b : Nat} {u v : Int32} {g : Int64} (h : pg_ST n X Y E GR (a * 16 + b) u v g) (hc : pg_CA n E GR a b) (hu : u < 0 ∨ ¬ g ≤ lI (pg_gp X Y a b)) : pg_ST n X Y E GR (a * 16 + (b + 1)) (nI a) (nI b) (lI (pg_gp X Y a b)) := by
  have hn := ok.1
  have ha : a < n := by have := hc.1; have := hc.2.1; omega
  have hb : b < n := hc.2.1
  refine Or.inr ⟨a, b, rfl, rfl, rfl, hc, by omega, fun a' b' hab hlt => ?_⟩
  by_cases e : a' * 16 + b' = a * 16 + b
  · have l := hab.2.1
    have e1 : a' = a := by omega
    have e2 : b' = b := by omega
    subst e1 e2
    exact Or.inr ⟨rfl, Nat.le_refl _⟩
  · rcases h with ⟨h1, h2, h3⟩ | ⟨x, y, h1, h2, h3, h4, h5, h6⟩
    · have := h3 a' b' hab
      omega
    · have hx : x < n := by have := h4.1; have := h4.2.1; omega
      have g1 := pg_gp_b ok hx h4.2.1
      have g2 := pg_gp_b ok ha hb
      have k := h6 a' b' hab (by omega)
      rcases hu with hu | hu
      · exact absurd (h1 ▸ hu) (nI_pos (by omega))
      · rw [h3, lI_le (by omega) (by omega) (by omega) (by omega)] at hu
        omega
theorem pg_ST_fin {E : Nat → Nat → Prop} {GR : Nat → Nat} {u v : Int32} {g : Int64} (hn : n ≤ 14) (h : pg_ST n X Y E GR (n * 16) u v g) : (u = -1 ∧ ∀ a b, ¬ pg_CA n E GR a b) ∨ ∃ x y, u = nI x ∧ v = nI y ∧ pg_SEL n X Y E GR x y := by
  rcases h with ⟨h1, h2, h3⟩ | ⟨x, y, h1, h2, h3, h4, h5, h6⟩
  · refine Or.inl ⟨h1, fun a b hab => ?_⟩
    have k := h3 a b hab
    have := hab.1
    have := hab.2.1
    omega
  · refine Or.inr ⟨x, y, h1, h2, h4, fun a b hab => h6 a b hab ?_⟩
    have := hab.1
    have := hab.2.1
    omega
/-- the groups after the edges LS t, GT t for t below s were taken -/
def pg_gr (n : Nat) (LS GT : Nat → Nat) : Nat → Nat → Nat
  | 0, i => i
  | s + 1, i => if i < n ∧ pg_gr n LS GT s i = pg_gr n LS GT s (GT s) then pg_gr n LS GT s (LS s) else pg_gr n LS GT s i
def pg_tot (X Y : Nat → Int) (LS GT : Nat → Nat) : Nat → Int
  | 0 => 0
  | s + 1 => pg_tot X Y LS GT s + pg_gp X Y (LS s) (GT s)
/-- the first s edges of the tree -/
def pg_TS (n : Nat) (X Y : Nat → Int) (E : Nat → Nat → Prop) (LS GT : Nat → Nat) (s : Nat) : Prop := ∀ t, t < s → pg_SEL n X Y E (pg_gr n LS GT t) (LS t) (GT t)
theorem pg_gr_c {LS GT LS' GT' : Nat → Nat} : ∀ s, (∀ t, t < s → LS t = LS' t ∧ GT t = GT' t) → ∀ i, pg_gr n LS GT s i = pg_gr n LS' GT' s i
  | 0, _, _ => rfl
  | s + 1, h, i => by
    have ih := pg_gr_c s (fun t ht => h t (by omega))
    have e := h s (by omega)
    unfold pg_gr
    rw [ih i, ih (GT s), ih (LS s), e.1, e.2]
theorem pg_tot_c {LS GT LS' GT' : Nat → Nat} : ∀ s, (∀ t, t < s → LS t = LS' t ∧ GT t = GT' t) → pg_tot X Y LS GT s = pg_tot X Y LS' GT' s
  | 0, _ => rfl
  | s + 1, h => by
    have ih := pg_tot_c s (fun t ht => h t (by omega))
    have e := h s (by omega)
    unfold pg_tot
    rw [ih, e.1, e.2]
theorem pg_TS_u {E : Nat → Nat → Prop} {LS GT LS' GT' : Nat → Nat} (hn : n ≤ 14) : ∀ s, pg_TS n X Y E LS GT s → pg_TS n X Y E LS' GT' s → ∀ t, t < s → LS t = LS' t ∧ GT t = GT' t
  | 0, _, _ => fun t h => absurd h (by omega)
  | s + 1, h, h' => by
    have ih := pg_TS_u hn s (fun t ht => h t (by omega)) (fun t ht => h' t (by omega))
    intro t ht
    by_cases e : t = s
    · subst e
      exact pg_SEL_u hn (h t (by omega)) (pg_SEL_c (fun _ _ _ _ => Iff.rfl) (fun i _ => (pg_gr_c t ih i).symm) (h' t (by omega)))
    · exact ih t (by omega)
theorem pg_TS_add {E : Nat → Nat → Prop} {LS GT : Nat → Nat} {s x y : Nat} (h : pg_TS n X Y E LS GT s) (hs : pg_SEL n X Y E (pg_gr n LS GT s) x y) : pg_TS n X Y E (fun i => if i = s then x else LS i) (fun i => if i = s then y else GT i) (s + 1) := by
  intro t ht
  have c : ∀ u, u ≤ s → ∀ i, pg_gr n (fun i => if i = s then x else LS i) (fun i => if i = s then y else GT i) u i = pg_gr n LS GT u i := fun u hu => pg_gr_c u (fun v hv => by
    have : v ≠ s := by omega
    simp [this])
  refine pg_SEL_c (GR := pg_gr n LS GT t) (fun _ _ _ _ => Iff.rfl) (fun i _ => (c t (by omega) i).symm) ?_
  by_cases e : t = s
  · subst e
    simpa using hs
  · simp only [if_neg e]
    exact h t (by omega)
/-- as long as fewer than n - 1 edges are taken, there are two groups -/
theorem pg_gr_two {E : Nat → Nat → Prop} {LS GT : Nat → Nat} : ∀ s, s ≤ n → pg_TS n X Y E LS GT s → ∃ l : List Nat, l.Nodup ∧ n ≤ l.length + s ∧ ∀ v ∈ l, ∃ i, i < n ∧ pg_gr n LS GT s i = v
  | 0, _, _ => ⟨List.range n, List.nodup_range, by simp, fun v hv => ⟨v, List.mem_range.mp hv, rfl⟩⟩
  | s + 1, hs, h => by
    obtain ⟨l, nd, hl, hv⟩ := pg_gr_two s (by omega) (fun t ht => h t (by omega))
    have hsel := (h s (by omega)).1
    refine ⟨l.erase (pg_gr n LS GT s (GT s)), nd.erase _, ?_, fun v hm => ?_⟩
    · have : l.length - 1 ≤ (l.erase (pg_gr n LS GT s (GT s))).length := by
        rw [List.length_erase]
        split <;> omega
      omega
    · obtain ⟨k1, k2⟩ := nd.mem_erase_iff.mp hm
      obtain ⟨i, i1, i2⟩ := hv v k2
      refine ⟨i, i1, ?_⟩
      unfold pg_gr
      rw [if_neg (fun q => k1 (by rw [← i2]; exact q.2))]
      exact i2
theorem pg_TS_more {E : Nat → Nat → Prop} {LS GT : Nat → Nat} {s : Nat} (hs : s + 1 < n) (h : pg_TS n X Y E LS GT s) : ∃ i j, i < n ∧ j < n ∧ pg_gr n LS GT s i ≠ pg_gr n LS GT s j := by
  obtain ⟨l, nd, hl, hv⟩ := pg_gr_two s (by omega) h
  match l, nd, hl, hv with
  | [], _, hl, _ => simp at hl; omega
  | [_], _, hl, _ => simp at hl; omega
  | a :: b :: l, nd, _, hv =>
    obtain ⟨i, i1, i2⟩ := hv a List.mem_cons_self
    obtain ⟨j, j1, j2⟩ := hv b (List.mem_cons_of_mem _ List.mem_cons_self)
    refine ⟨i, j, i1, j1, fun e => ?_⟩
    rw [i2, j2] at e
    exact (List.nodup_cons.mp nd).1 (e ▸ List.mem_cons_self)
/-- the corners from f on, one behind the other, k of them -/
def pg_CH (n : Nat) (X Y : Nat → Int) (f k : Nat) (RG : Nat → Nat) : Prop := (0 < k → RG 0 = f) ∧ (∀ i, i < k → RG i < n) ∧ ∀ i, i + 1 < k → pg_NX n X Y (RG i) (RG (i + 1)) ∧ RG (i + 1) ≠ f
end PT
