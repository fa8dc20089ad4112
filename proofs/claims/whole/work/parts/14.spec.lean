/-! what the parts of a state say of the sites -/
section PS
variable {X Y : Nat → Int} {n : Nat}
/-- no other site on the straight way from a to b -/
def pg_WF (n : Nat) (X Y : Nat → Int) (a b : Nat) : Prop := ∀ m, m < n → ¬ (pg_tn X Y a b m = 0 ∧ pg_dt X Y m a b < 0)
/-- a, b is a side of the whole, every site on it between them -/
def pg_RS (n : Nat) (X Y : Nat → Int) (a b : Nat) : Prop := ∀ m, m < n → 0 ≤ pg_tn X Y a b m ∧ ¬ (pg_tn X Y a b m = 0 ∧ 0 < pg_dt X Y m a b)
def pg_NR (n : Nat) (X Y : Nat → Int) (a b : Nat) : Prop := ∀ m, m < n → 0 ≤ pg_tn X Y a b m
/-- b follows a on the way round; nothing follows a -/
def pg_NX (n : Nat) (X Y : Nat → Int) (a b : Nat) : Prop := b < n ∧ b ≠ a ∧ pg_RS n X Y a b ∧ ∀ c, c < b → c ≠ a → ¬ pg_RS n X Y a c
def pg_NN (n : Nat) (X Y : Nat → Int) (a : Nat) : Prop := ∀ b, b < n → b ≠ a → ¬ pg_RS n X Y a b
theorem pg_NX_u {a b b' : Nat} (h : pg_NX n X Y a b) (h' : pg_NX n X Y a b') : b = b' := by
  rcases Nat.lt_trichotomy b b' with q | q | q
  · exact absurd h.2.2.1 (h'.2.2.2 b q h.2.1)
  · exact q
  · exact absurd h'.2.2.1 (h.2.2.2 b' q h'.2.1)
theorem pg_NX_NN {a b : Nat} (h : pg_NX n X Y a b) (h' : pg_NN n X Y a) : False := h' b h.1 h.2.1 h.2.2.1
def pg_cd (A B C : Nat → Nat) (t : Nat) : Nat := A t * 256 + B t * 16 + C t
/-- A, B, C number the triangles whose number in the order is below q, in this order -/
def pg_EN (n : Nat) (X Y : Nat → Int) (q tc : Nat) (A B C : Nat → Nat) : Prop := (∀ t, t < tc → pg_TR n X Y (A t, B t, C t) ∧ pg_cd A B C t < q) ∧ (∀ t, t + 1 < tc → pg_cd A B C t < pg_cd A B C (t + 1)) ∧ ∀ a b c, pg_TR n X Y (a, b, c) → a * 256 + b * 16 + c < q → ∃ t, t < tc ∧ A t = a ∧ B t = b ∧ C t = c
theorem pg_TR_lt {a b c : Nat} (h : pg_TR n X Y (a, b, c)) : a < b ∧ b < c ∧ c < n := by
  obtain ⟨h1, h2, h3⟩ := h
  refine ⟨h1, h2, ?_⟩
  rcases h3 with h3 | h3
  · exact h3.2.2.1
  · exact h3.2.1
theorem pg_EN_0 {A B C : Nat → Nat} : pg_EN n X Y 0 0 A B C := ⟨fun t h => absurd h (by omega), fun t h => absurd h (by omega), fun a b c _ h => absurd h (by omega)⟩
theorem pg_EN_jump {q q' tc : Nat} {A B C : Nat → Nat} (h : pg_EN n X Y q tc A B C) (hq : q ≤ q') (hn : ∀ a b c, a < b → b < c → c < n → a * 256 + b * 16 + c < q' → a * 256 + b * 16 + c < q) : pg_EN n X Y q' tc A B C :=
  ⟨fun t ht => ⟨(h.1 t ht).1, by have := (h.1 t ht).2; omega⟩, h.2.1, fun a b c hT hlt => by
    obtain ⟨k1, k2, k3⟩ := pg_TR_lt hT
    exact h.2.2 a b c hT (hn a b c k1 k2 k3 hlt)⟩
theorem pg_EN_no {a b c tc : Nat} {A B C : Nat → Nat} (hn : n ≤ 14) (hb : b < n) (hc : c < n) (h : pg_EN n X Y (a * 256 + b * 16 + c) tc A B C) (hT : ¬ pg_TR n X Y (a, b, c)) : pg_EN n X Y (a * 256 + b * 16 + (c + 1)) tc A B C :=
  ⟨fun t ht => ⟨(h.1 t ht).1, by have := (h.1 t ht).2; omega⟩, h.2.1, fun a' b' c' hT' hlt => by
    obtain ⟨k1, k2, k3⟩ := pg_TR_lt hT'
    by_cases e : a' * 256 + b' * 16 + c' < a * 256 + b * 16 + c
    · exact h.2.2 a' b' c' hT' e
    · have e1 : a' = a := by omega
      have e2 : b' = b := by omega
      have e3 : c' = c := by omega
      subst e1 e2 e3
      exact absurd hT' hT⟩
theorem pg_cd_mono {tc : Nat} {A B C : Nat → Nat} (h : ∀ t, t + 1 < tc → pg_cd A B C t < pg_cd A B C (t + 1)) : ∀ (j i : Nat), i < j → j < tc → pg_cd A B C i < pg_cd A B C j
  | 0, i, h1, _ => absurd h1 (by omega)
  | j + 1, i, h1, h2 => by
    have a := h j h2
    by_cases e : i = j
    · rw [e]; exact a
    · have := pg_cd_mono h j i (by omega) (by omega)
      omega
theorem pg_nd {tc : Nat} {A B C : Nat → Nat} (h : ∀ t, t + 1 < tc → pg_cd A B C t < pg_cd A B C (t + 1)) : ((List.range tc).map (fun t => (A t, B t, C t))).Nodup := by
  unfold List.Nodup
  rw [List.pairwise_map]
  refine List.Pairwise.imp_of_mem ?_ (List.pairwise_lt_range (n := tc))
  intro i j hi hj hij e
  have e1 := Prod.mk.inj e
  have e2 := Prod.mk.inj e1.2
  have := pg_cd_mono h j i hij (List.mem_range.mp hj)
  unfold pg_cd at this
  omega
theorem pg_EN_23 (ok : pg_ok n X Y) {q tc : Nat} {A B C : Nat → Nat} (h : pg_EN n X Y q tc A B C) : tc ≤ 23 := by
  have := pg_bound ok _ (pg_nd h.2.1) (fun t ht => by
    obtain ⟨i, h1, h2⟩ := List.mem_map.mp ht
    rw [← h2]
    exact (h.1 i (List.mem_range.mp h1)).1)
  rw [List.length_map, List.length_range] at this
  exact this
theorem pg_EN_add {a b c tc : Nat} {A B C : Nat → Nat} (hn : n ≤ 14) (hb : b < n) (hc : c < n) (h : pg_EN n X Y (a * 256 + b * 16 + c) tc A B C) (hT : pg_TR n X Y (a, b, c)) : pg_EN n X Y (a * 256 + b * 16 + (c + 1)) (tc + 1) (fun i => if i = tc then a else A i) (fun i => if i = tc then b else B i) (fun i => if i = tc then c else C i) := by
  have cd1 : pg_cd (fun i => if i = tc then a else A i) (fun i => if i = tc then b else B i) (fun i => if i = tc then c else C i) tc = a * 256 + b * 16 + c := by simp [pg_cd]
  have cd2 : ∀ t, t ≠ tc → pg_cd (fun i => if i = tc then a else A i) (fun i => if i = tc then b else B i) (fun i => if i = tc then c else C i) t = pg_cd A B C t := fun t ht => by simp [pg_cd, ht]
  refine ⟨fun t ht => ?_, fun t ht => ?_, fun a' b' c' hT' hlt => ?_⟩
  · by_cases e : t = tc
    · subst e
      refine ⟨by simpa using hT, ?_⟩
      rw [cd1]; omega
    · refine ⟨by simpa [e] using (h.1 t (by omega)).1, ?_⟩
      rw [cd2 t e]
      have := (h.1 t (by omega)).2
      omega
  · by_cases e : t + 1 = tc
    · rw [e, cd1, cd2 t (by omega)]
      exact (h.1 t (by omega)).2
    · rw [cd2 t (by omega), cd2 (t + 1) e]
      exact h.2.1 t (by omega)
  · obtain ⟨k1, k2, k3⟩ := pg_TR_lt hT'
    by_cases e : a' * 256 + b' * 16 + c' < a * 256 + b * 16 + c
    · obtain ⟨t, t1, t2, t3, t4⟩ := h.2.2 a' b' c' hT' e
      have n1 : t ≠ tc := by omega
      exact ⟨t, by omega, by simp [n1, t2], by simp [n1, t3], by simp [n1, t4]⟩
    · have e1 : a' = a := by omega
      have e2 : b' = b := by omega
      have e3 : c' = c := by omega
      exact ⟨tc, by omega, by simp [e1], by simp [e2], by simp [e3]⟩
theorem pg_EN_lt (ok : pg_ok n X Y) {a b c tc : Nat} {A B C : Nat → Nat} (hb : b < n) (hc : c < n) (h : pg_EN n X Y (a * 256 + b * 16 + c) tc A B C) (hT : pg_TR n X Y (a, b, c)) : tc < 23 := by
  have := pg_EN_23 ok (pg_EN_add ok.1 hb hc h hT)
  omega
/-- two full rows of the triangles are one -/
theorem pg_EN_u {tc tc' : Nat} {A B C A' B' C' : Nat → Nat} (hn : n ≤ 14) (h : pg_EN n X Y 4096 tc A B C) (h' : pg_EN n X Y 4096 tc' A' B' C') : tc = tc' ∧ ∀ t, t < tc → A t = A' t ∧ B t = B' t ∧ C t = C' t := by
  have key : ∀ (p q : Nat) (F G : Nat → Nat), (∀ j i, i < j → j < p → F i < F j) → (∀ j i, i < j → j < q → G i < G j) → (∀ i, i < p → ∃ j, j < q ∧ G j = F i) → (∀ j, j < q → ∃ i, i < p ∧ F i = G j) → ∀ t, (t < p → t < q ∧ F t = G t) ∧ (t < q → t < p ∧ F t = G t) := by
    intro p q F G mF mG iF iG t
    induction t using Nat.strongRecOn with
    | ind t ih =>
      constructor
      · intro ht
        obtain ⟨j, j1, j2⟩ := iF t ht
        rcases Nat.lt_trichotomy j t with e | e | e
        · have a := (ih j e).2 j1
          have b := mF t j e ht
          omega
        · subst e; exact ⟨j1, j2.symm⟩
        · have htq : t < q := by omega
          obtain ⟨i, i1, i2⟩ := iG t htq
          have g := mG j t e j1
          rcases Nat.lt_trichotomy i t with d | d | d
          · have a := (ih i d).1 i1
            have b := mG t i d htq
            omega
          · subst d; omega
          · have b := mF i t d i1
            omega
      · intro ht
        obtain ⟨i, i1, i2⟩ := iG t ht
        rcases Nat.lt_trichotomy i t with e | e | e
        · have a := (ih i e).1 i1
          have b := mG t i e ht
          omega
        · subst e; exact ⟨i1, i2⟩
        · have htp : t < p := by omega
          obtain ⟨j, j1, j2⟩ := iF t htp
          have g := mF i t e i1
          rcases Nat.lt_trichotomy j t with d | d | d
          · have a := (ih j d).2 j1
            have b := mF t j d htp
            omega
          · subst d; omega
          · have b := mG j t d j1
            omega
  have b16 : ∀ {a b c : Nat}, pg_TR n X Y (a, b, c) → a < 14 ∧ b < 14 ∧ c < 14 := fun hT => by
    have := pg_TR_lt hT
    omega
  have r := key tc tc' (pg_cd A B C) (pg_cd A' B' C') (pg_cd_mono h.2.1) (pg_cd_mono h'.2.1) (fun i hi => by
    obtain ⟨t, t1, t2, t3, t4⟩ := h'.2.2 _ _ _ (h.1 i hi).1 (h.1 i hi).2
    exact ⟨t, t1, by simp [pg_cd, t2, t3, t4]⟩) (fun i hi => by
    obtain ⟨t, t1, t2, t3, t4⟩ := h.2.2 _ _ _ (h'.1 i hi).1 (h'.1 i hi).2
    exact ⟨t, t1, by simp [pg_cd, t2, t3, t4]⟩)
  refine ⟨?_, fun t ht => ?_⟩
  · rcases Nat.lt_trichotomy tc tc' with e | e | e
    · have := ((r tc).2 e).1; omega
    · exact e
    · have := ((r tc').1 e).1; omega
  · obtain ⟨k1, k2⟩ := (r t).1 ht
    have a := b16 (h.1 t ht).1
    have b := b16 (h'.1 t k1).1
    unfold pg_cd at k2
    omega
end PS
