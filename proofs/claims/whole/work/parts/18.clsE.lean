/-! the class: edges and ring -/
section CE
variable {l : Launch} {D : va_G} {ad : Nat → Nat} {cI cJ : ClassId} {n tc rc kc : Nat} {X Y : Nat → Int} {TT NB RG KT GR : Nat → Nat} {tl : Int}
theorem pg_WF_s {n : Nat} {X Y : Nat → Int} {a b : Nat} (h : pg_WF n X Y a b) : pg_WF n X Y b a := fun m hm q => h m hm ⟨by have := pg_tn_s12 (X := X) (Y := Y) a b m; omega, by
  have e : pg_dt X Y m b a = pg_dt X Y m a b := by unfold pg_dt; grind
  rw [← e]; exact q.2⟩
theorem pg_NB2 {NB : Nat → Nat} {a b i j : Nat} (hab : a ≠ b) : pg_EB (fun i => if i = b then NB b ||| 2 ^ a else if i = a then NB a ||| 2 ^ b else NB i) i j ↔ (pg_EB NB i j ∨ (i = a ∧ j = b) ∨ (i = b ∧ j = a)) := by
  unfold pg_EB
  dsimp only
  by_cases h1 : i = b
  · subst h1
    have h2 : i ≠ a := fun e => hab e.symm
    rw [if_pos rfl, pg_EB_or]
    omega
  · rw [if_neg h1]
    by_cases h2 : i = a
    · subst h2
      rw [if_pos rfl, pg_EB_or]
      omega
    · rw [if_neg h2]
      omega
theorem pg_NB2_b {NB : Nat → Nat} {n a b : Nat} (hn : n ≤ 14) (ha : a < n) (hb : b < n) (h : ∀ i, i < n → NB i < 2 ^ n) : ∀ i, i < n → (fun i => if i = b then NB b ||| 2 ^ a else if i = a then NB a ||| 2 ^ b else NB i) i < 2 ^ n := by
  intro i hi
  have pa : 2 ^ a < 2 ^ n := Nat.pow_lt_pow_right (by decide) (by omega)
  have pb : 2 ^ b < 2 ^ n := Nat.pow_lt_pow_right (by decide) (by omega)
  show (if i = b then NB b ||| 2 ^ a else if i = a then NB a ||| 2 ^ b else NB i) < 2 ^ n
  split
  · exact Nat.or_lt_two_pow (h b hb) pa
  · split
    · exact Nat.or_lt_two_pow (h a ha) pb
    · exact h i hi
/-- the edges along a line, of the pairs ahead of q -/
def pg_JL (n : Nat) (X Y : Nat → Int) (q : Nat) (NB : Nat → Nat) : Prop := (∀ i, i < n → NB i < 2 ^ n) ∧ ∀ i j, i < n → j < n → (pg_EB NB i j ↔ (i ≠ j ∧ pg_WF n X Y i j ∧ (i < j → i * 16 + j < q) ∧ (j < i → j * 16 + i < q)))
theorem pg_JL_0 {n : Nat} {X Y : Nat → Int} {NB : Nat → Nat} (h : ∀ i, i < n → NB i < 2 ^ n) (hz : ∀ i j, i < n → j < n → ¬ pg_EB NB i j) : pg_JL n X Y 0 NB := ⟨h, fun i j hi hj => ⟨fun q => absurd q (hz i j hi hj), fun ⟨q1, _, q2, q3⟩ => by omega⟩⟩
theorem pg_JL_jump {n : Nat} {X Y : Nat → Int} {NB : Nat → Nat} {q q' : Nat} (h : pg_JL n X Y q NB) (hq : q ≤ q') (hj : ∀ i j, i < j → j < n → i * 16 + j < q' → i * 16 + j < q) : pg_JL n X Y q' NB := by
  refine ⟨h.1, fun i j hi hj' => ?_⟩
  rw [h.2 i j hi hj']
  constructor
  · rintro ⟨a, b, c, d⟩
    exact ⟨a, b, fun e => by have := c e; omega, fun e => by have := d e; omega⟩
  · rintro ⟨a, b, c, d⟩
    exact ⟨a, b, fun e => hj i j e hj' (c e), fun e => hj j i e hi (d e)⟩
theorem pg_JL_no {n : Nat} {X Y : Nat → Int} {NB : Nat → Nat} {a b : Nat} (hn : n ≤ 14) (h : pg_JL n X Y (a * 16 + b) NB) (hb : b < n) (hw : ¬ pg_WF n X Y a b) : pg_JL n X Y (a * 16 + (b + 1)) NB := by
  refine ⟨h.1, fun i j hi hj => ?_⟩
  rw [h.2 i j hi hj]
  constructor
  · rintro ⟨a, b, c, d⟩
    exact ⟨a, b, fun e => by have := c e; omega, fun e => by have := d e; omega⟩
  · rintro ⟨n1, w, c, d⟩
    refine ⟨n1, w, fun e => ?_, fun e => ?_⟩
    · have k := c e
      by_cases z : i * 16 + j = a * 16 + b
      · have e1 : i = a := by omega
        have e2 : j = b := by omega
        subst e1 e2
        exact absurd w hw
      · omega
    · have k := d e
      by_cases z : j * 16 + i = a * 16 + b
      · have e1 : j = a := by omega
        have e2 : i = b := by omega
        subst e1 e2
        exact absurd (pg_WF_s w) hw
      · omega
theorem pg_JL_add {n : Nat} {X Y : Nat → Int} {NB : Nat → Nat} {a b : Nat} (hn : n ≤ 14) (h : pg_JL n X Y (a * 16 + b) NB) (hab : a < b) (hb : b < n) (hw : pg_WF n X Y a b) : pg_JL n X Y (a * 16 + (b + 1)) (fun i => if i = b then NB b ||| 2 ^ a else if i = a then NB a ||| 2 ^ b else NB i) := by
  refine ⟨pg_NB2_b hn (by omega) hb h.1, fun i j hi hj => ?_⟩
  rw [pg_NB2 (by omega), h.2 i j hi hj]
  constructor
  · rintro (⟨a', b', c, d⟩ | ⟨e1, e2⟩ | ⟨e1, e2⟩)
    · exact ⟨a', b', fun e => by have := c e; omega, fun e => by have := d e; omega⟩
    · subst e1 e2
      exact ⟨by omega, hw, by omega, by omega⟩
    · subst e1 e2
      exact ⟨by omega, pg_WF_s hw, by omega, by omega⟩
  · rintro ⟨n1, w, c, d⟩
    by_cases z1 : i = a ∧ j = b
    · exact Or.inr (Or.inl z1)
    by_cases z2 : i = b ∧ j = a
    · exact Or.inr (Or.inr z2)
    exact Or.inl ⟨n1, w, fun e => by have := c e; omega, fun e => by have := d e; omega⟩
/-- site i is a corner of triangle t -/
def pg_C (TT : Nat → Nat) (t i : Nat) : Prop := TT t % 16 = i ∨ TT t / 16 % 16 = i ∨ TT t / 256 % 16 = i
/-- edges of the triangles below k -/
def pg_JT (n : Nat) (TT : Nat → Nat) (k : Nat) (NB : Nat → Nat) : Prop := (∀ i, i < n → NB i < 2 ^ n) ∧ ∀ i j, i < n → j < n → (pg_EB NB i j ↔ (i ≠ j ∧ ∃ t, t < k ∧ pg_C TT t i ∧ pg_C TT t j))
theorem pg_EB_0 {NB : Nat → Nat} {i : Nat} (h : NB i = 0) (j : Nat) : ¬ pg_EB NB i j := by
  unfold pg_EB
  rw [h, Nat.zero_div]
  decide
theorem pg_JT_0 {n : Nat} {TT NB : Nat → Nat} (h : ∀ i, i < n → NB i = 0) : pg_JT n TT 0 NB := ⟨fun i hi => by rw [h i hi]; exact Nat.two_pow_pos n, fun i j hi hj => ⟨fun q => absurd q (pg_EB_0 (h i hi) j), fun ⟨_, t, ht, _⟩ => absurd ht (by omega)⟩⟩
theorem pg_JT_add {n k a b c : Nat} {TT NB : Nat → Nat} (hn : n ≤ 14) (h : pg_JT n TT k NB) (hab : a < b) (hbc : b < c) (hc : c < n) (hT : TT k = a + 16 * b + 256 * c) {N1 N2 N3 : Nat → Nat}
    (e1 : N1 = fun i => if i = b then NB b ||| 2 ^ a else if i = a then NB a ||| 2 ^ b else NB i) (e2 : N2 = fun i => if i = c then N1 c ||| 2 ^ b else if i = b then N1 b ||| 2 ^ c else N1 i) (e3 : N3 = fun i => if i = c then N2 c ||| 2 ^ a else if i = a then N2 a ||| 2 ^ c else N2 i) : pg_JT n TT (k + 1) N3 := by
  subst e3
  refine ⟨pg_NB2_b hn (by omega) hc ?_, fun i j hi hj => ?_⟩
  · subst e2
    refine pg_NB2_b hn (by omega) hc ?_
    subst e1
    exact pg_NB2_b hn (by omega) (by omega) h.1
  · rw [pg_NB2 (by omega)]
    subst e2
    rw [pg_NB2 (by omega)]
    subst e1
    rw [pg_NB2 (by omega), h.2 i j hi hj]
    have cor : ∀ i, pg_C TT k i ↔ (i = a ∨ i = b ∨ i = c) := fun i => by
      unfold pg_C
      have q1 : (a + 16 * b + 256 * c) % 16 = a := by omega
      have q2 : (a + 16 * b + 256 * c) / 16 % 16 = b := by omega
      have q3 : (a + 16 * b + 256 * c) / 256 % 16 = c := by omega
      rw [hT, q1, q2, q3]
      omega
    constructor
    · rintro (((⟨n1, t, t1, t2⟩ | q) | q) | q)
      · exact ⟨n1, t, by omega, t2⟩
      · exact ⟨by omega, k, by omega, (cor i).mpr (by omega), (cor j).mpr (by omega)⟩
      · exact ⟨by omega, k, by omega, (cor i).mpr (by omega), (cor j).mpr (by omega)⟩
      · exact ⟨by omega, k, by omega, (cor i).mpr (by omega), (cor j).mpr (by omega)⟩
    · rintro ⟨n1, t, t1, t2, t3⟩
      by_cases e : t = k
      · subst e
        have q1 := (cor i).mp t2
        have q2 := (cor j).mp t3
        by_cases z1 : (i = a ∧ j = c) ∨ (i = c ∧ j = a)
        · exact Or.inr z1
        by_cases z2 : (i = b ∧ j = c) ∨ (i = c ∧ j = b)
        · exact Or.inl (Or.inr z2)
        exact Or.inl (Or.inl (Or.inr (by omega)))
      · exact Or.inl (Or.inl (Or.inl ⟨n1, t, by omega, t2, t3⟩))
/-- what an edge is -/
def pg_ED (n : Nat) (X Y : Nat → Int) (tc : Nat) (TT : Nat → Nat) (i j : Nat) : Prop := i ≠ j ∧ ((0 < tc ∧ ∃ t, t < tc ∧ pg_C TT t i ∧ pg_C TT t j) ∨ (tc = 0 ∧ pg_WF n X Y i j))
def pg_NBs (n : Nat) (X Y : Nat → Int) (tc : Nat) (TT NB : Nat → Nat) : Prop := (∀ i, i < n → NB i < 2 ^ n) ∧ ∀ i j, i < n → j < n → (pg_EB NB i j ↔ pg_ED n X Y tc TT i j)
theorem pg_NBs_T {n tc : Nat} {X Y : Nat → Int} {TT NB : Nat → Nat} (h : pg_JT n TT tc NB) (ht : tc ≠ 0) : pg_NBs n X Y tc TT NB := ⟨h.1, fun i j hi hj => by
  rw [h.2 i j hi hj]
  unfold pg_ED
  constructor
  · exact fun ⟨a, b⟩ => ⟨a, Or.inl ⟨by omega, b⟩⟩
  · rintro ⟨a, ⟨_, b⟩ | ⟨b, _⟩⟩
    · exact ⟨a, b⟩
    · exact absurd b ht⟩
theorem pg_NBs_L {n : Nat} {X Y : Nat → Int} {TT NB : Nat → Nat} (hn : n ≤ 14) (h : pg_JL n X Y (n * 16) NB) : pg_NBs n X Y 0 TT NB := ⟨h.1, fun i j hi hj => by
  rw [h.2 i j hi hj]
  unfold pg_ED
  constructor
  · exact fun ⟨a, b, _⟩ => ⟨a, Or.inr ⟨rfl, b⟩⟩
  · rintro ⟨a, ⟨b, _⟩ | ⟨_, b⟩⟩
    · exact absurd b (by omega)
    · exact ⟨a, b, by omega, by omega⟩⟩
abbrev rmX0_joinAlongLine : Room := { frames := 3, cells := 0, slots := 0, locals := 67 }
theorem inwX0_joinAlongLine : ∀ w ∈ wsX00, w ∈ wsX0_joinAlongLine := fun _ h => List.mem_cons_of_mem _ (List.mem_append_right _ h)
set_option maxRecDepth 20000 in
theorem flX0_joinAlongLine_16 : Cond.fieldLink RX0 16 RX0 (TX0 2).2.1 (TX0 2).2.2.1 ∈ wsX0_joinAlongLine := by decide +kernel
set_option maxRecDepth 20000 in
set_option maxHeartbeats 4000000 in
theorem mtX0_joinAlongLine (SB : pg_ok n X Y) (hNB : ∀ i, i < n → NB i < 2 ^ n) (hz : ∀ i j, i < n → j < n → ¬ pg_EB NB i j) : gz_Kv l yX0_joinAlongLine wsX0_joinAlongLine rmX0_joinAlongLine D [(cI, .int), (cJ, .long)] [.ref (ad 0)] (wC ad cI n X Y tc TT NB RG rc KT kc tl GR) (fun w1 => ∃ NB, w1 = (wC ad cI n X Y tc TT NB RG rc KT kc tl GR) ∧ pg_JL n X Y (n * 16) NB) := by
  refine gz_ofv (cc := cX0_joinAlongLine) (maxL := 3) (own := RX0) (by decide +kernel) rfl rfl rfl (Nat.le_of_ble_eq_true rfl) ?_
  intro z E ret
  have hn := SB.1
  show gz_G z _ 0 [(0, .ref (ad 0))] []
  have loopA : ∀ (f a : Nat) (NB : Nat → Nat), n < f + a → a ≤ n → pg_JL n X Y (a * 16) NB → gz_G z (wC ad cI n X Y tc TT NB RG rc KT kc tl GR) 2 [(0, .ref (ad 0)), (1, .int (nI a))] [] := by
    intro f
    induction f with
    | zero => intro a NB h1 h2; exact absurd h1 (by omega)
    | succ f ihA =>
      intro a NB h1 h2 hE
      have loopB : a < n → ∀ (g b : Nat) (NB : Nat → Nat), n < g + b → a < b → b ≤ n → pg_JL n X Y (a * 16 + b) NB → gz_G z (wC ad cI n X Y tc TT NB RG rc KT kc tl GR) 14 [(0, .ref (ad 0)), (1, .int (nI a)), (2, .int (nI b))] [] := by
        intro han g
        induction g with
        | zero => intro b NB g1 g2 g3; exact absurd g1 (by omega)
        | succ g ihB =>
          intro b NB g1 g2 g3 hE
          refine gz_iload_n E dX0_joinAlongLine_14 rfl rfl ?_
          refine gz_aload_n E dX0_joinAlongLine_15 rfl rfl ?_
          refine gz_get E inwX0_joinAlongLine 0 2 dX0_joinAlongLine_16 flX0_joinAlongLine_16 rfl rfl (by decide) rfl rfl ?_
          refine gz_icN_ge (tgt := 43) E dX0_joinAlongLine_19 (by decide) (by omega) (by omega) (fun q19 => ?_) (fun q19 => ?_)
          · skip
            refine gz_iinc (lv' := [(0, _), (1, _), (2, _)]) E dX0_joinAlongLine_43 rfl (gz_nI1 _) (by decide) rfl ?_
            refine gz_goto (tgt := 2) E dX0_joinAlongLine_46 (by decide) ?_
            refine gz_sub (lv' := [(0, _), (1, _)]) [0, 1] rfl ?_
            have e : b = n := by omega
            subst e
            exact ihA (a + 1) _ (by omega) (by omega) (pg_JL_jump hE (by omega) (fun i j _ _ _ => by omega))
          · skip
            have ha : a < n := by omega
            have hb : b < n := by omega
            refine gz_aload_n E dX0_joinAlongLine_22 rfl rfl ?_
            refine gz_iload_n E dX0_joinAlongLine_23 rfl rfl ?_
            refine gz_iload_n E dX0_joinAlongLine_24 rfl rfl ?_
            refine gz_cali (n := 2) E 0 dX0_joinAlongLine_25 gX0_joinAlongLine_X0_isWayFree (mtX0_isWayFree SB (by assumption) (by assumption)) rfl rfl ⟨rfl, rfl⟩ (by decide +kernel) ⟨Nat.le_of_ble_eq_true rfl, Nat.le_of_ble_eq_true rfl⟩ rfl rfl rfl rfl (Nat.le_of_ble_eq_true rfl) (fun r25 w25 hr25 => ?_)
            obtain ⟨hr25, rfl⟩ := hr25
            refine gz_ifB_eq (tgt := 37) E hr25 dX0_joinAlongLine_28 (by decide) (fun q28 => ?_) (fun q28 => ?_)
            · skip
              refine gz_iinc (lv' := [(0, _), (1, _), (2, _)]) E dX0_joinAlongLine_37 rfl (gz_nI1 _) (by decide) rfl ?_
              refine gz_goto (tgt := 14) E dX0_joinAlongLine_40 (by decide) ?_
              first | exact ihB (b + 1) _ (by omega) (by omega) (by omega) (pg_JL_add hn hE (by omega) (by omega) q28) | exact ihB (b + 1) _ (by omega) (by omega) (by omega) (pg_JL_no hn hE (by omega) q28)
            · skip
              refine gz_aload_n E dX0_joinAlongLine_31 rfl rfl ?_
              refine gz_iload_n E dX0_joinAlongLine_32 rfl rfl ?_
              refine gz_iload_n E dX0_joinAlongLine_33 rfl rfl ?_
              refine gz_calv (n := 2) E 0 dX0_joinAlongLine_34 gX0_joinAlongLine_X0_join (mtX0_join hn (by assumption) (by assumption) (by omega)) rfl rfl ⟨rfl, rfl⟩ (by decide +kernel) ⟨Nat.le_of_ble_eq_true rfl, Nat.le_of_ble_eq_true rfl⟩ rfl rfl rfl rfl (Nat.le_of_ble_eq_true rfl) (fun w34 hr34 => ?_)
              subst hr34
              refine gz_iinc (lv' := [(0, _), (1, _), (2, _)]) E dX0_joinAlongLine_37 rfl (gz_nI1 _) (by decide) rfl ?_
              refine gz_goto (tgt := 14) E dX0_joinAlongLine_40 (by decide) ?_
              first | exact ihB (b + 1) _ (by omega) (by omega) (by omega) (pg_JL_add hn hE (by omega) (by omega) q28) | exact ihB (b + 1) _ (by omega) (by omega) (by omega) (pg_JL_no hn hE (by omega) q28)
      refine gz_iload_n E dX0_joinAlongLine_2 rfl rfl ?_
      refine gz_aload_n E dX0_joinAlongLine_3 rfl rfl ?_
      refine gz_get E inwX0_joinAlongLine 0 2 dX0_joinAlongLine_4 flX0_joinAlongLine_16 rfl rfl (by decide) rfl rfl ?_
      refine gz_icN_ge (tgt := 49) E dX0_joinAlongLine_7 (by decide) (by omega) (by omega) (fun q7 => ?_) (fun q7 => ?_)
      · skip
        have e : a = n := by omega
        subst e
        exact ret _ _ _ dX0_joinAlongLine_49 ⟨NB, rfl, hE⟩
      · skip
        refine gz_iload_n E dX0_joinAlongLine_10 rfl rfl ?_
        refine gz_iconst (v := nI 1) E dX0_joinAlongLine_11 (by decide) ?_
        refine gz_iaddN E dX0_joinAlongLine_12 ?_
        refine gz_istore_n (lv' := [(0, _), (1, _), (2, _)]) E dX0_joinAlongLine_13 rfl (by decide) rfl ?_
        exact loopB (by omega) (n + 1) (a + 1) _ (by omega) (by omega) (by omega) (pg_JL_jump hE (by omega) (fun i j _ _ _ => by omega))
  refine gz_iconst (v := nI 0) E dX0_joinAlongLine_0 (by decide) ?_
  refine gz_istore_n (lv' := [(0, _), (1, _)]) E dX0_joinAlongLine_1 rfl (by decide) rfl ?_
  exact loopA (n + 1) 0 _ (by omega) (by omega) (by rw [Nat.zero_mul]; exact pg_JL_0 hNB hz)
abbrev rmX0_findEdges : Room := { frames := 4, cells := 0, slots := 0, locals := 89 }
theorem inwX0_findEdges : ∀ w ∈ wsX00, w ∈ wsX0_findEdges := fun _ h => List.mem_cons_of_mem _ (List.mem_append_right _ h)
set_option maxRecDepth 20000 in
theorem flX0_findEdges_23 : Cond.fieldLink RX0 23 RX0 (TX0 4).2.1 (TX0 4).2.2.1 ∈ wsX0_findEdges := by decide +kernel
set_option maxRecDepth 20000 in
theorem flX0_findEdges_16 : Cond.fieldLink RX0 16 RX0 (TX0 2).2.1 (TX0 2).2.2.1 ∈ wsX0_findEdges := by decide +kernel
set_option maxRecDepth 20000 in
theorem flX0_findEdges_26 : Cond.fieldLink RX0 26 RX0 (TX0 5).2.1 (TX0 5).2.2.1 ∈ wsX0_findEdges := by decide +kernel
set_option maxRecDepth 20000 in
set_option maxHeartbeats 4000000 in
theorem mtX0_findEdges (SB : pg_ok n X Y) (ht : tc ≤ 23) (hT : ∀ t, t < tc → ∃ a b c, a < b ∧ b < c ∧ c < n ∧ TT t = a + 16 * b + 256 * c) : gz_Kv l yX0_findEdges wsX0_findEdges rmX0_findEdges D [(cI, .int), (cJ, .long)] [.ref (ad 0)] (wC ad cI n X Y tc TT NB RG rc KT kc tl GR) (fun w1 => ∃ NB, w1 = (wC ad cI n X Y tc TT NB RG rc KT kc tl GR) ∧ pg_NBs n X Y tc TT NB) := by
  refine gz_ofv (cc := cX0_findEdges) (maxL := 5) (own := RX0) (by decide +kernel) rfl rfl rfl (Nat.le_of_ble_eq_true rfl) ?_
  intro z E ret
  have hn := SB.1
  show gz_G z _ 0 [(0, .ref (ad 0))] []
  have loopA : ∀ (f a : Nat) (NB : Nat → Nat), n < f + a → a ≤ n → (∀ i, i < a → NB i = 0) → gz_G z (wC ad cI n X Y tc TT NB RG rc KT kc tl GR) 2 [(0, .ref (ad 0)), (1, .int (nI a))] [] := by
    intro f
    induction f with
    | zero => intro a NB h1 h2; exact absurd h1 (by omega)
    | succ f ihA =>
      intro a NB h1 h2 hE
      have loopB : (∀ i, i < n → NB i = 0) → ∀ (g k : Nat) (NB : Nat → Nat), tc < g + k → k ≤ tc → pg_JT n TT k NB → gz_G z (wC ad cI n X Y tc TT NB RG rc KT kc tl GR) 25 [(0, .ref (ad 0)), (1, .int (nI k))] [] := by
        intro hz0 g
        induction g with
        | zero => intro k NB g1 g2; exact absurd g1 (by omega)
        | succ g ihB =>
          intro k NB g1 g2 hE
          refine gz_iload_n E dX0_findEdges_25 rfl rfl ?_
          refine gz_aload_n E dX0_findEdges_26 rfl rfl ?_
          refine gz_get E inwX0_findEdges 0 4 dX0_findEdges_27 flX0_findEdges_23 rfl rfl (by decide) rfl rfl ?_
          refine gz_icN_ge (tgt := 81) E dX0_findEdges_30 (by decide) (by omega) (by omega) (fun q30 => ?_) (fun q30 => ?_)
          · skip
            refine gz_aload_n E dX0_findEdges_81 rfl rfl ?_
            refine gz_get E inwX0_findEdges 0 4 dX0_findEdges_82 flX0_findEdges_23 rfl rfl (by decide) rfl rfl ?_
            refine gz_ifN_ne (tgt := 92) E dX0_findEdges_85 (by decide) (by omega) (fun q85 => ?_) (fun q85 => ?_)
            · skip
              have e : k = tc := by omega
              subst e
              first | exact ret _ _ _ dX0_findEdges_92 ⟨_, rfl, pg_NBs_T hE q85⟩ | (subst q85; exact ret _ _ _ dX0_findEdges_92 ⟨_, rfl, pg_NBs_L hn hJ89⟩)
            · skip
              have e0 : k = 0 := by omega
              refine gz_aload_n E dX0_findEdges_88 rfl rfl ?_
              refine gz_calv (n := 0) E 0 dX0_findEdges_89 gX0_findEdges_X0_joinAlongLine (mtX0_joinAlongLine SB hE.1 (fun i j hi hj q => by obtain ⟨-, t, ht, -⟩ := (hE.2 i j hi hj).mp q; omega)) rfl rfl ⟨rfl, rfl⟩ (by decide +kernel) ⟨Nat.le_of_ble_eq_true rfl, Nat.le_of_ble_eq_true rfl⟩ rfl rfl rfl rfl (Nat.le_of_ble_eq_true rfl) (fun w89 hr89 => ?_)
              obtain ⟨NB, rfl, hJ89⟩ := hr89
              have e : k = tc := by omega
              subst e
              first | exact ret _ _ _ dX0_findEdges_92 ⟨_, rfl, pg_NBs_T hE q85⟩ | (subst q85; exact ret _ _ _ dX0_findEdges_92 ⟨_, rfl, pg_NBs_L hn hJ89⟩)
          · skip
            have hk : k < tc := by omega
            obtain ⟨a, b, c, hab, hbc, hc, hTk⟩ := hT k hk
            have h4 : TT k < 4096 := by omega
            have ha : a < n := by omega
            have hb : b < n := by omega
            refine gz_aload_n E dX0_findEdges_33 rfl rfl ?_
            refine gz_iload_n E dX0_findEdges_34 rfl rfl ?_
            refine gz_iconst (v := nI 0) E dX0_findEdges_35 (by decide) ?_
            refine gz_cali (n := 2) E 0 dX0_findEdges_36 gX0_findEdges_X0_triangleCorner (mtX0_triangleCorner ht (by assumption) (by assumption) (by decide)) rfl rfl ⟨rfl, rfl⟩ (by decide +kernel) ⟨Nat.le_of_ble_eq_true rfl, Nat.le_of_ble_eq_true rfl⟩ rfl rfl rfl rfl (Nat.le_of_ble_eq_true rfl) (fun r36 w36 hr36 => ?_)
            obtain ⟨rfl, rfl⟩ := hr36
            rw [show TT k / 16 ^ 0 % 16 = a by omega]
            refine gz_istore_n (lv' := [(0, _), (1, _), (2, _)]) E dX0_findEdges_39 rfl (by decide) rfl ?_
            refine gz_aload_n E dX0_findEdges_40 rfl rfl ?_
            refine gz_iload_n E dX0_findEdges_41 rfl rfl ?_
            refine gz_iconst (v := nI 1) E dX0_findEdges_42 (by decide) ?_
            refine gz_cali (n := 2) E 0 dX0_findEdges_43 gX0_findEdges_X0_triangleCorner (mtX0_triangleCorner ht (by assumption) (by assumption) (by decide)) rfl rfl ⟨rfl, rfl⟩ (by decide +kernel) ⟨Nat.le_of_ble_eq_true rfl, Nat.le_of_ble_eq_true rfl⟩ rfl rfl rfl rfl (Nat.le_of_ble_eq_true rfl) (fun r43 w43 hr43 => ?_)
            obtain ⟨rfl, rfl⟩ := hr43
            rw [show TT k / 16 ^ 1 % 16 = b by omega]
            refine gz_istore_n (lv' := [(0, _), (1, _), (2, _), (3, _)]) E dX0_findEdges_46 rfl (by decide) rfl ?_
            refine gz_aload_n E dX0_findEdges_47 rfl rfl ?_
            refine gz_iload_n E dX0_findEdges_48 rfl rfl ?_
            refine gz_iconst (v := nI 2) E dX0_findEdges_49 (by decide) ?_
            refine gz_cali (n := 2) E 0 dX0_findEdges_50 gX0_findEdges_X0_triangleCorner (mtX0_triangleCorner ht (by assumption) (by assumption) (by decide)) rfl rfl ⟨rfl, rfl⟩ (by decide +kernel) ⟨Nat.le_of_ble_eq_true rfl, Nat.le_of_ble_eq_true rfl⟩ rfl rfl rfl rfl (Nat.le_of_ble_eq_true rfl) (fun r50 w50 hr50 => ?_)
            obtain ⟨rfl, rfl⟩ := hr50
            rw [show TT k / 16 ^ 2 % 16 = c by omega]
            refine gz_istore (lv' := [(0, _), (1, _), (2, _), (3, _), (4, _)]) E dX0_findEdges_53 (by decide) rfl ?_
            refine gz_aload_n E dX0_findEdges_55 rfl rfl ?_
            refine gz_iload_n E dX0_findEdges_56 rfl rfl ?_
            refine gz_iload_n E dX0_findEdges_57 rfl rfl ?_
            refine gz_calv (n := 2) E 0 dX0_findEdges_58 gX0_findEdges_X0_join (mtX0_join hn (by assumption) (by assumption) (by omega)) rfl rfl ⟨rfl, rfl⟩ (by decide +kernel) ⟨Nat.le_of_ble_eq_true rfl, Nat.le_of_ble_eq_true rfl⟩ rfl rfl rfl rfl (Nat.le_of_ble_eq_true rfl) (fun w58 hr58 => ?_)
            subst hr58
            refine gz_aload_n E dX0_findEdges_61 rfl rfl ?_
            refine gz_iload_n E dX0_findEdges_62 rfl rfl ?_
            refine gz_iload E dX0_findEdges_63 rfl ?_
            refine gz_calv (n := 2) E 0 dX0_findEdges_65 gX0_findEdges_X0_join (mtX0_join hn (by assumption) (by assumption) (by omega)) rfl rfl ⟨rfl, rfl⟩ (by decide +kernel) ⟨Nat.le_of_ble_eq_true rfl, Nat.le_of_ble_eq_true rfl⟩ rfl rfl rfl rfl (Nat.le_of_ble_eq_true rfl) (fun w65 hr65 => ?_)
            subst hr65
            refine gz_aload_n E dX0_findEdges_68 rfl rfl ?_
            refine gz_iload_n E dX0_findEdges_69 rfl rfl ?_
            refine gz_iload E dX0_findEdges_70 rfl ?_
            refine gz_calv (n := 2) E 0 dX0_findEdges_72 gX0_findEdges_X0_join (mtX0_join hn (by assumption) (by assumption) (by omega)) rfl rfl ⟨rfl, rfl⟩ (by decide +kernel) ⟨Nat.le_of_ble_eq_true rfl, Nat.le_of_ble_eq_true rfl⟩ rfl rfl rfl rfl (Nat.le_of_ble_eq_true rfl) (fun w72 hr72 => ?_)
            subst hr72
            refine gz_iinc (lv' := [(0, _), (1, _), (2, _), (3, _), (4, _)]) E dX0_findEdges_75 rfl (gz_nI1 _) (by decide) rfl ?_
            refine gz_goto (tgt := 25) E dX0_findEdges_78 (by decide) ?_
            refine gz_sub (lv' := [(0, _), (1, _)]) [0, 1] rfl ?_
            exact ihB (k + 1) _ (by omega) (by omega) (pg_JT_add hn hE hab hbc hc hTk rfl rfl rfl)
      refine gz_iload_n E dX0_findEdges_2 rfl rfl ?_
      refine gz_aload_n E dX0_findEdges_3 rfl rfl ?_
      refine gz_get E inwX0_findEdges 0 2 dX0_findEdges_4 flX0_findEdges_16 rfl rfl (by decide) rfl rfl ?_
      refine gz_icN_ge (tgt := 23) E dX0_findEdges_7 (by decide) (by omega) (by omega) (fun q7 => ?_) (fun q7 => ?_)
      · skip
        refine gz_iconst (v := nI 0) E dX0_findEdges_23 (by decide) ?_
        refine gz_istore_n (lv' := [(0, _), (1, _)]) E dX0_findEdges_24 rfl (by decide) rfl ?_
        exact loopB (fun i hi => hE i (by omega)) (tc + 1) 0 _ (by omega) (by omega) (pg_JT_0 (fun i hi => hE i (by omega)))
      · skip
        refine gz_aload_n E dX0_findEdges_10 rfl rfl ?_
        refine gz_get E inwX0_findEdges 0 5 dX0_findEdges_11 flX0_findEdges_26 rfl rfl (by decide) rfl rfl ?_
        refine gz_iload_n E dX0_findEdges_14 rfl rfl ?_
        refine gz_iconst (v := nI 0) E dX0_findEdges_15 (by decide) ?_
        refine gz_iastN E 4 0 dX0_findEdges_16 rfl rfl (by decide) (by omega) ?_
        refine gz_w (ws' := (wC ad cI n X Y tc TT (fun i => if i = a then 0 else NB i) RG rc KT kc tl GR)) (by rw [gz_upN]; rfl) ?_
        refine gz_iinc (lv' := [(0, _), (1, _)]) E dX0_findEdges_17 rfl (gz_nI1 _) (by decide) rfl ?_
        refine gz_goto (tgt := 2) E dX0_findEdges_20 (by decide) ?_
        exact ihA (a + 1) _ (by omega) (by omega) (fun i hi => by
          by_cases e : i = a
          · simp [e]
          · simp only [if_neg e]; exact hE i (by omega))
  refine gz_iconst (v := nI 0) E dX0_findEdges_0 (by decide) ?_
  refine gz_istore_n (lv' := [(0, _), (1, _)]) E dX0_findEdges_1 rfl (by decide) rfl ?_
  exact loopA (n + 1) 0 _ (by omega) (by omega) (fun i hi => absurd hi (by omega))
theorem pg_CH_0 {n f : Nat} {X Y : Nat → Int} {RG : Nat → Nat} : pg_CH n X Y f 0 RG := ⟨fun h => absurd h (by omega), fun i h => absurd h (by omega), fun i h => absurd h (by omega)⟩
theorem pg_CH_add {n f k p : Nat} {X Y : Nat → Int} {RG : Nat → Nat} (h : pg_CH n X Y f k RG) (hp : p < n) (h2 : (k = 0 ∧ p = f) ∨ (0 < k ∧ pg_NX n X Y (RG (k - 1)) p ∧ p ≠ f)) : pg_CH n X Y f (k + 1) (fun i => if i = k then p else RG i) := by
  refine ⟨fun _ => ?_, fun i hi => ?_, fun i hi => ?_⟩
  · by_cases e : 0 = k
    · subst e
      rcases h2 with ⟨-, h2⟩ | ⟨h2, -⟩
      · simpa using h2
      · omega
    · show (if 0 = k then p else RG 0) = f
      rw [if_neg e]; exact h.1 (by omega)
  · show (if i = k then p else RG i) < n
    split
    · exact hp
    · exact h.2.1 i (by omega)
  · show pg_NX n X Y (if i = k then p else RG i) (if i + 1 = k then p else RG (i + 1)) ∧ (if i + 1 = k then p else RG (i + 1)) ≠ f
    rw [if_neg (show i ≠ k by omega)]
    by_cases e : i + 1 = k
    · rw [if_pos e]
      rcases h2 with ⟨h2, -⟩ | ⟨-, h2, h3⟩
      · omega
      · have e2 : k - 1 = i := by omega
        rw [e2] at h2
        exact ⟨h2, h3⟩
    · rw [if_neg e]
      exact h.2.2 i (by omega)
abbrev rmX0_findRing : Room := { frames := 4, cells := 0, slots := 0, locals := 91 }
theorem inwX0_findRing : ∀ w ∈ wsX00, w ∈ wsX0_findRing := fun _ h => List.mem_cons_of_mem _ (List.mem_append_right _ h)
set_option maxRecDepth 20000 in
theorem flX0_findRing_29 : Cond.fieldLink RX0 29 RX0 (TX0 6).2.1 (TX0 6).2.2.1 ∈ wsX0_findRing := by decide +kernel
set_option maxRecDepth 20000 in
theorem flX0_findRing_32 : Cond.fieldLink RX0 32 RX0 (TX0 7).2.1 (TX0 7).2.2.1 ∈ wsX0_findRing := by decide +kernel
set_option maxRecDepth 20000 in
set_option maxHeartbeats 4000000 in
theorem mtX0_findRing (SB : pg_ok n X Y) {f : Nat} (hf : f < n) : gz_Kv l yX0_findRing wsX0_findRing rmX0_findRing D [(cI, .int), (cJ, .long)] [.ref (ad 0), .int (nI f)] (wC ad cI n X Y tc TT NB RG rc KT kc tl GR) (fun w1 => ∃ rc RG, w1 = (wC ad cI n X Y tc TT NB RG rc KT kc tl GR) ∧ 0 < rc ∧ rc ≤ 14 ∧ pg_CH n X Y f rc RG ∧ (rc = 14 ∨ pg_NX n X Y (RG (rc - 1)) f ∨ pg_NN n X Y (RG (rc - 1)))) := by
  refine gz_ofv (cc := cX0_findRing) (maxL := 5) (own := RX0) (by decide +kernel) rfl rfl rfl (Nat.le_of_ble_eq_true rfl) ?_
  intro z E ret
  have hn := SB.1
  show gz_G z _ 0 [(0, .ref (ad 0)), (1, .int (nI f))] []
  have loop : ∀ (g k : Nat) (RG : Nat → Nat) (at0 : Int32), 14 < g + k → k ≤ 14 → pg_CH n X Y f k RG → ((∃ p, p < n ∧ at0 = nI p ∧ ((k = 0 ∧ p = f) ∨ (0 < k ∧ pg_NX n X Y (RG (k - 1)) p ∧ p ≠ f))) ∨ (at0 = -1 ∧ 0 < k ∧ (pg_NX n X Y (RG (k - 1)) f ∨ pg_NN n X Y (RG (k - 1))))) → gz_G z (wC ad cI n X Y tc TT NB RG k KT kc tl GR) 9 [(0, .ref (ad 0)), (1, .int (nI f)), (2, .int at0), (3, .int (nI k))] [] := by
    intro g
    induction g with
    | zero => intro k RG at0 h1 h2; exact absurd h1 (by omega)
    | succ g ih =>
      intro k RG at0 h1 h2 hC hat
      rcases hat with ⟨p, hp, rfl, hp2⟩ | ⟨rfl, hk0, hz⟩
      · skip
        refine gz_iload_n E dX0_findRing_9 rfl rfl ?_
        refine gz_bipush (v := nI 14) E dX0_findRing_10 (by decide) ?_
        refine gz_icN_ge (tgt := 65) E dX0_findRing_12 (by decide) (by omega) (by omega) (fun q12 => ?_) (fun q12 => ?_)
        · skip
          exact ret _ _ _ dX0_findRing_65 ⟨k, RG, rfl, by omega, h2, hC, Or.inl (by omega)⟩
        · skip
          refine gz_iload_n E dX0_findRing_15 rfl rfl ?_
          refine gz_ifN_lt E dX0_findRing_16 65 (by decide) (by omega) ?_
          refine gz_aload_n E dX0_findRing_19 rfl rfl ?_
          refine gz_get E inwX0_findRing 0 6 dX0_findRing_20 flX0_findRing_29 rfl rfl (by decide) rfl rfl ?_
          refine gz_aload_n E dX0_findRing_23 rfl rfl ?_
          refine gz_get E inwX0_findRing 0 7 dX0_findRing_24 flX0_findRing_32 rfl rfl (by decide) rfl rfl ?_
          refine gz_iload_n E dX0_findRing_27 rfl rfl ?_
          refine gz_iastN E 5 0 dX0_findRing_28 rfl rfl (by decide) (by omega) ?_
          refine gz_w (ws' := (wC ad cI n X Y tc TT NB (fun i => if i = k then p else RG i) k KT kc tl GR)) (by rw [gz_upN]; rfl) ?_
          refine gz_aload_n E dX0_findRing_29 rfl rfl ?_
          refine gz_dup E dX0_findRing_30 rfl ?_
          refine gz_get E inwX0_findRing 0 7 dX0_findRing_31 flX0_findRing_32 rfl rfl (by decide) rfl rfl ?_
          refine gz_iconst (v := nI 1) E dX0_findRing_34 (by decide) ?_
          refine gz_iaddN E dX0_findRing_35 ?_
          refine gz_put E inwX0_findRing 0 7 dX0_findRing_36 flX0_findRing_32 rfl rfl (by decide) rfl tyX0 tyX0_ok nmX0 rfl rfl rfl (Nat.le_of_ble_eq_true rfl) ?_
          refine gz_w (ws' := (wC ad cI n X Y tc TT NB (fun i => if i = k then p else RG i) (k + 1) KT kc tl GR)) (by rfl) ?_
          refine gz_aload_n E dX0_findRing_39 rfl rfl ?_
          refine gz_iload_n E dX0_findRing_40 rfl rfl ?_
          refine gz_cali (n := 1) E 0 dX0_findRing_41 gX0_findRing_X0_nextCorner (mtX0_nextCorner SB (by assumption)) rfl rfl ⟨rfl, rfl⟩ (by decide +kernel) ⟨Nat.le_of_ble_eq_true rfl, Nat.le_of_ble_eq_true rfl⟩ rfl rfl rfl rfl (Nat.le_of_ble_eq_true rfl) (fun r41 w41 hr41 => ?_)
          obtain ⟨hr41, rfl⟩ := hr41
          refine gz_istore (lv' := [(0, _), (1, _), (2, _), (3, _), (4, _)]) E dX0_findRing_44 (by decide) rfl ?_
          refine gz_iload E dX0_findRing_46 rfl ?_
          refine gz_iload_n E dX0_findRing_48 rfl rfl ?_
          refine gz_icmp_ne (tgt := 56) E dX0_findRing_49 (by decide) (fun q49 => ?_) (fun q49 => ?_)
          · skip
            refine gz_iload E dX0_findRing_56 rfl ?_
            refine gz_istore_n (lv' := [(0, _), (1, _), (2, _), (3, _), (4, _)]) E dX0_findRing_58 rfl (by decide) rfl ?_
            refine gz_iinc (lv' := [(0, _), (1, _), (2, _), (3, _), (4, _)]) E dX0_findRing_59 rfl (gz_nI1 _) (by decide) rfl ?_
            refine gz_goto (tgt := 9) E dX0_findRing_62 (by decide) ?_
            refine gz_sub (lv' := [(0, _), (1, _), (2, _), (3, _)]) [0, 1, 2, 3] rfl ?_
            refine ih (k + 1) _ _ (by omega) (by omega) (pg_CH_add hC hp hp2) ?_
            first
              | (rcases hr41 with ⟨b, hb1, hb2⟩ | ⟨hb1, hb2⟩
                 · exact Or.inl ⟨b, hb1.1, hb2, Or.inr ⟨by omega, by simpa using hb1, fun e => q49 (by rw [hb2, e])⟩⟩
                 · exact Or.inr ⟨hb1, by omega, Or.inr (by simpa using hb2)⟩)
              | (rcases hr41 with ⟨b, hb1, hb2⟩ | ⟨hb1, hb2⟩
                 · exact Or.inr ⟨rfl, by omega, Or.inl (by have e : b = f := (nI_eq (by have := hb1.1; omega) (by omega)).mp (hb2.symm.trans q49); simpa [← e] using hb1)⟩
                 · exact Or.inr ⟨rfl, by omega, Or.inr (by simpa using hb2)⟩)
          · skip
            refine gz_iconst (v := -1) E dX0_findRing_52 (by decide) ?_
            refine gz_goto (tgt := 58) E dX0_findRing_53 (by decide) ?_
            refine gz_istore_n (lv' := [(0, _), (1, _), (2, _), (3, _), (4, _)]) E dX0_findRing_58 rfl (by decide) rfl ?_
            refine gz_iinc (lv' := [(0, _), (1, _), (2, _), (3, _), (4, _)]) E dX0_findRing_59 rfl (gz_nI1 _) (by decide) rfl ?_
            refine gz_goto (tgt := 9) E dX0_findRing_62 (by decide) ?_
            refine gz_sub (lv' := [(0, _), (1, _), (2, _), (3, _)]) [0, 1, 2, 3] rfl ?_
            refine ih (k + 1) _ _ (by omega) (by omega) (pg_CH_add hC hp hp2) ?_
            first
              | (rcases hr41 with ⟨b, hb1, hb2⟩ | ⟨hb1, hb2⟩
                 · exact Or.inl ⟨b, hb1.1, hb2, Or.inr ⟨by omega, by simpa using hb1, fun e => q49 (by rw [hb2, e])⟩⟩
                 · exact Or.inr ⟨hb1, by omega, Or.inr (by simpa using hb2)⟩)
              | (rcases hr41 with ⟨b, hb1, hb2⟩ | ⟨hb1, hb2⟩
                 · exact Or.inr ⟨rfl, by omega, Or.inl (by have e : b = f := (nI_eq (by have := hb1.1; omega) (by omega)).mp (hb2.symm.trans q49); simpa [← e] using hb1)⟩
                 · exact Or.inr ⟨rfl, by omega, Or.inr (by simpa using hb2)⟩)
      · skip
        refine gz_iload_n E dX0_findRing_9 rfl rfl ?_
        refine gz_bipush (v := nI 14) E dX0_findRing_10 (by decide) ?_
        refine gz_icN_ge (tgt := 65) E dX0_findRing_12 (by decide) (by omega) (by omega) (fun q12 => ?_) (fun q12 => ?_)
        · skip
          exact ret _ _ _ dX0_findRing_65 ⟨k, RG, rfl, hk0, h2, hC, Or.inr hz⟩
        · skip
          refine gz_iload_n E dX0_findRing_15 rfl rfl ?_
          refine gz_if_lt (tgt := 65) E dX0_findRing_16 (by decide) (fun q16 => ?_) (fun q16 => ?_)
          · skip
            exact ret _ _ _ dX0_findRing_65 ⟨k, RG, rfl, hk0, h2, hC, Or.inr hz⟩
          · exact absurd (by decide) q16
  refine gz_aload_n E dX0_findRing_0 rfl rfl ?_
  refine gz_iconst (v := nI 0) E dX0_findRing_1 (by decide) ?_
  refine gz_put E inwX0_findRing 0 7 dX0_findRing_2 flX0_findRing_32 rfl rfl (by decide) rfl tyX0 tyX0_ok nmX0 rfl rfl rfl (Nat.le_of_ble_eq_true rfl) ?_
  refine gz_w (ws' := (wC ad cI n X Y tc TT NB RG 0 KT kc tl GR)) (by rfl) ?_
  refine gz_iload_n E dX0_findRing_5 rfl rfl ?_
  refine gz_istore_n (lv' := [(0, _), (1, _), (2, _)]) E dX0_findRing_6 rfl (by decide) rfl ?_
  refine gz_iconst (v := nI 0) E dX0_findRing_7 (by decide) ?_
  refine gz_istore_n (lv' := [(0, _), (1, _), (2, _), (3, _)]) E dX0_findRing_8 rfl (by decide) rfl ?_
  exact loop 15 0 RG _ (by omega) (by omega) pg_CH_0 (Or.inl ⟨f, hf, rfl, Or.inl ⟨rfl, rfl⟩⟩)
end CE
