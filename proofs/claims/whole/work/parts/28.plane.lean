/-! what the plane gives both; both states say the same -/
section PN
variable {X Y : Nat → Int} {n : Nat}
theorem pg_dt_ss (s t : Nat) : pg_dt X Y s s t = 0 ∧ pg_dt X Y t s t = 0 := by
  constructor <;> unfold pg_dt <;> grind
theorem pg_free_WF {s t : Nat} (hd : ∀ x, x < n → x ≠ s → x ≠ t → 0 < pg_dt X Y x s t) : pg_WF n X Y s t := fun m hm q => by
  have k := pg_dt_ss (X := X) (Y := Y) s t
  by_cases e1 : m = s
  · rw [e1] at q; omega
  by_cases e2 : m = t
  · rw [e2] at q; omega
  have := hd m hm e1 e2
  omega
theorem pg_free_BT {s t : Nat} (hd : ∀ x, x < n → x ≠ s → x ≠ t → 0 < pg_dt X Y x s t) : ∀ p, p < n → ¬ pg_BT X Y p s t := fun p hp q => by
  obtain ⟨q1, q2, q3, q4, q5⟩ := q
  have := hd p hp q1 q2
  have e : pg_dt X Y p s t = (X p - X s) * (X p - X t) + (Y p - Y s) * (Y p - Y t) := by unfold pg_dt; grind
  omega
theorem pg_code_lt {a b c : Nat} (hn : n ≤ 14) (h : pg_TR n X Y (a, b, c)) : a * 256 + b * 16 + c < 4096 := by
  have := pg_TR_lt h
  omega
theorem pg_ER_s {mc i j : Nat} {LE MI GE : Nat → Nat} (h : pg_ER n X Y mc LE MI GE i j) : pg_ER n X Y mc LE MI GE j i := by
  obtain ⟨h1, h2⟩ := h
  refine ⟨fun e => h1 e.symm, ?_⟩
  rcases h2 with ⟨k1, t, k2, k3, k4⟩ | ⟨k1, k2⟩
  · exact Or.inl ⟨k1, t, k2, k4, k3⟩
  · exact Or.inr ⟨k1, fun p hp q => k2 p hp (pg_BT_s q)⟩
/-- an edge of the reference's triangles between two groups -/
theorem pg_conR (ok : pg_ok n X Y) {mc : Nat} {LE MI GE : Nat → Nat} (hE : pg_EN n X Y 4096 mc LE MI GE) {GR : Nat → Nat} (h : ∃ i j, i < n ∧ j < n ∧ GR i ≠ GR j) : ∃ a b, pg_CA n (pg_ER n X Y mc LE MI GE) GR a b := by
  obtain ⟨s, t, hs, ht, hg, hd⟩ := pg_pair ok h
  have hst : s ≠ t := fun e => hg (by rw [e])
  have er : pg_ER n X Y mc LE MI GE s t := by
    refine ⟨hst, ?_⟩
    by_cases hm : mc = 0
    · exact Or.inr ⟨hm, pg_free_BT hd⟩
    · refine Or.inl ⟨by omega, ?_⟩
      obtain ⟨a, b, c, hT, h1, h2⟩ := pg_edge ok hs ht hst hd ⟨_, _, _, (hE.1 0 (by omega)).1⟩
      obtain ⟨u, u1, u2, u3, u4⟩ := hE.2.2 a b c hT (pg_code_lt ok.1 hT)
      refine ⟨u, u1, ?_, ?_⟩
      · unfold pg_Of; omega
      · unfold pg_Of; omega
  rcases (show s < t ∨ t < s by omega) with e | e
  · exact ⟨s, t, e, ht, er, hg⟩
  · exact ⟨t, s, e, hs, pg_ER_s er, fun q => hg q.symm⟩
theorem pg_ER_ED {tc : Nat} {TT LE MI GE : Nat → Nat} (ok : pg_ok n X Y) (hT : pg_TTs n tc TT LE MI GE) {i j : Nat} (hi : i < n) (hj : j < n) : pg_ED n X Y tc TT i j ↔ pg_ER n X Y tc LE MI GE i j := by
  have key : i ≠ j → (pg_WF n X Y i j ↔ ∀ p, p < n → ¬ pg_BT X Y p i j) := by
    intro hij
    constructor
    · intro h p hp q
      obtain ⟨q1, q2, q3, q4, q5⟩ := q
      have e : pg_dt X Y p i j = (X p - X i) * (X p - X j) + (Y p - Y i) * (Y p - Y j) := by unfold pg_dt; grind
      have hnot := h p hp
      -- dt < 0 : it is at most 0, and 0 only for the ends
      have z : pg_dt X Y p i j = 0 := by omega
      have g1 := pg_gp_pos ok hp hi q1
      have g2 := pg_gp_pos ok hp hj q2
      have s1 : pg_tn X Y i j p * pg_tn X Y i j p = pg_gp X Y p i * pg_gp X Y p j - pg_dt X Y p i j * pg_dt X Y p i j := by unfold pg_gp pg_tn pg_dt; grind
      rw [q3, z] at s1
      have := Int.mul_pos g1 g2
      omega
    · intro h m hm q
      have k := pg_dt_ss (X := X) (Y := Y) i j
      have n1 : m ≠ i := fun e => by rw [e] at q; omega
      have n2 : m ≠ j := fun e => by rw [e] at q; omega
      refine h m hm ⟨n1, n2, q.1, ?_⟩
      have e : pg_dt X Y m i j = (X m - X i) * (X m - X j) + (Y m - Y i) * (Y m - Y j) := by unfold pg_dt; grind
      have t0 : pg_tn X Y i j m = (X m - X i) * (Y m - Y j) - (Y m - Y i) * (X m - X j) := by unfold pg_tn; grind
      have pr : ((X m - X i) * (X m - X j)) * ((Y m - Y i) * (Y m - Y j)) = ((X m - X i) * (Y m - Y j)) * ((X m - X i) * (Y m - Y j)) := by
        have : (X m - X i) * (Y m - Y j) = (Y m - Y i) * (X m - X j) := by omega
        grind
      have sq := pg_sq ((X m - X i) * (Y m - Y j))
      rw [← pr] at sq
      constructor
      · rcases Int.lt_or_le 0 ((X m - X i) * (X m - X j)) with r | r
        · have := Int.mul_neg_of_pos_of_neg r (show (Y m - Y i) * (Y m - Y j) < 0 by omega)
          omega
        · exact r
      · rcases Int.lt_or_le 0 ((Y m - Y i) * (Y m - Y j)) with r | r
        · have := Int.mul_neg_of_neg_of_pos (show (X m - X i) * (X m - X j) < 0 by omega) r
          omega
        · exact r
  have cor : ∀ t, t < tc → ∀ i, pg_C TT t i ↔ pg_Of LE MI GE t i := fun t ht i => pg_TTs_Of ok.1 hT ht
  unfold pg_ED pg_ER
  constructor
  · rintro ⟨h1, ⟨h2, t, h3, h4, h5⟩ | ⟨h2, h3⟩⟩
    · exact ⟨h1, Or.inl ⟨h2, t, h3, (cor t h3 i).mp h4, (cor t h3 j).mp h5⟩⟩
    · exact ⟨h1, Or.inr ⟨h2, (key h1).mp h3⟩⟩
  · rintro ⟨h1, ⟨h2, t, h3, h4, h5⟩ | ⟨h2, h3⟩⟩
    · exact ⟨h1, Or.inl ⟨h2, t, h3, (cor t h3 i).mpr h4, (cor t h3 j).mpr h5⟩⟩
    · exact ⟨h1, Or.inr ⟨h2, (key h1).mpr h3⟩⟩
theorem pg_TTs_of {tc : Nat} {TT A B C : Nat → Nat} {q : Nat} (h : pg_EN n X Y q tc A B C) (h2 : ∀ t, t < tc → TT t = A t + 16 * B t + 256 * C t) : pg_TTs n tc TT A B C := fun t ht => by
  have := pg_TR_lt (h.1 t ht).1
  exact ⟨h2 t ht, this.1, this.2.1, this.2.2⟩
theorem pg_PL_ok (ok : pg_ok n X Y) (hn : 0 < n) : pg_PL n X Y := by
  refine ⟨?_, fun tc TT NB hE hN GR hG => ?_⟩
  · obtain ⟨p, hp, hI⟩ := pg_IC_some ok hn
    rcases (pg_IC_NX ok hp).mp hI with e | ⟨b, hb⟩
    · exact Or.inl e
    · exact Or.inr ⟨p, b, hp, hb⟩
  · obtain ⟨A, B, C, h1, h2⟩ := hE
    obtain ⟨a, b, k1, k2, k3, k4⟩ := pg_conR ok h1 hG
    exact ⟨a, b, k1, k2, (hN.2 a b (by omega) k2).mpr ((pg_ER_ED ok (pg_TTs_of h1 h2) (by omega) k2).mpr k3), k4⟩
theorem pg_PT_ok (ok : pg_ok n X Y) (hn : 0 < n) : pg_PT n X Y :=
  ⟨⟨pg_IC_some ok hn, fun a ha hI b hb => pg_FO_RS ok ha hb hI, fun a b ha h => (pg_RS_IC ok ha h.1 h.2.1 h.2.2.1).2, fun f k RG hf h => pg_CH_len ok h⟩, fun mc LE MI GE hE GR hG => pg_conR ok hE hG⟩
/-- both rings are one -/
theorem pg_ring_u (ok : pg_ok n X Y) {rc ec : Nat} {RG CO : Nat → Nat} (h : pg_RI n X Y rc RG) (h' : pg_RJ n X Y ec CO) : rc = ec ∧ ∀ i, i < rc → RG i = CO i := by
  obtain ⟨f, hL, r0, r14, hC, hend⟩ := h
  obtain ⟨f', hf', hI, hI2, e0, e14, hC', hend'⟩ := h'
  have IC1 : pg_IC n X Y f := by
    rw [pg_IC_NX ok hL.1]
    rcases hL.2 with ⟨e, _⟩ | ⟨_, e, _⟩
    · exact Or.inl e
    · exact Or.inr e
  have IC2 : ∀ c, c < f → ¬ pg_IC n X Y c := by
    intro c hc q
    rw [pg_IC_NX ok (by have := hL.1; omega)] at q
    rcases hL.2 with ⟨e1, e2⟩ | ⟨e1, _, e2⟩
    · omega
    · rcases q with q | ⟨b, q⟩
      · exact e1 q
      · exact pg_NX_NN q (e2 c hc)
  have ff : f = f' := by
    rcases Nat.lt_trichotomy f f' with q | q | q
    · exact absurd IC1 (hI2 f q)
    · exact q
    · exact absurd hI (IC2 f' q)
  subst ff
  have same : ∀ i, i < rc → i < ec → RG i = CO i := by
    intro i
    induction i with
    | zero => intro h1 h2; rw [hC.1 h1, hC'.1 h2]
    | succ i ih =>
      intro h1 h2
      have a := (hC.2.2 i h1).1
      have b := (hC'.2.2 i h2).1
      rw [← ih (by omega) (by omega)] at b
      exact pg_NX_u a b
  have len : rc = ec := by
    rcases Nat.lt_trichotomy rc ec with q | q | q
    · exfalso
      have b := hC'.2.2 (rc - 1) (by omega)
      rw [show rc - 1 + 1 = rc by omega, ← same (rc - 1) (by omega) (by omega)] at b
      rcases hend with e | e | e
      · omega
      · exact b.2 (pg_NX_u b.1 e)
      · exact pg_NX_NN b.1 e
    · exact q
    · exfalso
      have b := hC.2.2 (ec - 1) (by omega)
      rw [show ec - 1 + 1 = ec by omega, same (ec - 1) (by omega) (by omega)] at b
      rcases hend' with e | e
      · exact b.2 (pg_NX_u b.1 e)
      · exact pg_NX_NN b.1 e
  exact ⟨len, fun i hi => same i hi (by omega)⟩
theorem pg_TS_E {E E' : Nat → Nat → Prop} {LS GT : Nat → Nat} {s : Nat} (hE : ∀ a b, a < n → b < n → (E a b ↔ E' a b)) (h : pg_TS n X Y E LS GT s) : pg_TS n X Y E' LS GT s := fun t ht => pg_SEL_c hE (fun _ _ => rfl) (h t ht)
/-- the class's state and the reference's say the same -/
def pg_CP (n : Nat) (X Y : Nat → Int) (tc : Nat) (TT NB RG : Nat → Nat) (rc : Nat) (KT : Nat → Nat) (kc : Nat) (tl : Int) (mc : Nat) (LE MI GE : Nat → Nat) (ec : Nat) (CO : Nat → Nat) (kd : Nat) (LS GT : Nat → Nat) (tm : Int) : Prop :=
  pg_ok n X Y ∧ (tc = mc ∧ rc = ec ∧ kc = kd ∧ tl = tm) ∧ (tc ≤ 23 ∧ rc ≤ 14 ∧ kc ≤ 13) ∧ pg_EN n X Y 4096 mc LE MI GE ∧ (∀ t, t < tc → TT t = LE t + 16 * MI t + 256 * GE t) ∧ (∀ i, i < n → NB i < 2 ^ n) ∧ (∀ i j, i < n → j < n → (pg_EB NB i j ↔ pg_ER n X Y mc LE MI GE i j)) ∧ (∀ i, i < rc → RG i = CO i) ∧ ∀ t, t < kc → KT t = LS t + 16 * GT t
theorem pg_CP_of (ok : pg_ok n X Y) {tc rc kc mc ec kd : Nat} {TT NB RG KT GR LE MI GE CO LS GT GP : Nat → Nat} {tl tm : Int} (h : pg_ALL n X Y tc TT NB RG rc KT kc tl GR) (h' : pg_ALM n X Y mc LE MI GE ec CO kd LS GT tm GP) : pg_CP n X Y tc TT NB RG rc KT kc tl mc LE MI GE ec CO kd LS GT tm := by
  obtain ⟨hE, hN, hR, hk, hT⟩ := h
  obtain ⟨hE', hR', hk', hT'⟩ := h'
  obtain ⟨A, B, C, e1, e2⟩ := hE
  obtain ⟨t1, t2⟩ := pg_EN_u ok.1 e1 hE'
  subst t1
  have hTT : ∀ t, t < tc → TT t = LE t + 16 * MI t + 256 * GE t := fun t ht => by
    obtain ⟨a, b, c⟩ := t2 t ht
    rw [e2 t ht, a, b, c]
  have hTs := pg_TTs_of hE' hTT
  have hEB : ∀ i j, i < n → j < n → (pg_EB NB i j ↔ pg_ER n X Y tc LE MI GE i j) := fun i j hi hj => (hN.2 i j hi hj).trans (pg_ER_ED ok hTs hi hj)
  obtain ⟨r1, r2⟩ := pg_ring_u ok hR hR'
  obtain ⟨f, hL, r0, r14, -⟩ := hR
  subst hk hk'
  obtain ⟨LS', GT', s1, s2, s3, s4⟩ := hT
  obtain ⟨u1, u2, u3⟩ := hT'
  have s5 := pg_TS_u ok.1 (n - 1) (pg_TS_E hEB s1) u1
  have hn := ok.1
  refine ⟨ok, ⟨rfl, r1, rfl, ?_⟩, ⟨pg_EN_23 ok hE', r14, by omega⟩, hE', hTT, hN.1, hEB, r2, fun t ht => ?_⟩
  · rw [s2, u2]; exact pg_tot_c _ s5
  · obtain ⟨a, b⟩ := s5 t ht
    rw [s3 t ht, a, b]
theorem pg_TR_side {a b c p q : Nat} (h : pg_TR n X Y (a, b, c)) (hp : p = a ∨ p = b ∨ p = c) (hq : q = a ∨ q = b ∨ q = c) (hpq : p ≠ q) : ∃ r, r ≠ p ∧ r ≠ q ∧ (r = a ∨ r = b ∨ r = c) ∧ (pg_DT n X Y p q r ∨ pg_DT n X Y q p r) := by
  have lt := pg_TR_lt h
  obtain ⟨-, -, h⟩ := h
  replace h : pg_DT n X Y a b c ∨ pg_DT n X Y a c b := h
  have d : ∀ x y z, pg_DT n X Y x y z → pg_DT n X Y y z x ∧ pg_DT n X Y z x y := fun x y z k => ⟨pg_DT_rot k, pg_DT_rot (pg_DT_rot k)⟩
  rcases h with h | h
  · have k := d _ _ _ h
    rcases hp with e1 | e1 | e1 <;> rcases hq with e2 | e2 | e2 <;> subst e1 e2
    · exact absurd rfl hpq
    · exact ⟨c, by omega, by omega, by omega, Or.inl h⟩
    · exact ⟨b, by omega, by omega, by omega, Or.inr k.2⟩
    · exact ⟨c, by omega, by omega, by omega, Or.inr h⟩
    · exact absurd rfl hpq
    · exact ⟨a, by omega, by omega, by omega, Or.inl k.1⟩
    · exact ⟨b, by omega, by omega, by omega, Or.inl k.2⟩
    · exact ⟨a, by omega, by omega, by omega, Or.inr k.1⟩
    · exact absurd rfl hpq
  · have k := d _ _ _ h
    rcases hp with e1 | e1 | e1 <;> rcases hq with e2 | e2 | e2 <;> subst e1 e2
    · exact absurd rfl hpq
    · exact ⟨c, by omega, by omega, by omega, Or.inr k.2⟩
    · exact ⟨b, by omega, by omega, by omega, Or.inl h⟩
    · exact ⟨c, by omega, by omega, by omega, Or.inl k.2⟩
    · exact absurd rfl hpq
    · exact ⟨a, by omega, by omega, by omega, Or.inr k.1⟩
    · exact ⟨b, by omega, by omega, by omega, Or.inr h⟩
    · exact ⟨a, by omega, by omega, by omega, Or.inl k.1⟩
    · exact absurd rfl hpq
/-- at most one triangle beyond a side -/
theorem pg_BE_u {mc a k j j' : Nat} {LE MI GE : Nat → Nat} (hE : pg_EN n X Y 4096 mc LE MI GE) (ha : a < mc) (hj : j < mc) (hj' : j' < mc) (h : pg_BE LE MI GE a k j) (h' : pg_BE LE MI GE a k j') : j = j' := by
  obtain ⟨n1, p1, q1⟩ := h
  obtain ⟨n2, p2, q2⟩ := h'
  have Ta := (hE.1 a ha).1
  have Tj := (hE.1 j hj).1
  have Tj' := (hE.1 j' hj').1
  have la := pg_TR_lt Ta
  have lj := pg_TR_lt Tj
  have lj' := pg_TR_lt Tj'
  have pq : (if k = 0 then MI a else LE a) ≠ (if k = 2 then MI a else GE a) := by
    split <;> split <;> omega
  have pa : (if k = 0 then MI a else LE a) = LE a ∨ (if k = 0 then MI a else LE a) = MI a ∨ (if k = 0 then MI a else LE a) = GE a := by
    split <;> omega
  have qa : (if k = 2 then MI a else GE a) = LE a ∨ (if k = 2 then MI a else GE a) = MI a ∨ (if k = 2 then MI a else GE a) = GE a := by
    split <;> omega
  generalize (if k = 0 then MI a else LE a) = p at *
  generalize (if k = 2 then MI a else GE a) = q at *
  have fl : ∀ t, pg_Of LE MI GE t p → (p = LE t ∨ p = MI t ∨ p = GE t) := fun t h => by unfold pg_Of at h; omega
  have fl2 : ∀ t, pg_Of LE MI GE t q → (q = LE t ∨ q = MI t ∨ q = GE t) := fun t h => by unfold pg_Of at h; omega
  obtain ⟨r, r1, r2, r3, r4⟩ := pg_TR_side Ta pa qa pq
  obtain ⟨s, s1, s2, s3, s4⟩ := pg_TR_side Tj (fl j p1) (fl2 j q1) pq
  obtain ⟨t, t1, t2, t3, t4⟩ := pg_TR_side Tj' (fl j' p2) (fl2 j' q2) pq
  have inj : ∀ x y, x < mc → y < mc → pg_cd LE MI GE x = pg_cd LE MI GE y → x = y := fun x y hx hy e => by
    rcases Nat.lt_trichotomy x y with z | z | z
    · have := pg_cd_mono hE.2.1 y x z hy; omega
    · exact z
    · have := pg_cd_mono hE.2.1 x y z hx; omega
  have fp := fl j p1
  have fq := fl2 j q1
  have fp' := fl j' p2
  have fq' := fl2 j' q2
  have aj : s ≠ r := fun e => n1 (inj j a hj ha (by unfold pg_cd; subst e; omega))
  have aj' : t ≠ r := fun e => n2 (inj j' a hj' ha (by unfold pg_cd; subst e; omega))
  have st : s = t := by
    rcases r4 with r4 | r4
    · have b1 : pg_DT n X Y q p s := by
        rcases s4 with z | z
        · exact absurd (pg_A z r4) aj
        · exact z
      have b2 : pg_DT n X Y q p t := by
        rcases t4 with z | z
        · exact absurd (pg_A z r4) aj'
        · exact z
      exact pg_A b1 b2
    · have b1 : pg_DT n X Y p q s := by
        rcases s4 with z | z
        · exact z
        · exact absurd (pg_A z r4) aj
      have b2 : pg_DT n X Y p q t := by
        rcases t4 with z | z
        · exact z
        · exact absurd (pg_A z r4) aj'
      exact pg_A b1 b2
  exact inj j j' hj hj' (by unfold pg_cd; subst st; omega)
end PN
