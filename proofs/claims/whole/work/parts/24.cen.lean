/-! centres, and what is asked of the reference -/
section DG
variable {l : Launch} {D : va_G} {ad : Nat → Nat} {cI cJ : ClassId} {n tc rc kc : Nat} {X Y : Nat → Int} {TT NB RG KT GR : Nat → Nat} {tl : Int}
variable {LE MI GE : Nat → Nat}
def pg_cD (X Y : Nat → Int) (a b c : Nat) : Int := 2 * pg_tn X Y a b c
def pg_cX (X Y : Nat → Int) (a b c : Nat) : Int := pg_cD X Y a b c * X a + (Y c - Y a) * pg_gp X Y a b - (Y b - Y a) * pg_gp X Y a c
def pg_cY (X Y : Nat → Int) (a b c : Nat) : Int := pg_cD X Y a b c * Y a + (X b - X a) * pg_gp X Y a c - (X c - X a) * pg_gp X Y a b
def pg_cG (X Y : Nat → Int) (a b c : Nat) : Nat := Nat.gcd (Nat.gcd (pg_cX X Y a b c).natAbs (pg_cY X Y a b c).natAbs) (pg_cD X Y a b c).natAbs
def pg_cP (X Y : Nat → Int) (a b c k : Nat) : Int := if k = 0 then pg_cX X Y a b c else if k = 1 then pg_cY X Y a b c else pg_cD X Y a b c
theorem pg_c_b {n : Nat} {X Y : Nat → Int} (SB : pg_ok n X Y) {a b c : Nat} (ha : a < n) (hb : b < n) (hc : c < n) : (-4611686018427387904 < pg_cX X Y a b c ∧ pg_cX X Y a b c < 4611686018427387904) ∧ (-4611686018427387904 < pg_cY X Y a b c ∧ pg_cY X Y a b c < 4611686018427387904) ∧ (-14400000000 ≤ pg_cD X Y a b c ∧ pg_cD X Y a b c ≤ 14400000000) := by
  have a1 := SB.2.1 a ha
  have b1 := SB.2.1 b hb
  have c1 := SB.2.1 c hc
  have t := pg_tn_b SB ha hb hc
  have g1 := pg_gp_b SB ha hb
  have g2 := pg_gp_b SB ha hc
  have hd : -14400000000 ≤ pg_cD X Y a b c ∧ pg_cD X Y a b c ≤ 14400000000 := by unfold pg_cD; omega
  have m1 := pg_mulb (a := pg_cD X Y a b c) (b := X a) (A := 14400000000) (B := 30000) (by omega) (by omega) (by omega) (by omega)
  have m2 := pg_mulb (a := pg_cD X Y a b c) (b := Y a) (A := 14400000000) (B := 30000) (by omega) (by omega) (by omega) (by omega)
  have m3 := pg_mulb (a := Y c - Y a) (b := pg_gp X Y a b) (A := 60000) (B := 7200000000) (by omega) (by omega) (by omega) (by omega)
  have m4 := pg_mulb (a := Y b - Y a) (b := pg_gp X Y a c) (A := 60000) (B := 7200000000) (by omega) (by omega) (by omega) (by omega)
  have m5 := pg_mulb (a := X b - X a) (b := pg_gp X Y a c) (A := 60000) (B := 7200000000) (by omega) (by omega) (by omega) (by omega)
  have m6 := pg_mulb (a := X c - X a) (b := pg_gp X Y a b) (A := 60000) (B := 7200000000) (by omega) (by omega) (by omega) (by omega)
  unfold pg_cX pg_cY
  omega
theorem pg_cG_b {n : Nat} {X Y : Nat → Int} (SB : pg_ok n X Y) {a b c : Nat} (ha : a < n) (hb : b < n) (hc : c < n) (ht : pg_tn X Y a b c ≠ 0) : 0 < pg_cG X Y a b c ∧ pg_cG X Y a b c ≤ 14400000000 := by
  have h := (pg_c_b SB ha hb hc).2.2
  have hd : 0 < (pg_cD X Y a b c).natAbs := by unfold pg_cD; omega
  unfold pg_cG
  have h2 := Nat.le_of_dvd hd (Nat.gcd_dvd_right (Nat.gcd (pg_cX X Y a b c).natAbs (pg_cY X Y a b c).natAbs) (pg_cD X Y a b c).natAbs)
  exact ⟨Nat.gcd_pos_of_pos_right _ hd, by omega⟩
/-- the quotient with a sign, both ways -/
theorem pg_quo {p g : Int} (h1 : -4611686018427387904 < p) (h2 : p < 4611686018427387904) (h3 : 0 < g) (h4 : g < 4611686018427387904) : lI p / lI (-g) = -(lI p / lI g) := by
  have e : ∀ q : Int, -4611686018427387904 < q → q < 4611686018427387904 → lI p / lI q = lI (p.tdiv q) := by
    intro q q1 q2
    rw [← Int64.toInt_inj, Int64.toInt_div_of_ne_left _ _ (by
      intro z
      have := congrArg Int64.toInt z
      rw [lI_toInt (by omega) (by omega)] at this
      have m : (Int64.minValue).toInt = -9223372036854775808 := by decide
      omega), lI_toInt (by omega) (by omega), lI_toInt (by omega) (by omega)]
    have b := Int.natAbs_tdiv_le_natAbs p q
    rw [lI_toInt (by omega) (by omega)]
  rw [e (-g) (by omega) (by omega), e g (by omega) (by omega), Int.tdiv_neg, lI_neg]
theorem pg_C3 {X Y : Nat → Int} {a b c k : Nat} : (k = 0 → pg_cP X Y a b c k = pg_cX X Y a b c) ∧ (k = 1 → pg_cP X Y a b c k = pg_cY X Y a b c) ∧ (k ≠ 0 → k ≠ 1 → pg_cP X Y a b c k = pg_cD X Y a b c) := by
  refine ⟨fun h => ?_, fun h => ?_, fun h1 h2 => ?_⟩
  · simp [pg_cP, h]
  · simp [pg_cP, h]
  · simp [pg_cP, h1, h2]
theorem pg_gcd_b {x y : Int} (h1 : x.natAbs < 4611686018427387904) (h2 : y.natAbs < 4611686018427387904) : ((Nat.gcd x.natAbs y.natAbs : Nat) : Int) < 4611686018427387904 := by
  by_cases h : x.natAbs = 0
  · rw [h, Nat.gcd_zero_left]
    omega
  · have := Nat.le_of_dvd (show 0 < x.natAbs by omega) (Nat.gcd_dvd_left x.natAbs y.natAbs)
    omega
abbrev rmX0_centre : Room := { frames := 2, cells := 0, slots := 0, locals := 62 }
set_option maxRecDepth 20000 in
theorem cwX0_centre_69 : Jvm.Cond.constantLong RX0 69 (2) ∈ wsX0_centre := by decide +kernel
set_option maxRecDepth 20000 in
set_option maxHeartbeats 4000000 in
theorem mtX0_centre (SB : pg_ok n X Y) (ht : tc ≤ 23) (hTT : pg_TTs n tc TT LE MI GE) (hnl : ∀ t, t < tc → pg_tn X Y (LE t) (MI t) (GE t) ≠ 0) (i v : Int32) : gz_Kl l yX0_centre wsX0_centre rmX0_centre D [(cI, .int), (cJ, .long)] [.ref (ad 0), .int i, .int v] (wC ad cI n X Y tc TT NB RG rc KT kc tl GR) (fun r w1 => ((∃ a k, a < tc ∧ k < 3 ∧ i = nI a ∧ v = nI k ∧ r = (if pg_cD X Y (LE a) (MI a) (GE a) < 0 then -(lI (pg_cP X Y (LE a) (MI a) (GE a) k) / lI ((pg_cG X Y (LE a) (MI a) (GE a) : Nat) : Int)) else lI (pg_cP X Y (LE a) (MI a) (GE a) k) / lI ((pg_cG X Y (LE a) (MI a) (GE a) : Nat) : Int))) ∨ (¬ (gz_Ix i tc ∧ gz_Ix v 3) ∧ r = 0)) ∧ w1 = (wC ad cI n X Y tc TT NB RG rc KT kc tl GR)) := by
  refine gz_ofl (cc := cX0_centre) (maxL := 20) (own := RX0) (by decide +kernel) rfl rfl rfl (Nat.le_of_ble_eq_true rfl) ?_
  intro z E ret
  have hn := SB.1
  show gz_G z _ 0 [(0, .ref (ad 0)), (1, .int i), (2, .int v)] []
  have main : ∀ a0 k, a0 < tc → k < 3 → i = nI a0 → v = nI k → gz_G z (wC ad cI n X Y tc TT NB RG rc KT kc tl GR) 19 [(0, .ref (ad 0)), (1, .int (nI a0)), (2, .int (nI k))] [] := by
    intro a0 k ha0 hk hia hvk
    obtain ⟨t1, t2, t3, t4⟩ := hTT a0 ha0
    have hT4 : TT a0 < 4096 := by omega
    obtain ⟨c0, c1, c2⟩ := pg_TTs_c hn hTT ha0
    have hnz := hnl a0 ha0
    have ha : LE a0 < n := by omega
    have hb : MI a0 < n := by omega
    have hc : GE a0 < n := by omega
    obtain ⟨⟨x1, x2⟩, ⟨y1, y2⟩, d1, d2⟩ := pg_c_b SB ha hb hc
    have gb := pg_cG_b SB ha hb hc hnz
    have tb := pg_tn_b SB ha hb hc
    obtain ⟨k0, k1, k2⟩ := pg_C3 (X := X) (Y := Y) (a := LE a0) (b := MI a0) (c := GE a0) (k := k)
    refine gz_aload_n E dX0_centre_19 rfl rfl ?_
    refine gz_iload_n E dX0_centre_20 rfl rfl ?_
    refine gz_iconst (v := nI 0) E dX0_centre_21 (by decide) ?_
    refine gz_cali (n := 2) E 0 dX0_centre_22 gX0_centre_X0_triangleCorner (mtX0_triangleCorner ht (by assumption) (by assumption) (by decide)) rfl rfl ⟨rfl, rfl⟩ (by decide +kernel) ⟨Nat.le_of_ble_eq_true rfl, Nat.le_of_ble_eq_true rfl⟩ rfl rfl rfl rfl (Nat.le_of_ble_eq_true rfl) (fun r22 w22 hr22 => ?_)
    obtain ⟨rfl, rfl⟩ := hr22
    rw [c0]
    refine gz_istore_n (lv' := [(0, _), (1, _), (2, _), (3, _)]) E dX0_centre_25 rfl (by decide) rfl ?_
    refine gz_aload_n E dX0_centre_26 rfl rfl ?_
    refine gz_iload_n E dX0_centre_27 rfl rfl ?_
    refine gz_iconst (v := nI 1) E dX0_centre_28 (by decide) ?_
    refine gz_cali (n := 2) E 0 dX0_centre_29 gX0_centre_X0_triangleCorner (mtX0_triangleCorner ht (by assumption) (by assumption) (by decide)) rfl rfl ⟨rfl, rfl⟩ (by decide +kernel) ⟨Nat.le_of_ble_eq_true rfl, Nat.le_of_ble_eq_true rfl⟩ rfl rfl rfl rfl (Nat.le_of_ble_eq_true rfl) (fun r29 w29 hr29 => ?_)
    obtain ⟨rfl, rfl⟩ := hr29
    rw [c1]
    refine gz_istore (lv' := [(0, _), (1, _), (2, _), (3, _), (4, _)]) E dX0_centre_32 (by decide) rfl ?_
    refine gz_aload_n E dX0_centre_34 rfl rfl ?_
    refine gz_iload_n E dX0_centre_35 rfl rfl ?_
    refine gz_iconst (v := nI 2) E dX0_centre_36 (by decide) ?_
    refine gz_cali (n := 2) E 0 dX0_centre_37 gX0_centre_X0_triangleCorner (mtX0_triangleCorner ht (by assumption) (by assumption) (by decide)) rfl rfl ⟨rfl, rfl⟩ (by decide +kernel) ⟨Nat.le_of_ble_eq_true rfl, Nat.le_of_ble_eq_true rfl⟩ rfl rfl rfl rfl (Nat.le_of_ble_eq_true rfl) (fun r37 w37 hr37 => ?_)
    obtain ⟨rfl, rfl⟩ := hr37
    rw [c2]
    refine gz_istore (lv' := [(0, _), (1, _), (2, _), (3, _), (4, _), (5, _)]) E dX0_centre_40 (by decide) rfl ?_
    refine gz_ldc2 (v := lI 2) E dX0_centre_42 cwX0_centre_69 ?_
    refine gz_aload_n E dX0_centre_45 rfl rfl ?_
    refine gz_iload_n E dX0_centre_46 rfl rfl ?_
    refine gz_iload E dX0_centre_47 rfl ?_
    refine gz_iload E dX0_centre_49 rfl ?_
    refine gz_call (n := 3) E 0 dX0_centre_51 gX0_centre_X0_turn (mtX0_turn SB (by assumption) (by assumption) (by assumption)) rfl rfl ⟨rfl, rfl⟩ (by decide +kernel) ⟨Nat.le_of_ble_eq_true rfl, Nat.le_of_ble_eq_true rfl⟩ rfl rfl rfl rfl (Nat.le_of_ble_eq_true rfl) (fun r51 w51 hr51 => ?_)
    obtain ⟨rfl, rfl⟩ := hr51
    refine gz_lmulL E dX0_centre_54 ?_
    refine gz_s (show _ = [Value.long (lI (pg_cD X Y (LE a0) (MI a0) (GE a0)))] from rfl) ?_
    refine gz_lstore (lv' := [(0, _), (1, _), (2, _), (3, _), (4, _), (5, _), (6, _)]) E dX0_centre_55 (by decide) rfl ?_
    refine gz_aload_n E dX0_centre_57 rfl rfl ?_
    refine gz_iload_n E dX0_centre_58 rfl rfl ?_
    refine gz_iload E dX0_centre_59 rfl ?_
    refine gz_call (n := 2) E 0 dX0_centre_61 gX0_centre_X0_gap (mtX0_gap SB (by assumption) (by assumption)) rfl rfl ⟨rfl, rfl⟩ (by decide +kernel) ⟨Nat.le_of_ble_eq_true rfl, Nat.le_of_ble_eq_true rfl⟩ rfl rfl rfl rfl (Nat.le_of_ble_eq_true rfl) (fun r61 w61 hr61 => ?_)
    obtain ⟨rfl, rfl⟩ := hr61
    refine gz_lstore (lv' := [(0, _), (1, _), (2, _), (3, _), (4, _), (5, _), (6, _), (8, _)]) E dX0_centre_64 (by decide) rfl ?_
    refine gz_aload_n E dX0_centre_66 rfl rfl ?_
    refine gz_iload_n E dX0_centre_67 rfl rfl ?_
    refine gz_iload E dX0_centre_68 rfl ?_
    refine gz_call (n := 2) E 0 dX0_centre_70 gX0_centre_X0_gap (mtX0_gap SB (by assumption) (by assumption)) rfl rfl ⟨rfl, rfl⟩ (by decide +kernel) ⟨Nat.le_of_ble_eq_true rfl, Nat.le_of_ble_eq_true rfl⟩ rfl rfl rfl rfl (Nat.le_of_ble_eq_true rfl) (fun r70 w70 hr70 => ?_)
    obtain ⟨rfl, rfl⟩ := hr70
    refine gz_lstore (lv' := [(0, _), (1, _), (2, _), (3, _), (4, _), (5, _), (6, _), (8, _), (10, _)]) E dX0_centre_73 (by decide) rfl ?_
    refine gz_lload E dX0_centre_75 rfl ?_
    refine gz_aload_n E dX0_centre_77 rfl rfl ?_
    refine gz_iload_n E dX0_centre_78 rfl rfl ?_
    refine gz_call (n := 1) E 0 dX0_centre_79 gX0_centre_X0_xOf (mtX0_xOf SB (by assumption)) rfl rfl ⟨rfl, rfl⟩ (by decide +kernel) ⟨Nat.le_of_ble_eq_true rfl, Nat.le_of_ble_eq_true rfl⟩ rfl rfl rfl rfl (Nat.le_of_ble_eq_true rfl) (fun r79 w79 hr79 => ?_)
    obtain ⟨rfl, rfl⟩ := hr79
    refine gz_lmulL E dX0_centre_82 ?_
    refine gz_aload_n E dX0_centre_83 rfl rfl ?_
    refine gz_iload E dX0_centre_84 rfl ?_
    refine gz_call (n := 1) E 0 dX0_centre_86 gX0_centre_X0_yOf (mtX0_yOf SB (by assumption)) rfl rfl ⟨rfl, rfl⟩ (by decide +kernel) ⟨Nat.le_of_ble_eq_true rfl, Nat.le_of_ble_eq_true rfl⟩ rfl rfl rfl rfl (Nat.le_of_ble_eq_true rfl) (fun r86 w86 hr86 => ?_)
    obtain ⟨rfl, rfl⟩ := hr86
    refine gz_aload_n E dX0_centre_89 rfl rfl ?_
    refine gz_iload_n E dX0_centre_90 rfl rfl ?_
    refine gz_call (n := 1) E 0 dX0_centre_91 gX0_centre_X0_yOf (mtX0_yOf SB (by assumption)) rfl rfl ⟨rfl, rfl⟩ (by decide +kernel) ⟨Nat.le_of_ble_eq_true rfl, Nat.le_of_ble_eq_true rfl⟩ rfl rfl rfl rfl (Nat.le_of_ble_eq_true rfl) (fun r91 w91 hr91 => ?_)
    obtain ⟨rfl, rfl⟩ := hr91
    refine gz_lsubL E dX0_centre_94 ?_
    refine gz_lload E dX0_centre_95 rfl ?_
    refine gz_lmulL E dX0_centre_97 ?_
    refine gz_laddL E dX0_centre_98 ?_
    refine gz_aload_n E dX0_centre_99 rfl rfl ?_
    refine gz_iload E dX0_centre_100 rfl ?_
    refine gz_call (n := 1) E 0 dX0_centre_102 gX0_centre_X0_yOf (mtX0_yOf SB (by assumption)) rfl rfl ⟨rfl, rfl⟩ (by decide +kernel) ⟨Nat.le_of_ble_eq_true rfl, Nat.le_of_ble_eq_true rfl⟩ rfl rfl rfl rfl (Nat.le_of_ble_eq_true rfl) (fun r102 w102 hr102 => ?_)
    obtain ⟨rfl, rfl⟩ := hr102
    refine gz_aload_n E dX0_centre_105 rfl rfl ?_
    refine gz_iload_n E dX0_centre_106 rfl rfl ?_
    refine gz_call (n := 1) E 0 dX0_centre_107 gX0_centre_X0_yOf (mtX0_yOf SB (by assumption)) rfl rfl ⟨rfl, rfl⟩ (by decide +kernel) ⟨Nat.le_of_ble_eq_true rfl, Nat.le_of_ble_eq_true rfl⟩ rfl rfl rfl rfl (Nat.le_of_ble_eq_true rfl) (fun r107 w107 hr107 => ?_)
    obtain ⟨rfl, rfl⟩ := hr107
    refine gz_lsubL E dX0_centre_110 ?_
    refine gz_lload E dX0_centre_111 rfl ?_
    refine gz_lmulL E dX0_centre_113 ?_
    refine gz_lsubL E dX0_centre_114 ?_
    refine gz_s (show _ = [Value.long (lI (pg_cX X Y (LE a0) (MI a0) (GE a0)))] from rfl) ?_
    refine gz_lstore (lv' := [(0, _), (1, _), (2, _), (3, _), (4, _), (5, _), (6, _), (8, _), (10, _), (12, _)]) E dX0_centre_115 (by decide) rfl ?_
    refine gz_lload E dX0_centre_117 rfl ?_
    refine gz_aload_n E dX0_centre_119 rfl rfl ?_
    refine gz_iload_n E dX0_centre_120 rfl rfl ?_
    refine gz_call (n := 1) E 0 dX0_centre_121 gX0_centre_X0_yOf (mtX0_yOf SB (by assumption)) rfl rfl ⟨rfl, rfl⟩ (by decide +kernel) ⟨Nat.le_of_ble_eq_true rfl, Nat.le_of_ble_eq_true rfl⟩ rfl rfl rfl rfl (Nat.le_of_ble_eq_true rfl) (fun r121 w121 hr121 => ?_)
    obtain ⟨rfl, rfl⟩ := hr121
    refine gz_lmulL E dX0_centre_124 ?_
    refine gz_aload_n E dX0_centre_125 rfl rfl ?_
    refine gz_iload E dX0_centre_126 rfl ?_
    refine gz_call (n := 1) E 0 dX0_centre_128 gX0_centre_X0_xOf (mtX0_xOf SB (by assumption)) rfl rfl ⟨rfl, rfl⟩ (by decide +kernel) ⟨Nat.le_of_ble_eq_true rfl, Nat.le_of_ble_eq_true rfl⟩ rfl rfl rfl rfl (Nat.le_of_ble_eq_true rfl) (fun r128 w128 hr128 => ?_)
    obtain ⟨rfl, rfl⟩ := hr128
    refine gz_aload_n E dX0_centre_131 rfl rfl ?_
    refine gz_iload_n E dX0_centre_132 rfl rfl ?_
    refine gz_call (n := 1) E 0 dX0_centre_133 gX0_centre_X0_xOf (mtX0_xOf SB (by assumption)) rfl rfl ⟨rfl, rfl⟩ (by decide +kernel) ⟨Nat.le_of_ble_eq_true rfl, Nat.le_of_ble_eq_true rfl⟩ rfl rfl rfl rfl (Nat.le_of_ble_eq_true rfl) (fun r133 w133 hr133 => ?_)
    obtain ⟨rfl, rfl⟩ := hr133
    refine gz_lsubL E dX0_centre_136 ?_
    refine gz_lload E dX0_centre_137 rfl ?_
    refine gz_lmulL E dX0_centre_139 ?_
    refine gz_laddL E dX0_centre_140 ?_
    refine gz_aload_n E dX0_centre_141 rfl rfl ?_
    refine gz_iload E dX0_centre_142 rfl ?_
    refine gz_call (n := 1) E 0 dX0_centre_144 gX0_centre_X0_xOf (mtX0_xOf SB (by assumption)) rfl rfl ⟨rfl, rfl⟩ (by decide +kernel) ⟨Nat.le_of_ble_eq_true rfl, Nat.le_of_ble_eq_true rfl⟩ rfl rfl rfl rfl (Nat.le_of_ble_eq_true rfl) (fun r144 w144 hr144 => ?_)
    obtain ⟨rfl, rfl⟩ := hr144
    refine gz_aload_n E dX0_centre_147 rfl rfl ?_
    refine gz_iload_n E dX0_centre_148 rfl rfl ?_
    refine gz_call (n := 1) E 0 dX0_centre_149 gX0_centre_X0_xOf (mtX0_xOf SB (by assumption)) rfl rfl ⟨rfl, rfl⟩ (by decide +kernel) ⟨Nat.le_of_ble_eq_true rfl, Nat.le_of_ble_eq_true rfl⟩ rfl rfl rfl rfl (Nat.le_of_ble_eq_true rfl) (fun r149 w149 hr149 => ?_)
    obtain ⟨rfl, rfl⟩ := hr149
    refine gz_lsubL E dX0_centre_152 ?_
    refine gz_lload E dX0_centre_153 rfl ?_
    refine gz_lmulL E dX0_centre_155 ?_
    refine gz_lsubL E dX0_centre_156 ?_
    refine gz_s (show _ = [Value.long (lI (pg_cY X Y (LE a0) (MI a0) (GE a0)))] from rfl) ?_
    refine gz_lstore (lv' := [(0, _), (1, _), (2, _), (3, _), (4, _), (5, _), (6, _), (8, _), (10, _), (12, _), (14, _)]) E dX0_centre_157 (by decide) rfl ?_
    refine gz_lload E dX0_centre_159 rfl ?_
    refine gz_lload E dX0_centre_161 rfl ?_
    refine gz_statl (n := 2) E dX0_centre_163 gX0_centre_X0_commonDivisor (mtX0_commonDivisor (by omega) (by omega) (by omega) (by omega)) rfl ⟨rfl, rfl⟩ (by decide +kernel) ⟨Nat.le_of_ble_eq_true rfl, Nat.le_of_ble_eq_true rfl⟩ rfl rfl (Nat.le_of_ble_eq_true rfl) (fun r163 hr163 => ?_)
    subst hr163
    have gxy : ((Nat.gcd (pg_cX X Y (LE a0) (MI a0) (GE a0)).natAbs (pg_cY X Y (LE a0) (MI a0) (GE a0)).natAbs : Nat) : Int) < 4611686018427387904 := pg_gcd_b (by omega) (by omega)
    refine gz_lload E dX0_centre_166 rfl ?_
    refine gz_statl (n := 2) E dX0_centre_168 gX0_centre_X0_commonDivisor (mtX0_commonDivisor (by omega) (by omega) (by omega) (by omega)) rfl ⟨rfl, rfl⟩ (by decide +kernel) ⟨Nat.le_of_ble_eq_true rfl, Nat.le_of_ble_eq_true rfl⟩ rfl rfl (Nat.le_of_ble_eq_true rfl) (fun r168 hr168 => ?_)
    subst hr168
    refine gz_s (show _ = [Value.long (lI ((pg_cG X Y (LE a0) (MI a0) (GE a0) : Nat) : Int))] from by first | rfl | (simp only [Int.natAbs_natCast]; rfl)) ?_
    refine gz_lstore (lv' := [(0, _), (1, _), (2, _), (3, _), (4, _), (5, _), (6, _), (8, _), (10, _), (12, _), (14, _), (16, _)]) E dX0_centre_171 (by decide) rfl ?_
    refine gz_lload E dX0_centre_173 rfl ?_
    refine gz_lconst (v := lI 0) E dX0_centre_175 (by decide) ?_
    refine gz_lcL_ne (tgt := 182) E dX0_centre_176 dX0_centre_177 (by decide) (by omega) (by omega) (by omega) (by omega) (fun q176 => ?_) (fun q176 => ?_)
    · skip
      refine gz_iload_n E dX0_centre_182 rfl rfl ?_
      refine gz_ifN_ne (tgt := 191) E dX0_centre_183 (by decide) (by omega) (fun q183 => ?_) (fun q183 => ?_)
      · skip
        refine gz_iload_n E dX0_centre_191 rfl rfl ?_
        refine gz_iconst (v := nI 1) E dX0_centre_192 (by decide) ?_
        refine gz_icN_ne (tgt := 201) E dX0_centre_193 (by decide) (by omega) (by omega) (fun q193 => ?_) (fun q193 => ?_)
        · skip
          refine gz_lload E dX0_centre_201 rfl ?_
          refine gz_s (show _ = [Value.long (lI (pg_cP X Y (LE a0) (MI a0) (GE a0) k))] from by first | rw [k0 q183] | rw [k1 q193] | rw [k2 q183 q193]) ?_
          refine gz_lstore (lv' := [(0, _), (1, _), (2, _), (3, _), (4, _), (5, _), (6, _), (8, _), (10, _), (12, _), (14, _), (16, _), (18, _)]) E dX0_centre_203 (by decide) rfl ?_
          refine gz_lload E dX0_centre_205 rfl ?_
          refine gz_lconst (v := lI 0) E dX0_centre_207 (by decide) ?_
          refine gz_lcL_ge (tgt := 221) E dX0_centre_208 dX0_centre_209 (by decide) (by omega) (by omega) (by omega) (by omega) (fun q208 => ?_) (fun q208 => ?_)
          · skip
            refine gz_lload E dX0_centre_221 rfl ?_
            refine gz_lload E dX0_centre_223 rfl ?_
            refine gz_ldiv E dX0_centre_225 (lI_ne0 (by omega) (by omega) (by omega)) ?_
            first
              | exact ret _ _ _ _ dX0_centre_226 ⟨Or.inl ⟨a0, k, ha0, hk, hia, hvk, by rw [if_pos q208]⟩, rfl⟩
              | exact ret _ _ _ _ dX0_centre_226 ⟨Or.inl ⟨a0, k, ha0, hk, hia, hvk, by rw [if_neg (by omega)]⟩, rfl⟩
          · skip
            refine gz_lload E dX0_centre_212 rfl ?_
            refine gz_lload E dX0_centre_214 rfl ?_
            refine gz_ldiv E dX0_centre_216 (lI_ne0 (by omega) (by omega) (by omega)) ?_
            refine gz_lneg E dX0_centre_217 ?_
            refine gz_goto (tgt := 226) E dX0_centre_218 (by decide) ?_
            first
              | exact ret _ _ _ _ dX0_centre_226 ⟨Or.inl ⟨a0, k, ha0, hk, hia, hvk, by rw [if_pos q208]⟩, rfl⟩
              | exact ret _ _ _ _ dX0_centre_226 ⟨Or.inl ⟨a0, k, ha0, hk, hia, hvk, by rw [if_neg (by omega)]⟩, rfl⟩
        · skip
          refine gz_lload E dX0_centre_196 rfl ?_
          refine gz_goto (tgt := 203) E dX0_centre_198 (by decide) ?_
          refine gz_s (show _ = [Value.long (lI (pg_cP X Y (LE a0) (MI a0) (GE a0) k))] from by first | rw [k0 q183] | rw [k1 q193] | rw [k2 q183 q193]) ?_
          refine gz_lstore (lv' := [(0, _), (1, _), (2, _), (3, _), (4, _), (5, _), (6, _), (8, _), (10, _), (12, _), (14, _), (16, _), (18, _)]) E dX0_centre_203 (by decide) rfl ?_
          refine gz_lload E dX0_centre_205 rfl ?_
          refine gz_lconst (v := lI 0) E dX0_centre_207 (by decide) ?_
          refine gz_lcL_ge (tgt := 221) E dX0_centre_208 dX0_centre_209 (by decide) (by omega) (by omega) (by omega) (by omega) (fun q208 => ?_) (fun q208 => ?_)
          · skip
            refine gz_lload E dX0_centre_221 rfl ?_
            refine gz_lload E dX0_centre_223 rfl ?_
            refine gz_ldiv E dX0_centre_225 (lI_ne0 (by omega) (by omega) (by omega)) ?_
            first
              | exact ret _ _ _ _ dX0_centre_226 ⟨Or.inl ⟨a0, k, ha0, hk, hia, hvk, by rw [if_pos q208]⟩, rfl⟩
              | exact ret _ _ _ _ dX0_centre_226 ⟨Or.inl ⟨a0, k, ha0, hk, hia, hvk, by rw [if_neg (by omega)]⟩, rfl⟩
          · skip
            refine gz_lload E dX0_centre_212 rfl ?_
            refine gz_lload E dX0_centre_214 rfl ?_
            refine gz_ldiv E dX0_centre_216 (lI_ne0 (by omega) (by omega) (by omega)) ?_
            refine gz_lneg E dX0_centre_217 ?_
            refine gz_goto (tgt := 226) E dX0_centre_218 (by decide) ?_
            first
              | exact ret _ _ _ _ dX0_centre_226 ⟨Or.inl ⟨a0, k, ha0, hk, hia, hvk, by rw [if_pos q208]⟩, rfl⟩
              | exact ret _ _ _ _ dX0_centre_226 ⟨Or.inl ⟨a0, k, ha0, hk, hia, hvk, by rw [if_neg (by omega)]⟩, rfl⟩
      · skip
        refine gz_lload E dX0_centre_186 rfl ?_
        refine gz_goto (tgt := 203) E dX0_centre_188 (by decide) ?_
        refine gz_s (show _ = [Value.long (lI (pg_cP X Y (LE a0) (MI a0) (GE a0) k))] from by first | rw [k0 q183] | rw [k1 q193] | rw [k2 q183 q193]) ?_
        refine gz_lstore (lv' := [(0, _), (1, _), (2, _), (3, _), (4, _), (5, _), (6, _), (8, _), (10, _), (12, _), (14, _), (16, _), (18, _)]) E dX0_centre_203 (by decide) rfl ?_
        refine gz_lload E dX0_centre_205 rfl ?_
        refine gz_lconst (v := lI 0) E dX0_centre_207 (by decide) ?_
        refine gz_lcL_ge (tgt := 221) E dX0_centre_208 dX0_centre_209 (by decide) (by omega) (by omega) (by omega) (by omega) (fun q208 => ?_) (fun q208 => ?_)
        · skip
          refine gz_lload E dX0_centre_221 rfl ?_
          refine gz_lload E dX0_centre_223 rfl ?_
          refine gz_ldiv E dX0_centre_225 (lI_ne0 (by omega) (by omega) (by omega)) ?_
          first
            | exact ret _ _ _ _ dX0_centre_226 ⟨Or.inl ⟨a0, k, ha0, hk, hia, hvk, by rw [if_pos q208]⟩, rfl⟩
            | exact ret _ _ _ _ dX0_centre_226 ⟨Or.inl ⟨a0, k, ha0, hk, hia, hvk, by rw [if_neg (by omega)]⟩, rfl⟩
        · skip
          refine gz_lload E dX0_centre_212 rfl ?_
          refine gz_lload E dX0_centre_214 rfl ?_
          refine gz_ldiv E dX0_centre_216 (lI_ne0 (by omega) (by omega) (by omega)) ?_
          refine gz_lneg E dX0_centre_217 ?_
          refine gz_goto (tgt := 226) E dX0_centre_218 (by decide) ?_
          first
            | exact ret _ _ _ _ dX0_centre_226 ⟨Or.inl ⟨a0, k, ha0, hk, hia, hvk, by rw [if_pos q208]⟩, rfl⟩
            | exact ret _ _ _ _ dX0_centre_226 ⟨Or.inl ⟨a0, k, ha0, hk, hia, hvk, by rw [if_neg (by omega)]⟩, rfl⟩
    · exact absurd q176 (by omega)
  refine gz_aload_n E dX0_centre_0 rfl rfl ?_
  refine gz_iload_n E dX0_centre_1 rfl rfl ?_
  refine gz_cali (n := 1) E 0 dX0_centre_2 gX0_centre_X0_isTriangle (mtX0_isTriangle ht _) rfl rfl ⟨rfl, rfl⟩ (by decide +kernel) ⟨Nat.le_of_ble_eq_true rfl, Nat.le_of_ble_eq_true rfl⟩ rfl rfl rfl rfl (Nat.le_of_ble_eq_true rfl) (fun r2 w2 hr2 => ?_)
  obtain ⟨hr2, rfl⟩ := hr2
  refine gz_ifB_eq (tgt := 17) E hr2 dX0_centre_5 (by decide) (fun q5 => ?_) (fun q5 => ?_)
  · skip
    refine gz_lconst (v := lI 0) E dX0_centre_17 (by decide) ?_
    first
      | exact ret _ _ _ _ dX0_centre_18 ⟨Or.inr ⟨fun z => q5 z.1, rfl⟩, rfl⟩
      | exact ret _ _ _ _ dX0_centre_18 ⟨Or.inr ⟨fun z => gz_Ix_f1 (by decide) q9 z.2, rfl⟩, rfl⟩
      | exact ret _ _ _ _ dX0_centre_18 ⟨Or.inr ⟨fun z => gz_Ix3_f q14 z.2, rfl⟩, rfl⟩
  · skip
    refine gz_iload_n E dX0_centre_8 rfl rfl ?_
    refine gz_if_lt (tgt := 17) E dX0_centre_9 (by decide) (fun q9 => ?_) (fun q9 => ?_)
    · skip
      refine gz_lconst (v := lI 0) E dX0_centre_17 (by decide) ?_
      first
        | exact ret _ _ _ _ dX0_centre_18 ⟨Or.inr ⟨fun z => q5 z.1, rfl⟩, rfl⟩
        | exact ret _ _ _ _ dX0_centre_18 ⟨Or.inr ⟨fun z => gz_Ix_f1 (by decide) q9 z.2, rfl⟩, rfl⟩
        | exact ret _ _ _ _ dX0_centre_18 ⟨Or.inr ⟨fun z => gz_Ix3_f q14 z.2, rfl⟩, rfl⟩
    · skip
      refine gz_iload_n E dX0_centre_12 rfl rfl ?_
      refine gz_iconst (v := nI 2) E dX0_centre_13 (by decide) ?_
      refine gz_icmp_le (tgt := 19) E dX0_centre_14 (by decide) (fun q14 => ?_) (fun q14 => ?_)
      · skip
        obtain ⟨a, ha, rfl⟩ := q5
        obtain ⟨k, hk, rfl⟩ := gz_Ix3 q9 q14
        exact main a k ha hk rfl rfl
      · skip
        refine gz_lconst (v := lI 0) E dX0_centre_17 (by decide) ?_
        first
          | exact ret _ _ _ _ dX0_centre_18 ⟨Or.inr ⟨fun z => q5 z.1, rfl⟩, rfl⟩
          | exact ret _ _ _ _ dX0_centre_18 ⟨Or.inr ⟨fun z => gz_Ix_f1 (by decide) q9 z.2, rfl⟩, rfl⟩
          | exact ret _ _ _ _ dX0_centre_18 ⟨Or.inr ⟨fun z => gz_Ix3_f q14 z.2, rfl⟩, rfl⟩
end DG
section RG
variable {l : Launch} {D : va_G} {bd : Nat → Nat} {cI cJ : ClassId} {n mc ec kc : Nat} {X Y : Nat → Int} {LE MI GE CO LS GT GP : Nat → Nat} {tl : Int}
abbrev rmX1_sites : Room := { frames := 0, cells := 0, slots := 0, locals := 0 }
theorem inwX1_sites : ∀ w ∈ wsX10, w ∈ wsX1_sites := fun _ h => List.mem_cons_of_mem _ (List.mem_append_right _ h)
set_option maxRecDepth 20000 in
theorem flX1_sites_56 : Cond.fieldLink RX1 56 RX1 (TX1 0).2.1 (TX1 0).2.2.1 ∈ wsX1_sites := by decide +kernel
set_option maxRecDepth 20000 in
set_option maxHeartbeats 4000000 in
theorem mtX1_sites  : gz_Ki l yX1_sites wsX1_sites rmX1_sites D [(cI, .int), (cJ, .long)] [.ref (bd 0)] (wM bd cI cJ n X Y mc LE MI GE ec CO kc LS GT tl GP) (fun r w1 => r = nI n ∧ w1 = (wM bd cI cJ n X Y mc LE MI GE ec CO kc LS GT tl GP)) := by
  refine gz_ofi (cc := cX1_sites) (maxL := 1) (own := RX1) (by decide +kernel) rfl rfl rfl (Nat.le_of_ble_eq_true rfl) ?_
  intro z E ret
  show gz_G z _ 0 [(0, .ref (bd 0))] []
  refine gz_aload_n E dX1_sites_0 rfl rfl ?_
  refine gz_get E inwX1_sites 0 0 dX1_sites_1 flX1_sites_56 rfl rfl (by decide) rfl rfl ?_
  exact ret _ _ _ _ dX1_sites_4 rfl ⟨rfl, rfl⟩
abbrev rmX1_triangles : Room := { frames := 0, cells := 0, slots := 0, locals := 0 }
theorem inwX1_triangles : ∀ w ∈ wsX10, w ∈ wsX1_triangles := fun _ h => List.mem_cons_of_mem _ (List.mem_append_right _ h)
set_option maxRecDepth 20000 in
theorem flX1_triangles_64 : Cond.fieldLink RX1 64 RX1 (TX1 3).2.1 (TX1 3).2.2.1 ∈ wsX1_triangles := by decide +kernel
set_option maxRecDepth 20000 in
set_option maxHeartbeats 4000000 in
theorem mtX1_triangles  : gz_Ki l yX1_triangles wsX1_triangles rmX1_triangles D [(cI, .int), (cJ, .long)] [.ref (bd 0)] (wM bd cI cJ n X Y mc LE MI GE ec CO kc LS GT tl GP) (fun r w1 => r = nI mc ∧ w1 = (wM bd cI cJ n X Y mc LE MI GE ec CO kc LS GT tl GP)) := by
  refine gz_ofi (cc := cX1_triangles) (maxL := 1) (own := RX1) (by decide +kernel) rfl rfl rfl (Nat.le_of_ble_eq_true rfl) ?_
  intro z E ret
  show gz_G z _ 0 [(0, .ref (bd 0))] []
  refine gz_aload_n E dX1_triangles_0 rfl rfl ?_
  refine gz_get E inwX1_triangles 0 3 dX1_triangles_1 flX1_triangles_64 rfl rfl (by decide) rfl rfl ?_
  exact ret _ _ _ _ dX1_triangles_4 rfl ⟨rfl, rfl⟩
abbrev rmX1_corners : Room := { frames := 0, cells := 0, slots := 0, locals := 0 }
theorem inwX1_corners : ∀ w ∈ wsX10, w ∈ wsX1_corners := fun _ h => List.mem_cons_of_mem _ (List.mem_append_right _ h)
set_option maxRecDepth 20000 in
theorem flX1_corners_86 : Cond.fieldLink RX1 86 RX1 (TX1 7).2.1 (TX1 7).2.2.1 ∈ wsX1_corners := by decide +kernel
set_option maxRecDepth 20000 in
set_option maxHeartbeats 4000000 in
theorem mtX1_corners  : gz_Ki l yX1_corners wsX1_corners rmX1_corners D [(cI, .int), (cJ, .long)] [.ref (bd 0)] (wM bd cI cJ n X Y mc LE MI GE ec CO kc LS GT tl GP) (fun r w1 => r = nI ec ∧ w1 = (wM bd cI cJ n X Y mc LE MI GE ec CO kc LS GT tl GP)) := by
  refine gz_ofi (cc := cX1_corners) (maxL := 1) (own := RX1) (by decide +kernel) rfl rfl rfl (Nat.le_of_ble_eq_true rfl) ?_
  intro z E ret
  show gz_G z _ 0 [(0, .ref (bd 0))] []
  refine gz_aload_n E dX1_corners_0 rfl rfl ?_
  refine gz_get E inwX1_corners 0 7 dX1_corners_1 flX1_corners_86 rfl rfl (by decide) rfl rfl ?_
  exact ret _ _ _ _ dX1_corners_4 rfl ⟨rfl, rfl⟩
abbrev rmX1_total : Room := { frames := 0, cells := 0, slots := 0, locals := 0 }
theorem inwX1_total : ∀ w ∈ wsX10, w ∈ wsX1_total := fun _ h => List.mem_cons_of_mem _ (List.mem_append_right _ h)
set_option maxRecDepth 20000 in
theorem flX1_total_96 : Cond.fieldLink RX1 96 RX1 (TX1 12).2.1 (TX1 12).2.2.1 ∈ wsX1_total := by decide +kernel
set_option maxRecDepth 20000 in
set_option maxHeartbeats 4000000 in
theorem mtX1_total  : gz_Kl l yX1_total wsX1_total rmX1_total D [(cI, .int), (cJ, .long)] [.ref (bd 0)] (wM bd cI cJ n X Y mc LE MI GE ec CO kc LS GT tl GP) (fun r w1 => r = lI tl ∧ w1 = (wM bd cI cJ n X Y mc LE MI GE ec CO kc LS GT tl GP)) := by
  refine gz_ofl (cc := cX1_total) (maxL := 1) (own := RX1) (by decide +kernel) rfl rfl rfl (Nat.le_of_ble_eq_true rfl) ?_
  intro z E ret
  show gz_G z _ 0 [(0, .ref (bd 0))] []
  refine gz_aload_n E dX1_total_0 rfl rfl ?_
  refine gz_get E inwX1_total 0 12 dX1_total_1 flX1_total_96 rfl rfl (by decide) rfl rfl ?_
  exact ret _ _ _ _ dX1_total_4 ⟨rfl, rfl⟩
abbrev rmX1_corner : Room := { frames := 0, cells := 0, slots := 0, locals := 0 }
theorem inwX1_corner : ∀ w ∈ wsX10, w ∈ wsX1_corner := fun _ h => List.mem_cons_of_mem _ (List.mem_append_right _ h)
set_option maxRecDepth 20000 in
theorem flX1_corner_86 : Cond.fieldLink RX1 86 RX1 (TX1 7).2.1 (TX1 7).2.2.1 ∈ wsX1_corner := by decide +kernel
set_option maxRecDepth 20000 in
theorem flX1_corner_26 : Cond.fieldLink RX1 26 RX1 (TX1 8).2.1 (TX1 8).2.2.1 ∈ wsX1_corner := by decide +kernel
set_option maxRecDepth 20000 in
set_option maxHeartbeats 4000000 in
theorem mtX1_corner (hn : ec ≤ 14) (x : Int32) : gz_Ki l yX1_corner wsX1_corner rmX1_corner D [(cI, .int), (cJ, .long)] [.ref (bd 0), .int x] (wM bd cI cJ n X Y mc LE MI GE ec CO kc LS GT tl GP) (fun r w1 => ((∃ k, k < ec ∧ x = nI k ∧ r = nI (CO k)) ∨ (¬ gz_Ix x ec ∧ r = -1)) ∧ w1 = (wM bd cI cJ n X Y mc LE MI GE ec CO kc LS GT tl GP)) := by
  refine gz_ofi (cc := cX1_corner) (maxL := 2) (own := RX1) (by decide +kernel) rfl rfl rfl (Nat.le_of_ble_eq_true rfl) ?_
  intro z E ret
  show gz_G z _ 0 [(0, .ref (bd 0)), (1, .int x)] []
  refine gz_iload_n E dX1_corner_0 rfl rfl ?_
  refine gz_if_lt (tgt := 12) E dX1_corner_1 (by decide) (fun q1 => ?_) (fun q1 => ?_)
  · skip
    refine gz_iconst (v := -1) E dX1_corner_12 (by decide) ?_
    refine gz_goto (tgt := 22) E dX1_corner_13 (by decide) ?_
    first | exact ret _ _ _ _ dX1_corner_22 rfl ⟨Or.inr ⟨gz_Ix_f1 (by omega) q1, rfl⟩, rfl⟩ | exact ret _ _ _ _ dX1_corner_22 rfl ⟨Or.inr ⟨gz_Ix_f2 (by omega) (Int32.not_lt.mp q9), rfl⟩, rfl⟩ | exact ret _ _ _ _ dX1_corner_22 rfl ⟨Or.inl ⟨k, hk, rfl, rfl⟩, rfl⟩
  · skip
    refine gz_iload_n E dX1_corner_4 rfl rfl ?_
    refine gz_aload_n E dX1_corner_5 rfl rfl ?_
    refine gz_get E inwX1_corner 0 7 dX1_corner_6 flX1_corner_86 rfl rfl (by decide) rfl rfl ?_
    refine gz_icmp_lt (tgt := 16) E dX1_corner_9 (by decide) (fun q9 => ?_) (fun q9 => ?_)
    · skip
      obtain ⟨k, hk, rfl⟩ := gz_Ix_t (by omega) q1 (Int32.not_le.mpr q9)
      refine gz_aload_n E dX1_corner_16 rfl rfl ?_
      refine gz_get E inwX1_corner 0 8 dX1_corner_17 flX1_corner_26 rfl rfl (by decide) rfl rfl ?_
      refine gz_iload_n E dX1_corner_20 rfl rfl ?_
      refine gz_ialdN E 6 0 dX1_corner_21 rfl rfl (by decide) rfl (by omega) ?_
      first | exact ret _ _ _ _ dX1_corner_22 rfl ⟨Or.inr ⟨gz_Ix_f1 (by omega) q1, rfl⟩, rfl⟩ | exact ret _ _ _ _ dX1_corner_22 rfl ⟨Or.inr ⟨gz_Ix_f2 (by omega) (Int32.not_lt.mp q9), rfl⟩, rfl⟩ | exact ret _ _ _ _ dX1_corner_22 rfl ⟨Or.inl ⟨k, hk, rfl, rfl⟩, rfl⟩
    · skip
      refine gz_iconst (v := -1) E dX1_corner_12 (by decide) ?_
      refine gz_goto (tgt := 22) E dX1_corner_13 (by decide) ?_
      first | exact ret _ _ _ _ dX1_corner_22 rfl ⟨Or.inr ⟨gz_Ix_f1 (by omega) q1, rfl⟩, rfl⟩ | exact ret _ _ _ _ dX1_corner_22 rfl ⟨Or.inr ⟨gz_Ix_f2 (by omega) (Int32.not_lt.mp q9), rfl⟩, rfl⟩ | exact ret _ _ _ _ dX1_corner_22 rfl ⟨Or.inl ⟨k, hk, rfl, rfl⟩, rfl⟩
abbrev rmX1_tree : Room := { frames := 0, cells := 0, slots := 0, locals := 0 }
theorem inwX1_tree : ∀ w ∈ wsX10, w ∈ wsX1_tree := fun _ h => List.mem_cons_of_mem _ (List.mem_append_right _ h)
set_option maxRecDepth 20000 in
theorem flX1_tree_93 : Cond.fieldLink RX1 93 RX1 (TX1 9).2.1 (TX1 9).2.2.1 ∈ wsX1_tree := by decide +kernel
set_option maxRecDepth 20000 in
theorem flX1_tree_29 : Cond.fieldLink RX1 29 RX1 (TX1 10).2.1 (TX1 10).2.2.1 ∈ wsX1_tree := by decide +kernel
set_option maxRecDepth 20000 in
theorem flX1_tree_32 : Cond.fieldLink RX1 32 RX1 (TX1 11).2.1 (TX1 11).2.2.1 ∈ wsX1_tree := by decide +kernel
set_option maxRecDepth 20000 in
set_option maxHeartbeats 4000000 in
theorem mtX1_tree (hn : kc ≤ 14) (x : Int32) : gz_Ki l yX1_tree wsX1_tree rmX1_tree D [(cI, .int), (cJ, .long)] [.ref (bd 0), .int x] (wM bd cI cJ n X Y mc LE MI GE ec CO kc LS GT tl GP) (fun r w1 => ((∃ k, k < kc ∧ x = nI k ∧ r = nI (LS k + 16 * GT k)) ∨ (¬ gz_Ix x kc ∧ r = -1)) ∧ w1 = (wM bd cI cJ n X Y mc LE MI GE ec CO kc LS GT tl GP)) := by
  refine gz_ofi (cc := cX1_tree) (maxL := 2) (own := RX1) (by decide +kernel) rfl rfl rfl (Nat.le_of_ble_eq_true rfl) ?_
  intro z E ret
  show gz_G z _ 0 [(0, .ref (bd 0)), (1, .int x)] []
  refine gz_iload_n E dX1_tree_0 rfl rfl ?_
  refine gz_if_lt (tgt := 12) E dX1_tree_1 (by decide) (fun q1 => ?_) (fun q1 => ?_)
  · skip
    refine gz_iconst (v := -1) E dX1_tree_12 (by decide) ?_
    refine gz_goto (tgt := 32) E dX1_tree_13 (by decide) ?_
    first | exact ret _ _ _ _ dX1_tree_32 rfl ⟨Or.inr ⟨gz_Ix_f1 (by omega) q1, rfl⟩, rfl⟩ | exact ret _ _ _ _ dX1_tree_32 rfl ⟨Or.inr ⟨gz_Ix_f2 (by omega) (Int32.not_lt.mp q9), rfl⟩, rfl⟩ | exact ret _ _ _ _ dX1_tree_32 rfl ⟨Or.inl ⟨k, hk, rfl, rfl⟩, rfl⟩
  · skip
    refine gz_iload_n E dX1_tree_4 rfl rfl ?_
    refine gz_aload_n E dX1_tree_5 rfl rfl ?_
    refine gz_get E inwX1_tree 0 9 dX1_tree_6 flX1_tree_93 rfl rfl (by decide) rfl rfl ?_
    refine gz_icmp_lt (tgt := 16) E dX1_tree_9 (by decide) (fun q9 => ?_) (fun q9 => ?_)
    · skip
      obtain ⟨k, hk, rfl⟩ := gz_Ix_t (by omega) q1 (Int32.not_le.mpr q9)
      refine gz_aload_n E dX1_tree_16 rfl rfl ?_
      refine gz_get E inwX1_tree 0 10 dX1_tree_17 flX1_tree_29 rfl rfl (by decide) rfl rfl ?_
      refine gz_iload_n E dX1_tree_20 rfl rfl ?_
      refine gz_ialdN E 7 0 dX1_tree_21 rfl rfl (by decide) rfl (by omega) ?_
      refine gz_bipush (v := nI 16) E dX1_tree_22 (by decide) ?_
      refine gz_aload_n E dX1_tree_24 rfl rfl ?_
      refine gz_get E inwX1_tree 0 11 dX1_tree_25 flX1_tree_32 rfl rfl (by decide) rfl rfl ?_
      refine gz_iload_n E dX1_tree_28 rfl rfl ?_
      refine gz_ialdN E 8 0 dX1_tree_29 rfl rfl (by decide) rfl (by omega) ?_
      refine gz_imulN E dX1_tree_30 ?_
      refine gz_iaddN E dX1_tree_31 ?_
      first | exact ret _ _ _ _ dX1_tree_32 rfl ⟨Or.inr ⟨gz_Ix_f1 (by omega) q1, rfl⟩, rfl⟩ | exact ret _ _ _ _ dX1_tree_32 rfl ⟨Or.inr ⟨gz_Ix_f2 (by omega) (Int32.not_lt.mp q9), rfl⟩, rfl⟩ | exact ret _ _ _ _ dX1_tree_32 rfl ⟨Or.inl ⟨k, hk, rfl, rfl⟩, rfl⟩
    · skip
      refine gz_iconst (v := -1) E dX1_tree_12 (by decide) ?_
      refine gz_goto (tgt := 32) E dX1_tree_13 (by decide) ?_
      first | exact ret _ _ _ _ dX1_tree_32 rfl ⟨Or.inr ⟨gz_Ix_f1 (by omega) q1, rfl⟩, rfl⟩ | exact ret _ _ _ _ dX1_tree_32 rfl ⟨Or.inr ⟨gz_Ix_f2 (by omega) (Int32.not_lt.mp q9), rfl⟩, rfl⟩ | exact ret _ _ _ _ dX1_tree_32 rfl ⟨Or.inl ⟨k, hk, rfl, rfl⟩, rfl⟩
abbrev rmX1_none : Room := { frames := 0, cells := 0, slots := 0, locals := 0 }
theorem inwX1_none : ∀ w ∈ wsX10, w ∈ wsX1_none := fun _ h => List.mem_cons_of_mem _ (List.mem_append_right _ h)
set_option maxRecDepth 20000 in
theorem flX1_none_64 : Cond.fieldLink RX1 64 RX1 (TX1 3).2.1 (TX1 3).2.2.1 ∈ wsX1_none := by decide +kernel
set_option maxRecDepth 20000 in
set_option maxHeartbeats 4000000 in
theorem mtX1_none (hn : mc ≤ 64) (x : Int32) : gz_Ki l yX1_none wsX1_none rmX1_none D [(cI, .int), (cJ, .long)] [.ref (bd 0), .int x] (wM bd cI cJ n X Y mc LE MI GE ec CO kc LS GT tl GP) (fun r w1 => gz_B r (¬ gz_Ix x mc) ∧ w1 = (wM bd cI cJ n X Y mc LE MI GE ec CO kc LS GT tl GP)) := by
  refine gz_ofi (cc := cX1_none) (maxL := 2) (own := RX1) (by decide +kernel) rfl rfl rfl (Nat.le_of_ble_eq_true rfl) ?_
  intro z E ret
  show gz_G z _ 0 [(0, .ref (bd 0)), (1, .int x)] []
  refine gz_iload_n E dX1_none_0 rfl rfl ?_
  refine gz_if_lt (tgt := 12) E dX1_none_1 (by decide) (fun q1 => ?_) (fun q1 => ?_)
  · skip
    refine gz_iconst (v := 1) E dX1_none_12 (by decide) ?_
    refine gz_goto (tgt := 17) E dX1_none_13 (by decide) ?_
    exact ret _ _ _ _ dX1_none_17 rfl ⟨by first | exact gz_B_t (gz_Ix_f1 (by omega) q1) | exact gz_B_t (gz_Ix_f2 (by omega) (Int32.not_lt.mp q9)) | exact gz_B_f (fun q => q (gz_Ix_t (by omega) q1 (Int32.not_le.mpr q9))), rfl⟩
  · skip
    refine gz_iload_n E dX1_none_4 rfl rfl ?_
    refine gz_aload_n E dX1_none_5 rfl rfl ?_
    refine gz_get E inwX1_none 0 3 dX1_none_6 flX1_none_64 rfl rfl (by decide) rfl rfl ?_
    refine gz_icmp_lt (tgt := 16) E dX1_none_9 (by decide) (fun q9 => ?_) (fun q9 => ?_)
    · skip
      refine gz_iconst (v := 0) E dX1_none_16 (by decide) ?_
      exact ret _ _ _ _ dX1_none_17 rfl ⟨by first | exact gz_B_t (gz_Ix_f1 (by omega) q1) | exact gz_B_t (gz_Ix_f2 (by omega) (Int32.not_lt.mp q9)) | exact gz_B_f (fun q => q (gz_Ix_t (by omega) q1 (Int32.not_le.mpr q9))), rfl⟩
    · skip
      refine gz_iconst (v := 1) E dX1_none_12 (by decide) ?_
      refine gz_goto (tgt := 17) E dX1_none_13 (by decide) ?_
      exact ret _ _ _ _ dX1_none_17 rfl ⟨by first | exact gz_B_t (gz_Ix_f1 (by omega) q1) | exact gz_B_t (gz_Ix_f2 (by omega) (Int32.not_lt.mp q9)) | exact gz_B_f (fun q => q (gz_Ix_t (by omega) q1 (Int32.not_le.mpr q9))), rfl⟩
abbrev rmX1_noSite : Room := { frames := 0, cells := 0, slots := 0, locals := 0 }
theorem inwX1_noSite : ∀ w ∈ wsX10, w ∈ wsX1_noSite := fun _ h => List.mem_cons_of_mem _ (List.mem_append_right _ h)
set_option maxRecDepth 20000 in
theorem flX1_noSite_56 : Cond.fieldLink RX1 56 RX1 (TX1 0).2.1 (TX1 0).2.2.1 ∈ wsX1_noSite := by decide +kernel
set_option maxRecDepth 20000 in
set_option maxHeartbeats 4000000 in
theorem mtX1_noSite (hn : n ≤ 64) (x : Int32) : gz_Ki l yX1_noSite wsX1_noSite rmX1_noSite D [(cI, .int), (cJ, .long)] [.ref (bd 0), .int x] (wM bd cI cJ n X Y mc LE MI GE ec CO kc LS GT tl GP) (fun r w1 => gz_B r (¬ gz_Ix x n) ∧ w1 = (wM bd cI cJ n X Y mc LE MI GE ec CO kc LS GT tl GP)) := by
  refine gz_ofi (cc := cX1_noSite) (maxL := 2) (own := RX1) (by decide +kernel) rfl rfl rfl (Nat.le_of_ble_eq_true rfl) ?_
  intro z E ret
  show gz_G z _ 0 [(0, .ref (bd 0)), (1, .int x)] []
  refine gz_iload_n E dX1_noSite_0 rfl rfl ?_
  refine gz_if_lt (tgt := 12) E dX1_noSite_1 (by decide) (fun q1 => ?_) (fun q1 => ?_)
  · skip
    refine gz_iconst (v := 1) E dX1_noSite_12 (by decide) ?_
    refine gz_goto (tgt := 17) E dX1_noSite_13 (by decide) ?_
    exact ret _ _ _ _ dX1_noSite_17 rfl ⟨by first | exact gz_B_t (gz_Ix_f1 (by omega) q1) | exact gz_B_t (gz_Ix_f2 (by omega) (Int32.not_lt.mp q9)) | exact gz_B_f (fun q => q (gz_Ix_t (by omega) q1 (Int32.not_le.mpr q9))), rfl⟩
  · skip
    refine gz_iload_n E dX1_noSite_4 rfl rfl ?_
    refine gz_aload_n E dX1_noSite_5 rfl rfl ?_
    refine gz_get E inwX1_noSite 0 0 dX1_noSite_6 flX1_noSite_56 rfl rfl (by decide) rfl rfl ?_
    refine gz_icmp_lt (tgt := 16) E dX1_noSite_9 (by decide) (fun q9 => ?_) (fun q9 => ?_)
    · skip
      refine gz_iconst (v := 0) E dX1_noSite_16 (by decide) ?_
      exact ret _ _ _ _ dX1_noSite_17 rfl ⟨by first | exact gz_B_t (gz_Ix_f1 (by omega) q1) | exact gz_B_t (gz_Ix_f2 (by omega) (Int32.not_lt.mp q9)) | exact gz_B_f (fun q => q (gz_Ix_t (by omega) q1 (Int32.not_le.mpr q9))), rfl⟩
    · skip
      refine gz_iconst (v := 1) E dX1_noSite_12 (by decide) ?_
      refine gz_goto (tgt := 17) E dX1_noSite_13 (by decide) ?_
      exact ret _ _ _ _ dX1_noSite_17 rfl ⟨by first | exact gz_B_t (gz_Ix_f1 (by omega) q1) | exact gz_B_t (gz_Ix_f2 (by omega) (Int32.not_lt.mp q9)) | exact gz_B_f (fun q => q (gz_Ix_t (by omega) q1 (Int32.not_le.mpr q9))), rfl⟩
abbrev rmX1_triangle : Room := { frames := 1, cells := 0, slots := 0, locals := 21 }
theorem inwX1_triangle : ∀ w ∈ wsX10, w ∈ wsX1_triangle := fun _ h => List.mem_cons_of_mem _ (List.mem_append_right _ h)
set_option maxRecDepth 20000 in
theorem flX1_triangle_16 : Cond.fieldLink RX1 16 RX1 (TX1 4).2.1 (TX1 4).2.2.1 ∈ wsX1_triangle := by decide +kernel
set_option maxRecDepth 20000 in
theorem flX1_triangle_20 : Cond.fieldLink RX1 20 RX1 (TX1 5).2.1 (TX1 5).2.2.1 ∈ wsX1_triangle := by decide +kernel
set_option maxRecDepth 20000 in
theorem flX1_triangle_23 : Cond.fieldLink RX1 23 RX1 (TX1 6).2.1 (TX1 6).2.2.1 ∈ wsX1_triangle := by decide +kernel
set_option maxRecDepth 20000 in
set_option maxHeartbeats 4000000 in
theorem mtX1_triangle (hm : mc ≤ 23) (x : Int32) : gz_Ki l yX1_triangle wsX1_triangle rmX1_triangle D [(cI, .int), (cJ, .long)] [.ref (bd 0), .int x] (wM bd cI cJ n X Y mc LE MI GE ec CO kc LS GT tl GP) (fun r w1 => ((∃ k, k < mc ∧ x = nI k ∧ r = nI (LE k + 16 * MI k + 256 * GE k)) ∨ (¬ gz_Ix x mc ∧ r = -1)) ∧ w1 = (wM bd cI cJ n X Y mc LE MI GE ec CO kc LS GT tl GP)) := by
  refine gz_ofi (cc := cX1_triangle) (maxL := 2) (own := RX1) (by decide +kernel) rfl rfl rfl (Nat.le_of_ble_eq_true rfl) ?_
  intro z E ret
  show gz_G z _ 0 [(0, .ref (bd 0)), (1, .int x)] []
  refine gz_aload_n E dX1_triangle_0 rfl rfl ?_
  refine gz_iload_n E dX1_triangle_1 rfl rfl ?_
  refine gz_cali (n := 1) E 0 dX1_triangle_2 gX1_triangle_X1_none (mtX1_none (by omega) _) rfl rfl ⟨rfl, rfl⟩ (by decide +kernel) ⟨Nat.le_of_ble_eq_true rfl, Nat.le_of_ble_eq_true rfl⟩ rfl rfl rfl rfl (Nat.le_of_ble_eq_true rfl) (fun r2 w2 hr2 => ?_)
  obtain ⟨hr2, rfl⟩ := hr2
  refine gz_ifB_eq (tgt := 12) E hr2 dX1_triangle_5 (by decide) (fun q5 => ?_) (fun q5 => ?_)
  · skip
    obtain ⟨k, hk, rfl⟩ := Classical.not_not.mp q5
    refine gz_aload_n E dX1_triangle_12 rfl rfl ?_
    refine gz_get E inwX1_triangle 0 4 dX1_triangle_13 flX1_triangle_16 rfl rfl (by decide) rfl rfl ?_
    refine gz_iload_n E dX1_triangle_16 rfl rfl ?_
    refine gz_ialdN E 3 0 dX1_triangle_17 rfl rfl (by decide) rfl (by omega) ?_
    refine gz_bipush (v := nI 16) E dX1_triangle_18 (by decide) ?_
    refine gz_aload_n E dX1_triangle_20 rfl rfl ?_
    refine gz_get E inwX1_triangle 0 5 dX1_triangle_21 flX1_triangle_20 rfl rfl (by decide) rfl rfl ?_
    refine gz_iload_n E dX1_triangle_24 rfl rfl ?_
    refine gz_ialdN E 4 0 dX1_triangle_25 rfl rfl (by decide) rfl (by omega) ?_
    refine gz_imulN E dX1_triangle_26 ?_
    refine gz_iaddN E dX1_triangle_27 ?_
    refine gz_sipush (v := nI 256) E dX1_triangle_28 (by decide) ?_
    refine gz_aload_n E dX1_triangle_31 rfl rfl ?_
    refine gz_get E inwX1_triangle 0 6 dX1_triangle_32 flX1_triangle_23 rfl rfl (by decide) rfl rfl ?_
    refine gz_iload_n E dX1_triangle_35 rfl rfl ?_
    refine gz_ialdN E 5 0 dX1_triangle_36 rfl rfl (by decide) rfl (by omega) ?_
    refine gz_imulN E dX1_triangle_37 ?_
    refine gz_iaddN E dX1_triangle_38 ?_
    first | exact ret _ _ _ _ dX1_triangle_39 rfl ⟨Or.inr ⟨q5, rfl⟩, rfl⟩ | exact ret _ _ _ _ dX1_triangle_39 rfl ⟨Or.inl ⟨k, hk, rfl, rfl⟩, rfl⟩
  · skip
    refine gz_iconst (v := -1) E dX1_triangle_8 (by decide) ?_
    refine gz_goto (tgt := 39) E dX1_triangle_9 (by decide) ?_
    first | exact ret _ _ _ _ dX1_triangle_39 rfl ⟨Or.inr ⟨q5, rfl⟩, rfl⟩ | exact ret _ _ _ _ dX1_triangle_39 rfl ⟨Or.inl ⟨k, hk, rfl, rfl⟩, rfl⟩
def pg_JO (n : Nat) (X Y : Nat → Int) (mc : Nat) (LE MI GE : Nat → Nat) (x y : Int32) : Prop := ∃ i j, i < n ∧ j < n ∧ x = nI i ∧ y = nI j ∧ pg_ER n X Y mc LE MI GE i j
theorem pg_JO_N {n mc i j : Nat} {X Y : Nat → Int} {LE MI GE : Nat → Nat} (hn : n ≤ 14) (hi : i < n) (hj : j < n) : pg_JO n X Y mc LE MI GE (nI i) (nI j) ↔ pg_ER n X Y mc LE MI GE i j := by
  constructor
  · rintro ⟨a, b, ha, hb, e1, e2, h⟩
    rw [nI_eq (by omega) (by omega)] at e1 e2
    subst e1 e2
    exact h
  · exact fun h => ⟨i, j, hi, hj, rfl, rfl, h⟩
abbrev rmX1_joined : Room := { frames := 4, cells := 0, slots := 0, locals := 93 }
set_option maxRecDepth 20000 in
set_option maxHeartbeats 4000000 in
theorem mtX1_joined (SB : pg_ok n X Y) (hm : mc ≤ 23) (hT : ∀ t, t < mc → LE t < 14 ∧ MI t < 14 ∧ GE t < 14) (x y : Int32) : gz_Ki l yX1_joined wsX1_joined rmX1_joined D [(cI, .int), (cJ, .long)] [.ref (bd 0), .int x, .int y] (wM bd cI cJ n X Y mc LE MI GE ec CO kc LS GT tl GP) (fun r w1 => gz_B r (pg_JO n X Y mc LE MI GE x y) ∧ w1 = (wM bd cI cJ n X Y mc LE MI GE ec CO kc LS GT tl GP)) := by
  refine gz_ofi (cc := cX1_joined) (maxL := 3) (own := RX1) (by decide +kernel) rfl rfl rfl (Nat.le_of_ble_eq_true rfl) ?_
  intro z E ret
  have hn := SB.1
  show gz_G z _ 0 [(0, .ref (bd 0)), (1, .int x), (2, .int y)] []
  refine gz_aload_n E dX1_joined_0 rfl rfl ?_
  refine gz_iload_n E dX1_joined_1 rfl rfl ?_
  refine gz_cali (n := 1) E 0 dX1_joined_2 gX1_joined_X1_noSite (mtX1_noSite (by omega) _) rfl rfl ⟨rfl, rfl⟩ (by decide +kernel) ⟨Nat.le_of_ble_eq_true rfl, Nat.le_of_ble_eq_true rfl⟩ rfl rfl rfl rfl (Nat.le_of_ble_eq_true rfl) (fun r2 w2 hr2 => ?_)
  obtain ⟨hr2, rfl⟩ := hr2
  refine gz_ifB_ne (tgt := 29) E hr2 dX1_joined_5 (by decide) (fun q5 => ?_) (fun q5 => ?_)
  · skip
    refine gz_iconst (v := 0) E dX1_joined_29 (by decide) ?_
    exact ret _ _ _ _ dX1_joined_30 rfl ⟨by first | exact gz_B_f (fun ⟨i, j, hi, hj, e1, e2, _⟩ => q5 ⟨i, hi, e1⟩) | exact gz_B_f (fun ⟨i, j, hi, hj, e1, e2, _⟩ => q13 ⟨j, hj, e2⟩) | exact gz_B_t ((pg_JO_N hn hi hj).mpr q22) | exact gz_B_f (fun q => q22 ((pg_JO_N hn hi hj).mp q)), rfl⟩
  · skip
    refine gz_aload_n E dX1_joined_8 rfl rfl ?_
    refine gz_iload_n E dX1_joined_9 rfl rfl ?_
    refine gz_cali (n := 1) E 0 dX1_joined_10 gX1_joined_X1_noSite (mtX1_noSite (by omega) _) rfl rfl ⟨rfl, rfl⟩ (by decide +kernel) ⟨Nat.le_of_ble_eq_true rfl, Nat.le_of_ble_eq_true rfl⟩ rfl rfl rfl rfl (Nat.le_of_ble_eq_true rfl) (fun r10 w10 hr10 => ?_)
    obtain ⟨hr10, rfl⟩ := hr10
    refine gz_ifB_ne (tgt := 29) E hr10 dX1_joined_13 (by decide) (fun q13 => ?_) (fun q13 => ?_)
    · skip
      refine gz_iconst (v := 0) E dX1_joined_29 (by decide) ?_
      exact ret _ _ _ _ dX1_joined_30 rfl ⟨by first | exact gz_B_f (fun ⟨i, j, hi, hj, e1, e2, _⟩ => q5 ⟨i, hi, e1⟩) | exact gz_B_f (fun ⟨i, j, hi, hj, e1, e2, _⟩ => q13 ⟨j, hj, e2⟩) | exact gz_B_t ((pg_JO_N hn hi hj).mpr q22) | exact gz_B_f (fun q => q22 ((pg_JO_N hn hi hj).mp q)), rfl⟩
    · skip
      obtain ⟨i, hi, rfl⟩ := Classical.not_not.mp q5
      obtain ⟨j, hj, rfl⟩ := Classical.not_not.mp q13
      refine gz_aload_n E dX1_joined_16 rfl rfl ?_
      refine gz_iload_n E dX1_joined_17 rfl rfl ?_
      refine gz_iload_n E dX1_joined_18 rfl rfl ?_
      refine gz_cali (n := 2) E 0 dX1_joined_19 gX1_joined_X1_edge (mtX1_edge SB hm hT (by assumption) (by assumption)) rfl rfl ⟨rfl, rfl⟩ (by decide +kernel) ⟨Nat.le_of_ble_eq_true rfl, Nat.le_of_ble_eq_true rfl⟩ rfl rfl rfl rfl (Nat.le_of_ble_eq_true rfl) (fun r19 w19 hr19 => ?_)
      obtain ⟨hr19, rfl⟩ := hr19
      refine gz_ifB_eq (tgt := 29) E hr19 dX1_joined_22 (by decide) (fun q22 => ?_) (fun q22 => ?_)
      · skip
        refine gz_iconst (v := 0) E dX1_joined_29 (by decide) ?_
        exact ret _ _ _ _ dX1_joined_30 rfl ⟨by first | exact gz_B_f (fun ⟨i, j, hi, hj, e1, e2, _⟩ => q5 ⟨i, hi, e1⟩) | exact gz_B_f (fun ⟨i, j, hi, hj, e1, e2, _⟩ => q13 ⟨j, hj, e2⟩) | exact gz_B_t ((pg_JO_N hn hi hj).mpr q22) | exact gz_B_f (fun q => q22 ((pg_JO_N hn hi hj).mp q)), rfl⟩
      · skip
        refine gz_iconst (v := 1) E dX1_joined_25 (by decide) ?_
        refine gz_goto (tgt := 30) E dX1_joined_26 (by decide) ?_
        exact ret _ _ _ _ dX1_joined_30 rfl ⟨by first | exact gz_B_f (fun ⟨i, j, hi, hj, e1, e2, _⟩ => q5 ⟨i, hi, e1⟩) | exact gz_B_f (fun ⟨i, j, hi, hj, e1, e2, _⟩ => q13 ⟨j, hj, e2⟩) | exact gz_B_t ((pg_JO_N hn hi hj).mpr q22) | exact gz_B_f (fun q => q22 ((pg_JO_N hn hi hj).mp q)), rfl⟩
/-- m of the numbers below k have P -/
def pg_Cn (P : Nat → Prop) : Nat → Nat → Prop
  | 0, m => m = 0
  | k + 1, m => (P k ∧ ∃ m', m = m' + 1 ∧ pg_Cn P k m') ∨ (¬ P k ∧ pg_Cn P k m)
theorem pg_Cn_le {P : Nat → Prop} : ∀ k m, pg_Cn P k m → m ≤ k
  | 0, m, h => by unfold pg_Cn at h; omega
  | k + 1, m, h => by
    unfold pg_Cn at h
    rcases h with ⟨_, m', e, h⟩ | ⟨_, h⟩
    · have := pg_Cn_le k m' h; omega
    · have := pg_Cn_le k m h; omega
theorem pg_Cn_pop {P : Nat → Prop} {f : Nat → Bool} : ∀ k m, (∀ j, j < k → (f j = true ↔ P j)) → pg_Cn P k m → pg_pop f k = m
  | 0, m, _, h => by unfold pg_Cn at h; unfold pg_pop; omega
  | k + 1, m, hf, h => by
    unfold pg_Cn at h
    unfold pg_pop
    rcases h with ⟨hp, m', e, h⟩ | ⟨hp, h⟩
    · rw [pg_Cn_pop k m' (fun j hj => hf j (by omega)) h, (hf k (by omega)).mpr hp, e]
      rfl
    · have hk : f k = false := by
        cases hq : f k with
        | false => rfl
        | true => exact absurd ((hf k (by omega)).mp hq) hp
      rw [pg_Cn_pop k m (fun j hj => hf j (by omega)) h, hk]
      rfl
theorem pg_pop_more {f : Nat → Bool} {n : Nat} : ∀ k, (∀ j, n ≤ j → f j = false) → n ≤ k → pg_pop f k = pg_pop f n
  | 0, _, h => by have : n = 0 := by omega
                  rw [this]
  | k + 1, hf, h => by
    by_cases e : n = k + 1
    · rw [e]
    · have : pg_pop f (k + 1) = pg_pop f k + (bif f k then 1 else 0) := rfl
      rw [this, hf k (by omega), pg_pop_more k hf (by omega)]
      rfl
abbrev rmX1_degree : Room := { frames := 4, cells := 0, slots := 0, locals := 93 }
theorem inwX1_degree : ∀ w ∈ wsX10, w ∈ wsX1_degree := fun _ h => List.mem_cons_of_mem _ (List.mem_append_right _ h)
set_option maxRecDepth 20000 in
theorem flX1_degree_56 : Cond.fieldLink RX1 56 RX1 (TX1 0).2.1 (TX1 0).2.2.1 ∈ wsX1_degree := by decide +kernel
set_option maxRecDepth 20000 in
set_option maxHeartbeats 4000000 in
theorem mtX1_degree (SB : pg_ok n X Y) (hm : mc ≤ 23) (hT : ∀ t, t < mc → LE t < 14 ∧ MI t < 14 ∧ GE t < 14) (x : Int32) : gz_Ki l yX1_degree wsX1_degree rmX1_degree D [(cI, .int), (cJ, .long)] [.ref (bd 0), .int x] (wM bd cI cJ n X Y mc LE MI GE ec CO kc LS GT tl GP) (fun r w1 => ((∃ a m, a < n ∧ x = nI a ∧ pg_Cn (fun b => pg_ER n X Y mc LE MI GE a b) n m ∧ r = nI m) ∨ (¬ gz_Ix x n ∧ r = -1)) ∧ w1 = (wM bd cI cJ n X Y mc LE MI GE ec CO kc LS GT tl GP)) := by
  refine gz_ofi (cc := cX1_degree) (maxL := 4) (own := RX1) (by decide +kernel) rfl rfl rfl (Nat.le_of_ble_eq_true rfl) ?_
  intro z E ret
  have hn := SB.1
  show gz_G z _ 0 [(0, .ref (bd 0)), (1, .int x)] []
  have loop : ∀ a, a < n → x = nI a → ∀ (f k m : Nat), n < f + k → k ≤ n → pg_Cn (fun b => pg_ER n X Y mc LE MI GE a b) k m → gz_G z (wM bd cI cJ n X Y mc LE MI GE ec CO kc LS GT tl GP) 14 [(0, .ref (bd 0)), (1, .int (nI a)), (2, .int (nI m)), (3, .int (nI k))] [] := by
    intro a ha hxa f
    induction f with
    | zero => intro k m h1 h2; exact absurd h1 (by omega)
    | succ f ih =>
      intro k m h1 h2 h3
      have hm14 := pg_Cn_le k m h3
      refine gz_iload_n E dX1_degree_14 rfl rfl ?_
      refine gz_aload_n E dX1_degree_15 rfl rfl ?_
      refine gz_get E inwX1_degree 0 0 dX1_degree_16 flX1_degree_56 rfl rfl (by decide) rfl rfl ?_
      refine gz_icN_ge (tgt := 45) E dX1_degree_19 (by decide) (by omega) (by omega) (fun q19 => ?_) (fun q19 => ?_)
      · skip
        refine gz_iload_n E dX1_degree_45 rfl rfl ?_
        have e : k = n := by omega
        subst e
        exact ret _ _ _ _ dX1_degree_46 rfl ⟨Or.inl ⟨a, m, ha, hxa, h3, rfl⟩, rfl⟩
      · skip
        have hk : k < n := by omega
        refine gz_aload_n E dX1_degree_22 rfl rfl ?_
        refine gz_iload_n E dX1_degree_23 rfl rfl ?_
        refine gz_iload_n E dX1_degree_24 rfl rfl ?_
        refine gz_cali (n := 2) E 0 dX1_degree_25 gX1_degree_X1_edge (mtX1_edge SB hm hT (by assumption) (by assumption)) rfl rfl ⟨rfl, rfl⟩ (by decide +kernel) ⟨Nat.le_of_ble_eq_true rfl, Nat.le_of_ble_eq_true rfl⟩ rfl rfl rfl rfl (Nat.le_of_ble_eq_true rfl) (fun r25 w25 hr25 => ?_)
        obtain ⟨hr25, rfl⟩ := hr25
        refine gz_ifB_eq (tgt := 37) E hr25 dX1_degree_28 (by decide) (fun q28 => ?_) (fun q28 => ?_)
        · skip
          refine gz_iload_n E dX1_degree_37 rfl rfl ?_
          refine gz_istore_n (lv' := [(0, _), (1, _), (2, _), (3, _)]) E dX1_degree_38 rfl (by decide) rfl ?_
          refine gz_iinc (lv' := [(0, _), (1, _), (2, _), (3, _)]) E dX1_degree_39 rfl (gz_nI1 _) (by decide) rfl ?_
          refine gz_goto (tgt := 14) E dX1_degree_42 (by decide) ?_
          first
            | exact ih (k + 1) (m + 1) (by omega) (by omega) (Or.inl ⟨q28, m, rfl, h3⟩)
            | exact ih (k + 1) m (by omega) (by omega) (Or.inr ⟨q28, h3⟩)
        · skip
          refine gz_iload_n E dX1_degree_31 rfl rfl ?_
          refine gz_iconst (v := nI 1) E dX1_degree_32 (by decide) ?_
          refine gz_iaddN E dX1_degree_33 ?_
          refine gz_goto (tgt := 38) E dX1_degree_34 (by decide) ?_
          refine gz_istore_n (lv' := [(0, _), (1, _), (2, _), (3, _)]) E dX1_degree_38 rfl (by decide) rfl ?_
          refine gz_iinc (lv' := [(0, _), (1, _), (2, _), (3, _)]) E dX1_degree_39 rfl (gz_nI1 _) (by decide) rfl ?_
          refine gz_goto (tgt := 14) E dX1_degree_42 (by decide) ?_
          first
            | exact ih (k + 1) (m + 1) (by omega) (by omega) (Or.inl ⟨q28, m, rfl, h3⟩)
            | exact ih (k + 1) m (by omega) (by omega) (Or.inr ⟨q28, h3⟩)
  refine gz_aload_n E dX1_degree_0 rfl rfl ?_
  refine gz_iload_n E dX1_degree_1 rfl rfl ?_
  refine gz_cali (n := 1) E 0 dX1_degree_2 gX1_degree_X1_noSite (mtX1_noSite (by omega) _) rfl rfl ⟨rfl, rfl⟩ (by decide +kernel) ⟨Nat.le_of_ble_eq_true rfl, Nat.le_of_ble_eq_true rfl⟩ rfl rfl rfl rfl (Nat.le_of_ble_eq_true rfl) (fun r2 w2 hr2 => ?_)
  obtain ⟨hr2, rfl⟩ := hr2
  refine gz_ifB_eq (tgt := 10) E hr2 dX1_degree_5 (by decide) (fun q5 => ?_) (fun q5 => ?_)
  · skip
    obtain ⟨a, ha, rfl⟩ := Classical.not_not.mp q5
    refine gz_iconst (v := nI 0) E dX1_degree_10 (by decide) ?_
    refine gz_istore_n (lv' := [(0, _), (1, _), (2, _)]) E dX1_degree_11 rfl (by decide) rfl ?_
    refine gz_iconst (v := nI 0) E dX1_degree_12 (by decide) ?_
    refine gz_istore_n (lv' := [(0, _), (1, _), (2, _), (3, _)]) E dX1_degree_13 rfl (by decide) rfl ?_
    exact loop a ha rfl (n + 1) 0 0 (by omega) (by omega) rfl
  · skip
    refine gz_iconst (v := -1) E dX1_degree_8 (by decide) ?_
    exact ret _ _ _ _ dX1_degree_9 rfl ⟨Or.inr ⟨q5, rfl⟩, rfl⟩
end RG
