/-! the reference: divisor, centre, beyond, bounded, add -/
section RD
variable {l : Launch} {D : va_G} {bd : Nat → Nat} {cI cJ : ClassId} {n mc ec kc : Nat} {X Y : Nat → Int} {LE MI GE CO LS GT GP : Nat → Nat} {tl : Int}
abbrev rmX1_divisor : Room := { frames := 0, cells := 0, slots := 0, locals := 0 }
set_option maxRecDepth 20000 in
set_option maxHeartbeats 4000000 in
theorem mtX1_divisor {P Q : Int} (hP1 : -4611686018427387904 < P) (hP2 : P < 4611686018427387904) (hQ1 : -4611686018427387904 < Q) (hQ2 : Q < 4611686018427387904) : gz_Kl l yX1_divisor wsX1_divisor rmX1_divisor D [(cI, .int), (cJ, .long)] [.ref (bd 0), .long (lI P), .long (lI Q)] (wM bd cI cJ n X Y mc LE MI GE ec CO kc LS GT tl GP) (fun r w1 => r = lI ((Nat.gcd P.natAbs Q.natAbs : Nat) : Int) ∧ w1 = (wM bd cI cJ n X Y mc LE MI GE ec CO kc LS GT tl GP)) := by
  refine gz_ofl (cc := cX1_divisor) (maxL := 11) (own := RX1) (by decide +kernel) rfl rfl rfl (Nat.le_of_ble_eq_true rfl) ?_
  intro z E ret
  show gz_G z _ 0 [(0, .ref (bd 0)), (1, .long (lI P)), (3, .long (lI Q))] []
  have loop : ∀ (f a b : Nat), b < f → a < 2 ^ 62 → b < 2 ^ 62 → Nat.gcd a b = Nat.gcd P.natAbs Q.natAbs → gz_G z (wM bd cI cJ n X Y mc LE MI GE ec CO kc LS GT tl GP) 28 [(0, .ref (bd 0)), (5, .long (lI (a : Int))), (7, .long (lI (b : Int)))] [] := by
    intro f
    induction f with
    | zero => intro a b h1; exact absurd h1 (by omega)
    | succ f ih =>
      intro a b h1 h2 h3 h4
      refine gz_lload E dX1_divisor_28 rfl ?_
      refine gz_lconst (v := lI 0) E dX1_divisor_30 (by decide) ?_
      refine gz_lcL_eq (tgt := 53) E dX1_divisor_31 dX1_divisor_32 (by decide) (by omega) (by omega) (by omega) (by omega) (fun q31 => ?_) (fun q31 => ?_)
      · skip
        refine gz_lload E dX1_divisor_53 rfl ?_
        exact ret _ _ _ _ dX1_divisor_55 ⟨by rw [← h4, show b = 0 by omega, Nat.gcd_zero_right], rfl⟩
      · skip
        refine gz_lload E dX1_divisor_35 rfl ?_
        refine gz_lload E dX1_divisor_37 rfl ?_
        refine gz_lremN E dX1_divisor_39 (by omega) (by omega) (by omega) ?_
        refine gz_lstore (lv' := [(0, _), (5, _), (7, _), (9, _)]) E dX1_divisor_40 (by decide) rfl ?_
        refine gz_lload E dX1_divisor_42 rfl ?_
        refine gz_lstore (lv' := [(0, _), (5, _), (7, _), (9, _)]) E dX1_divisor_44 (by decide) rfl ?_
        refine gz_lload E dX1_divisor_46 rfl ?_
        refine gz_lstore (lv' := [(0, _), (5, _), (7, _), (9, _)]) E dX1_divisor_48 (by decide) rfl ?_
        refine gz_goto (tgt := 28) E dX1_divisor_50 (by decide) ?_
        refine gz_sub (lv' := [(0, _), (5, _), (7, _)]) [0, 1, 2] rfl ?_
        exact ih b (a % b) (by have := Nat.mod_lt a (show 0 < b by omega); omega) (by omega) (by have := Nat.mod_lt a (show 0 < b by omega); omega) (by rw [← h4, Nat.gcd_comm b, Nat.gcd_comm a, ← Nat.gcd_rec b a])
  refine gz_lload_n E dX1_divisor_0 rfl rfl ?_
  refine gz_lconst (v := lI 0) E dX1_divisor_1 (by decide) ?_
  refine gz_lcL_ge (tgt := 11) E dX1_divisor_2 dX1_divisor_3 (by decide) (by omega) (by omega) (by omega) (by omega) (fun q2 => ?_) (fun q2 => ?_)
  · skip
    refine gz_lload_n E dX1_divisor_11 rfl rfl ?_
    refine gz_s (st' := [Value.long (lI (P.natAbs : Int))]) (congrArg (fun q => [Value.long (lI q)]) (by omega)) ?_
    refine gz_lstore (lv' := [(0, _), (1, _), (3, _), (5, _)]) E dX1_divisor_12 (by decide) rfl ?_
    refine gz_lload_n E dX1_divisor_14 rfl rfl ?_
    refine gz_lconst (v := lI 0) E dX1_divisor_15 (by decide) ?_
    refine gz_lcL_ge (tgt := 25) E dX1_divisor_16 dX1_divisor_17 (by decide) (by omega) (by omega) (by omega) (by omega) (fun q16 => ?_) (fun q16 => ?_)
    · skip
      refine gz_lload_n E dX1_divisor_25 rfl rfl ?_
      refine gz_s (st' := [Value.long (lI (Q.natAbs : Int))]) (congrArg (fun q => [Value.long (lI q)]) (by omega)) ?_
      refine gz_lstore (lv' := [(0, _), (1, _), (3, _), (5, _), (7, _)]) E dX1_divisor_26 (by decide) rfl ?_
      refine gz_sub (lv' := [(0, _), (5, _), (7, _)]) [0, 3, 4] rfl ?_
      exact loop (Q.natAbs + 1) P.natAbs Q.natAbs (by omega) (by omega) (by omega) rfl
    · skip
      refine gz_lload_n E dX1_divisor_20 rfl rfl ?_
      refine gz_lnegL E dX1_divisor_21 ?_
      refine gz_goto (tgt := 26) E dX1_divisor_22 (by decide) ?_
      refine gz_s (st' := [Value.long (lI (Q.natAbs : Int))]) (congrArg (fun q => [Value.long (lI q)]) (by omega)) ?_
      refine gz_lstore (lv' := [(0, _), (1, _), (3, _), (5, _), (7, _)]) E dX1_divisor_26 (by decide) rfl ?_
      refine gz_sub (lv' := [(0, _), (5, _), (7, _)]) [0, 3, 4] rfl ?_
      exact loop (Q.natAbs + 1) P.natAbs Q.natAbs (by omega) (by omega) (by omega) rfl
  · skip
    refine gz_lload_n E dX1_divisor_6 rfl rfl ?_
    refine gz_lnegL E dX1_divisor_7 ?_
    refine gz_goto (tgt := 12) E dX1_divisor_8 (by decide) ?_
    refine gz_s (st' := [Value.long (lI (P.natAbs : Int))]) (congrArg (fun q => [Value.long (lI q)]) (by omega)) ?_
    refine gz_lstore (lv' := [(0, _), (1, _), (3, _), (5, _)]) E dX1_divisor_12 (by decide) rfl ?_
    refine gz_lload_n E dX1_divisor_14 rfl rfl ?_
    refine gz_lconst (v := lI 0) E dX1_divisor_15 (by decide) ?_
    refine gz_lcL_ge (tgt := 25) E dX1_divisor_16 dX1_divisor_17 (by decide) (by omega) (by omega) (by omega) (by omega) (fun q16 => ?_) (fun q16 => ?_)
    · skip
      refine gz_lload_n E dX1_divisor_25 rfl rfl ?_
      refine gz_s (st' := [Value.long (lI (Q.natAbs : Int))]) (congrArg (fun q => [Value.long (lI q)]) (by omega)) ?_
      refine gz_lstore (lv' := [(0, _), (1, _), (3, _), (5, _), (7, _)]) E dX1_divisor_26 (by decide) rfl ?_
      refine gz_sub (lv' := [(0, _), (5, _), (7, _)]) [0, 3, 4] rfl ?_
      exact loop (Q.natAbs + 1) P.natAbs Q.natAbs (by omega) (by omega) (by omega) rfl
    · skip
      refine gz_lload_n E dX1_divisor_20 rfl rfl ?_
      refine gz_lnegL E dX1_divisor_21 ?_
      refine gz_goto (tgt := 26) E dX1_divisor_22 (by decide) ?_
      refine gz_s (st' := [Value.long (lI (Q.natAbs : Int))]) (congrArg (fun q => [Value.long (lI q)]) (by omega)) ?_
      refine gz_lstore (lv' := [(0, _), (1, _), (3, _), (5, _), (7, _)]) E dX1_divisor_26 (by decide) rfl ?_
      refine gz_sub (lv' := [(0, _), (5, _), (7, _)]) [0, 3, 4] rfl ?_
      exact loop (Q.natAbs + 1) P.natAbs Q.natAbs (by omega) (by omega) (by omega) rfl
abbrev rmX1_centre : Room := { frames := 1, cells := 0, slots := 0, locals := 30 }
theorem inwX1_centre : ∀ w ∈ wsX10, w ∈ wsX1_centre := fun _ h => List.mem_cons_of_mem _ (List.mem_append_right _ h)
set_option maxRecDepth 20000 in
theorem flX1_centre_16 : Cond.fieldLink RX1 16 RX1 (TX1 4).2.1 (TX1 4).2.2.1 ∈ wsX1_centre := by decide +kernel
set_option maxRecDepth 20000 in
theorem flX1_centre_20 : Cond.fieldLink RX1 20 RX1 (TX1 5).2.1 (TX1 5).2.2.1 ∈ wsX1_centre := by decide +kernel
set_option maxRecDepth 20000 in
theorem flX1_centre_23 : Cond.fieldLink RX1 23 RX1 (TX1 6).2.1 (TX1 6).2.2.1 ∈ wsX1_centre := by decide +kernel
set_option maxRecDepth 20000 in
theorem cwX1_centre_118 : Jvm.Cond.constantLong RX1 118 (2) ∈ wsX1_centre := by decide +kernel
set_option maxRecDepth 20000 in
theorem flX1_centre_7 : Cond.fieldLink RX1 7 RX1 (TX1 1).2.1 (TX1 1).2.2.1 ∈ wsX1_centre := by decide +kernel
set_option maxRecDepth 20000 in
theorem flX1_centre_13 : Cond.fieldLink RX1 13 RX1 (TX1 2).2.1 (TX1 2).2.2.1 ∈ wsX1_centre := by decide +kernel
set_option maxRecDepth 20000 in
set_option maxHeartbeats 4000000 in
theorem mtX1_centre (SB : pg_ok n X Y) (hm : mc ≤ 23) (hTT : ∀ t, t < mc → LE t < MI t ∧ MI t < GE t ∧ GE t < n) (hnl : ∀ t, t < mc → pg_tn X Y (LE t) (MI t) (GE t) ≠ 0) (i v : Int32) : gz_Kl l yX1_centre wsX1_centre rmX1_centre D [(cI, .int), (cJ, .long)] [.ref (bd 0), .int i, .int v] (wM bd cI cJ n X Y mc LE MI GE ec CO kc LS GT tl GP) (fun r w1 => ((∃ a k, a < mc ∧ k < 3 ∧ i = nI a ∧ v = nI k ∧ r = (if pg_cD X Y (LE a) (MI a) (GE a) < 0 then -(lI (pg_cP X Y (LE a) (MI a) (GE a) k) / lI ((pg_cG X Y (LE a) (MI a) (GE a) : Nat) : Int)) else lI (pg_cP X Y (LE a) (MI a) (GE a) k) / lI ((pg_cG X Y (LE a) (MI a) (GE a) : Nat) : Int))) ∨ (¬ (gz_Ix i mc ∧ gz_Ix v 3) ∧ r = 0)) ∧ w1 = (wM bd cI cJ n X Y mc LE MI GE ec CO kc LS GT tl GP)) := by
  refine gz_ofl (cc := cX1_centre) (maxL := 18) (own := RX1) (by decide +kernel) rfl rfl rfl (Nat.le_of_ble_eq_true rfl) ?_
  intro z E ret
  have hn := SB.1
  show gz_G z _ 0 [(0, .ref (bd 0)), (1, .int i), (2, .int v)] []
  have main : ∀ a0 k, a0 < mc → k < 3 → i = nI a0 → v = nI k → gz_G z (wM bd cI cJ n X Y mc LE MI GE ec CO kc LS GT tl GP) 19 [(0, .ref (bd 0)), (1, .int (nI a0)), (2, .int (nI k))] [] := by
    intro a0 k ha0 hk hia hvk
    obtain ⟨t2, t3, t4⟩ := hTT a0 ha0
    have hnz := hnl a0 ha0
    have ha : LE a0 < n := by omega
    have hb : MI a0 < n := by omega
    have hc : GE a0 < n := by omega
    obtain ⟨⟨x1, x2⟩, ⟨y1, y2⟩, d1, d2⟩ := pg_c_b SB ha hb hc
    have gb := pg_cG_b SB ha hb hc hnz
    have tb := pg_tn_b SB ha hb hc
    obtain ⟨k0, k1, k2⟩ := pg_C3 (X := X) (Y := Y) (a := LE a0) (b := MI a0) (c := GE a0) (k := k)
    refine gz_aload_n E dX1_centre_19 rfl rfl ?_
    refine gz_get E inwX1_centre 0 4 dX1_centre_20 flX1_centre_16 rfl rfl (by decide) rfl rfl ?_
    refine gz_iload_n E dX1_centre_23 rfl rfl ?_
    refine gz_ialdN E 3 0 dX1_centre_24 rfl rfl (by decide) rfl (by omega) ?_
    refine gz_istore_n (lv' := [(0, _), (1, _), (2, _), (3, _)]) E dX1_centre_25 rfl (by decide) rfl ?_
    refine gz_aload_n E dX1_centre_26 rfl rfl ?_
    refine gz_get E inwX1_centre 0 5 dX1_centre_27 flX1_centre_20 rfl rfl (by decide) rfl rfl ?_
    refine gz_iload_n E dX1_centre_30 rfl rfl ?_
    refine gz_ialdN E 4 0 dX1_centre_31 rfl rfl (by decide) rfl (by omega) ?_
    refine gz_istore (lv' := [(0, _), (1, _), (2, _), (3, _), (4, _)]) E dX1_centre_32 (by decide) rfl ?_
    refine gz_aload_n E dX1_centre_34 rfl rfl ?_
    refine gz_get E inwX1_centre 0 6 dX1_centre_35 flX1_centre_23 rfl rfl (by decide) rfl rfl ?_
    refine gz_iload_n E dX1_centre_38 rfl rfl ?_
    refine gz_ialdN E 5 0 dX1_centre_39 rfl rfl (by decide) rfl (by omega) ?_
    refine gz_istore (lv' := [(0, _), (1, _), (2, _), (3, _), (4, _), (5, _)]) E dX1_centre_40 (by decide) rfl ?_
    refine gz_ldc2 (v := lI 2) E dX1_centre_42 cwX1_centre_118 ?_
    refine gz_aload_n E dX1_centre_45 rfl rfl ?_
    refine gz_iload E dX1_centre_46 rfl ?_
    refine gz_iload E dX1_centre_48 rfl ?_
    refine gz_iload_n E dX1_centre_50 rfl rfl ?_
    refine gz_call (n := 3) E 0 dX1_centre_51 gX1_centre_X1_span (mtX1_span SB (by assumption) (by assumption) (by assumption)) rfl rfl ⟨rfl, rfl⟩ (by decide +kernel) ⟨Nat.le_of_ble_eq_true rfl, Nat.le_of_ble_eq_true rfl⟩ rfl rfl rfl rfl (Nat.le_of_ble_eq_true rfl) (fun r51 w51 hr51 => ?_)
    obtain ⟨rfl, rfl⟩ := hr51
    refine gz_lmulL E dX1_centre_54 ?_
    refine gz_s (show _ = [Value.long (lI (pg_cD X Y (LE a0) (MI a0) (GE a0)))] from rfl) ?_
    refine gz_lstore (lv' := [(0, _), (1, _), (2, _), (3, _), (4, _), (5, _), (6, _)]) E dX1_centre_55 (by decide) rfl ?_
    refine gz_aload_n E dX1_centre_57 rfl rfl ?_
    refine gz_iload E dX1_centre_58 rfl ?_
    refine gz_iload_n E dX1_centre_60 rfl rfl ?_
    refine gz_call (n := 2) E 0 dX1_centre_61 gX1_centre_X1_apart (mtX1_apart SB (by assumption) (by assumption)) rfl rfl ⟨rfl, rfl⟩ (by decide +kernel) ⟨Nat.le_of_ble_eq_true rfl, Nat.le_of_ble_eq_true rfl⟩ rfl rfl rfl rfl (Nat.le_of_ble_eq_true rfl) (fun r61 w61 hr61 => ?_)
    obtain ⟨rfl, rfl⟩ := hr61
    refine gz_lstore (lv' := [(0, _), (1, _), (2, _), (3, _), (4, _), (5, _), (6, _), (8, _)]) E dX1_centre_64 (by decide) rfl ?_
    refine gz_aload_n E dX1_centre_66 rfl rfl ?_
    refine gz_iload E dX1_centre_67 rfl ?_
    refine gz_iload_n E dX1_centre_69 rfl rfl ?_
    refine gz_call (n := 2) E 0 dX1_centre_70 gX1_centre_X1_apart (mtX1_apart SB (by assumption) (by assumption)) rfl rfl ⟨rfl, rfl⟩ (by decide +kernel) ⟨Nat.le_of_ble_eq_true rfl, Nat.le_of_ble_eq_true rfl⟩ rfl rfl rfl rfl (Nat.le_of_ble_eq_true rfl) (fun r70 w70 hr70 => ?_)
    obtain ⟨rfl, rfl⟩ := hr70
    refine gz_lstore (lv' := [(0, _), (1, _), (2, _), (3, _), (4, _), (5, _), (6, _), (8, _), (10, _)]) E dX1_centre_73 (by decide) rfl ?_
    refine gz_aload_n E dX1_centre_75 rfl rfl ?_
    refine gz_get E inwX1_centre 0 1 dX1_centre_76 flX1_centre_7 rfl rfl (by decide) rfl rfl ?_
    refine gz_iload_n E dX1_centre_79 rfl rfl ?_
    refine gz_laldN E 1 1 dX1_centre_80 rfl rfl (by decide) rfl (by omega) ?_
    refine gz_lload E dX1_centre_81 rfl ?_
    refine gz_lmulL E dX1_centre_83 ?_
    refine gz_aload_n E dX1_centre_84 rfl rfl ?_
    refine gz_get E inwX1_centre 0 2 dX1_centre_85 flX1_centre_13 rfl rfl (by decide) rfl rfl ?_
    refine gz_iload E dX1_centre_88 rfl ?_
    refine gz_laldN E 2 1 dX1_centre_90 rfl rfl (by decide) rfl (by omega) ?_
    refine gz_aload_n E dX1_centre_91 rfl rfl ?_
    refine gz_get E inwX1_centre 0 2 dX1_centre_92 flX1_centre_13 rfl rfl (by decide) rfl rfl ?_
    refine gz_iload_n E dX1_centre_95 rfl rfl ?_
    refine gz_laldN E 2 1 dX1_centre_96 rfl rfl (by decide) rfl (by omega) ?_
    refine gz_lsubL E dX1_centre_97 ?_
    refine gz_lload E dX1_centre_98 rfl ?_
    refine gz_lmulL E dX1_centre_100 ?_
    refine gz_laddL E dX1_centre_101 ?_
    refine gz_aload_n E dX1_centre_102 rfl rfl ?_
    refine gz_get E inwX1_centre 0 2 dX1_centre_103 flX1_centre_13 rfl rfl (by decide) rfl rfl ?_
    refine gz_iload E dX1_centre_106 rfl ?_
    refine gz_laldN E 2 1 dX1_centre_108 rfl rfl (by decide) rfl (by omega) ?_
    refine gz_aload_n E dX1_centre_109 rfl rfl ?_
    refine gz_get E inwX1_centre 0 2 dX1_centre_110 flX1_centre_13 rfl rfl (by decide) rfl rfl ?_
    refine gz_iload_n E dX1_centre_113 rfl rfl ?_
    refine gz_laldN E 2 1 dX1_centre_114 rfl rfl (by decide) rfl (by omega) ?_
    refine gz_lsubL E dX1_centre_115 ?_
    refine gz_lload E dX1_centre_116 rfl ?_
    refine gz_lmulL E dX1_centre_118 ?_
    refine gz_lsubL E dX1_centre_119 ?_
    refine gz_s (show _ = [Value.long (lI (pg_cX X Y (LE a0) (MI a0) (GE a0)))] from by rw [Int.mul_comm (X (LE a0)) (pg_cD X Y (LE a0) (MI a0) (GE a0))]; rfl) ?_
    refine gz_lstore (lv' := [(0, _), (1, _), (2, _), (3, _), (4, _), (5, _), (6, _), (8, _), (10, _), (12, _)]) E dX1_centre_120 (by decide) rfl ?_
    refine gz_aload_n E dX1_centre_122 rfl rfl ?_
    refine gz_get E inwX1_centre 0 2 dX1_centre_123 flX1_centre_13 rfl rfl (by decide) rfl rfl ?_
    refine gz_iload_n E dX1_centre_126 rfl rfl ?_
    refine gz_laldN E 2 1 dX1_centre_127 rfl rfl (by decide) rfl (by omega) ?_
    refine gz_lload E dX1_centre_128 rfl ?_
    refine gz_lmulL E dX1_centre_130 ?_
    refine gz_aload_n E dX1_centre_131 rfl rfl ?_
    refine gz_get E inwX1_centre 0 1 dX1_centre_132 flX1_centre_7 rfl rfl (by decide) rfl rfl ?_
    refine gz_iload E dX1_centre_135 rfl ?_
    refine gz_laldN E 1 1 dX1_centre_137 rfl rfl (by decide) rfl (by omega) ?_
    refine gz_aload_n E dX1_centre_138 rfl rfl ?_
    refine gz_get E inwX1_centre 0 1 dX1_centre_139 flX1_centre_7 rfl rfl (by decide) rfl rfl ?_
    refine gz_iload_n E dX1_centre_142 rfl rfl ?_
    refine gz_laldN E 1 1 dX1_centre_143 rfl rfl (by decide) rfl (by omega) ?_
    refine gz_lsubL E dX1_centre_144 ?_
    refine gz_lload E dX1_centre_145 rfl ?_
    refine gz_lmulL E dX1_centre_147 ?_
    refine gz_laddL E dX1_centre_148 ?_
    refine gz_aload_n E dX1_centre_149 rfl rfl ?_
    refine gz_get E inwX1_centre 0 1 dX1_centre_150 flX1_centre_7 rfl rfl (by decide) rfl rfl ?_
    refine gz_iload E dX1_centre_153 rfl ?_
    refine gz_laldN E 1 1 dX1_centre_155 rfl rfl (by decide) rfl (by omega) ?_
    refine gz_aload_n E dX1_centre_156 rfl rfl ?_
    refine gz_get E inwX1_centre 0 1 dX1_centre_157 flX1_centre_7 rfl rfl (by decide) rfl rfl ?_
    refine gz_iload_n E dX1_centre_160 rfl rfl ?_
    refine gz_laldN E 1 1 dX1_centre_161 rfl rfl (by decide) rfl (by omega) ?_
    refine gz_lsubL E dX1_centre_162 ?_
    refine gz_lload E dX1_centre_163 rfl ?_
    refine gz_lmulL E dX1_centre_165 ?_
    refine gz_lsubL E dX1_centre_166 ?_
    refine gz_s (show _ = [Value.long (lI (pg_cY X Y (LE a0) (MI a0) (GE a0)))] from by rw [Int.mul_comm (Y (LE a0)) (pg_cD X Y (LE a0) (MI a0) (GE a0))]; rfl) ?_
    refine gz_lstore (lv' := [(0, _), (1, _), (2, _), (3, _), (4, _), (5, _), (6, _), (8, _), (10, _), (12, _), (14, _)]) E dX1_centre_167 (by decide) rfl ?_
    refine gz_aload_n E dX1_centre_169 rfl rfl ?_
    refine gz_aload_n E dX1_centre_170 rfl rfl ?_
    refine gz_lload E dX1_centre_171 rfl ?_
    refine gz_lload E dX1_centre_173 rfl ?_
    refine gz_call (n := 2) E 0 dX1_centre_175 gX1_centre_X1_divisor (mtX1_divisor (by omega) (by omega) (by omega) (by omega)) rfl rfl ⟨rfl, rfl⟩ (by decide +kernel) ⟨Nat.le_of_ble_eq_true rfl, Nat.le_of_ble_eq_true rfl⟩ rfl rfl rfl rfl (Nat.le_of_ble_eq_true rfl) (fun r175 w175 hr175 => ?_)
    obtain ⟨rfl, rfl⟩ := hr175
    have gxy : ((Nat.gcd (pg_cX X Y (LE a0) (MI a0) (GE a0)).natAbs (pg_cY X Y (LE a0) (MI a0) (GE a0)).natAbs : Nat) : Int) < 4611686018427387904 := pg_gcd_b (by omega) (by omega)
    refine gz_lload E dX1_centre_178 rfl ?_
    refine gz_call (n := 2) E 0 dX1_centre_180 gX1_centre_X1_divisor (mtX1_divisor (by omega) (by omega) (by omega) (by omega)) rfl rfl ⟨rfl, rfl⟩ (by decide +kernel) ⟨Nat.le_of_ble_eq_true rfl, Nat.le_of_ble_eq_true rfl⟩ rfl rfl rfl rfl (Nat.le_of_ble_eq_true rfl) (fun r180 w180 hr180 => ?_)
    obtain ⟨rfl, rfl⟩ := hr180
    refine gz_s (show _ = [Value.long (lI ((pg_cG X Y (LE a0) (MI a0) (GE a0) : Nat) : Int))] from by first | rfl | (simp only [Int.natAbs_natCast]; rfl)) ?_
    refine gz_lstore (lv' := [(0, _), (1, _), (2, _), (3, _), (4, _), (5, _), (6, _), (8, _), (10, _), (12, _), (14, _), (16, _)]) E dX1_centre_183 (by decide) rfl ?_
    refine gz_lload E dX1_centre_185 rfl ?_
    refine gz_lconst (v := lI 0) E dX1_centre_187 (by decide) ?_
    refine gz_lcL_ge (tgt := 198) E dX1_centre_188 dX1_centre_189 (by decide) (by omega) (by omega) (by omega) (by omega) (fun q188 => ?_) (fun q188 => ?_)
    · skip
      refine gz_lload E dX1_centre_198 rfl ?_
      refine gz_lstore (lv' := [(0, _), (1, _), (2, _), (3, _), (4, _), (5, _), (6, _), (8, _), (10, _), (12, _), (14, _), (16, _)]) E dX1_centre_200 (by decide) rfl ?_
      refine gz_iload_n E dX1_centre_202 rfl rfl ?_
      refine gz_ifN_ne (tgt := 211) E dX1_centre_203 (by decide) (by omega) (fun q203 => ?_) (fun q203 => ?_)
      · skip
        refine gz_iload_n E dX1_centre_211 rfl rfl ?_
        refine gz_iconst (v := nI 1) E dX1_centre_212 (by decide) ?_
        refine gz_icN_ne (tgt := 221) E dX1_centre_213 (by decide) (by omega) (by omega) (fun q213 => ?_) (fun q213 => ?_)
        · skip
          refine gz_lload E dX1_centre_221 rfl ?_
          refine gz_s (show _ = [Value.long (lI (pg_cP X Y (LE a0) (MI a0) (GE a0) k))] from by first | rw [k0 q203] | rw [k1 q213] | rw [k2 q203 q213]) ?_
          refine gz_lload E dX1_centre_223 rfl ?_
          refine gz_ldiv E dX1_centre_225 (lI_ne0 (by omega) (by omega) (by omega)) ?_
          first
            | exact ret _ _ _ _ dX1_centre_226 ⟨Or.inl ⟨a0, k, ha0, hk, hia, hvk, by rw [if_pos q188]; exact pg_quo (by first | (rw [k0 q203]; omega) | (rw [k1 q213]; omega) | (rw [k2 q203 q213]; omega)) (by first | (rw [k0 q203]; omega) | (rw [k1 q213]; omega) | (rw [k2 q203 q213]; omega)) (by omega) (by omega)⟩, rfl⟩
            | exact ret _ _ _ _ dX1_centre_226 ⟨Or.inl ⟨a0, k, ha0, hk, hia, hvk, by rw [if_neg (by omega)]⟩, rfl⟩
        · skip
          refine gz_lload E dX1_centre_216 rfl ?_
          refine gz_goto (tgt := 223) E dX1_centre_218 (by decide) ?_
          refine gz_s (show _ = [Value.long (lI (pg_cP X Y (LE a0) (MI a0) (GE a0) k))] from by first | rw [k0 q203] | rw [k1 q213] | rw [k2 q203 q213]) ?_
          refine gz_lload E dX1_centre_223 rfl ?_
          refine gz_ldiv E dX1_centre_225 (lI_ne0 (by omega) (by omega) (by omega)) ?_
          first
            | exact ret _ _ _ _ dX1_centre_226 ⟨Or.inl ⟨a0, k, ha0, hk, hia, hvk, by rw [if_pos q188]; exact pg_quo (by first | (rw [k0 q203]; omega) | (rw [k1 q213]; omega) | (rw [k2 q203 q213]; omega)) (by first | (rw [k0 q203]; omega) | (rw [k1 q213]; omega) | (rw [k2 q203 q213]; omega)) (by omega) (by omega)⟩, rfl⟩
            | exact ret _ _ _ _ dX1_centre_226 ⟨Or.inl ⟨a0, k, ha0, hk, hia, hvk, by rw [if_neg (by omega)]⟩, rfl⟩
      · skip
        refine gz_lload E dX1_centre_206 rfl ?_
        refine gz_goto (tgt := 223) E dX1_centre_208 (by decide) ?_
        refine gz_s (show _ = [Value.long (lI (pg_cP X Y (LE a0) (MI a0) (GE a0) k))] from by first | rw [k0 q203] | rw [k1 q213] | rw [k2 q203 q213]) ?_
        refine gz_lload E dX1_centre_223 rfl ?_
        refine gz_ldiv E dX1_centre_225 (lI_ne0 (by omega) (by omega) (by omega)) ?_
        first
          | exact ret _ _ _ _ dX1_centre_226 ⟨Or.inl ⟨a0, k, ha0, hk, hia, hvk, by rw [if_pos q188]; exact pg_quo (by first | (rw [k0 q203]; omega) | (rw [k1 q213]; omega) | (rw [k2 q203 q213]; omega)) (by first | (rw [k0 q203]; omega) | (rw [k1 q213]; omega) | (rw [k2 q203 q213]; omega)) (by omega) (by omega)⟩, rfl⟩
          | exact ret _ _ _ _ dX1_centre_226 ⟨Or.inl ⟨a0, k, ha0, hk, hia, hvk, by rw [if_neg (by omega)]⟩, rfl⟩
    · skip
      refine gz_lload E dX1_centre_192 rfl ?_
      refine gz_lnegL E dX1_centre_194 ?_
      refine gz_goto (tgt := 200) E dX1_centre_195 (by decide) ?_
      refine gz_lstore (lv' := [(0, _), (1, _), (2, _), (3, _), (4, _), (5, _), (6, _), (8, _), (10, _), (12, _), (14, _), (16, _)]) E dX1_centre_200 (by decide) rfl ?_
      refine gz_iload_n E dX1_centre_202 rfl rfl ?_
      refine gz_ifN_ne (tgt := 211) E dX1_centre_203 (by decide) (by omega) (fun q203 => ?_) (fun q203 => ?_)
      · skip
        refine gz_iload_n E dX1_centre_211 rfl rfl ?_
        refine gz_iconst (v := nI 1) E dX1_centre_212 (by decide) ?_
        refine gz_icN_ne (tgt := 221) E dX1_centre_213 (by decide) (by omega) (by omega) (fun q213 => ?_) (fun q213 => ?_)
        · skip
          refine gz_lload E dX1_centre_221 rfl ?_
          refine gz_s (show _ = [Value.long (lI (pg_cP X Y (LE a0) (MI a0) (GE a0) k))] from by first | rw [k0 q203] | rw [k1 q213] | rw [k2 q203 q213]) ?_
          refine gz_lload E dX1_centre_223 rfl ?_
          refine gz_ldiv E dX1_centre_225 (lI_ne0 (by omega) (by omega) (by omega)) ?_
          first
            | exact ret _ _ _ _ dX1_centre_226 ⟨Or.inl ⟨a0, k, ha0, hk, hia, hvk, by rw [if_pos q188]; exact pg_quo (by first | (rw [k0 q203]; omega) | (rw [k1 q213]; omega) | (rw [k2 q203 q213]; omega)) (by first | (rw [k0 q203]; omega) | (rw [k1 q213]; omega) | (rw [k2 q203 q213]; omega)) (by omega) (by omega)⟩, rfl⟩
            | exact ret _ _ _ _ dX1_centre_226 ⟨Or.inl ⟨a0, k, ha0, hk, hia, hvk, by rw [if_neg (by omega)]⟩, rfl⟩
        · skip
          refine gz_lload E dX1_centre_216 rfl ?_
          refine gz_goto (tgt := 223) E dX1_centre_218 (by decide) ?_
          refine gz_s (show _ = [Value.long (lI (pg_cP X Y (LE a0) (MI a0) (GE a0) k))] from by first | rw [k0 q203] | rw [k1 q213] | rw [k2 q203 q213]) ?_
          refine gz_lload E dX1_centre_223 rfl ?_
          refine gz_ldiv E dX1_centre_225 (lI_ne0 (by omega) (by omega) (by omega)) ?_
          first
            | exact ret _ _ _ _ dX1_centre_226 ⟨Or.inl ⟨a0, k, ha0, hk, hia, hvk, by rw [if_pos q188]; exact pg_quo (by first | (rw [k0 q203]; omega) | (rw [k1 q213]; omega) | (rw [k2 q203 q213]; omega)) (by first | (rw [k0 q203]; omega) | (rw [k1 q213]; omega) | (rw [k2 q203 q213]; omega)) (by omega) (by omega)⟩, rfl⟩
            | exact ret _ _ _ _ dX1_centre_226 ⟨Or.inl ⟨a0, k, ha0, hk, hia, hvk, by rw [if_neg (by omega)]⟩, rfl⟩
      · skip
        refine gz_lload E dX1_centre_206 rfl ?_
        refine gz_goto (tgt := 223) E dX1_centre_208 (by decide) ?_
        refine gz_s (show _ = [Value.long (lI (pg_cP X Y (LE a0) (MI a0) (GE a0) k))] from by first | rw [k0 q203] | rw [k1 q213] | rw [k2 q203 q213]) ?_
        refine gz_lload E dX1_centre_223 rfl ?_
        refine gz_ldiv E dX1_centre_225 (lI_ne0 (by omega) (by omega) (by omega)) ?_
        first
          | exact ret _ _ _ _ dX1_centre_226 ⟨Or.inl ⟨a0, k, ha0, hk, hia, hvk, by rw [if_pos q188]; exact pg_quo (by first | (rw [k0 q203]; omega) | (rw [k1 q213]; omega) | (rw [k2 q203 q213]; omega)) (by first | (rw [k0 q203]; omega) | (rw [k1 q213]; omega) | (rw [k2 q203 q213]; omega)) (by omega) (by omega)⟩, rfl⟩
          | exact ret _ _ _ _ dX1_centre_226 ⟨Or.inl ⟨a0, k, ha0, hk, hia, hvk, by rw [if_neg (by omega)]⟩, rfl⟩
  refine gz_aload_n E dX1_centre_0 rfl rfl ?_
  refine gz_iload_n E dX1_centre_1 rfl rfl ?_
  refine gz_cali (n := 1) E 0 dX1_centre_2 gX1_centre_X1_none (mtX1_none (by omega) _) rfl rfl ⟨rfl, rfl⟩ (by decide +kernel) ⟨Nat.le_of_ble_eq_true rfl, Nat.le_of_ble_eq_true rfl⟩ rfl rfl rfl rfl (Nat.le_of_ble_eq_true rfl) (fun r2 w2 hr2 => ?_)
  obtain ⟨hr2, rfl⟩ := hr2
  refine gz_ifB_ne (tgt := 17) E hr2 dX1_centre_5 (by decide) (fun q5 => ?_) (fun q5 => ?_)
  · skip
    refine gz_lconst (v := lI 0) E dX1_centre_17 (by decide) ?_
    first
      | exact ret _ _ _ _ dX1_centre_18 ⟨Or.inr ⟨fun z => q5 z.1, rfl⟩, rfl⟩
      | exact ret _ _ _ _ dX1_centre_18 ⟨Or.inr ⟨fun z => gz_Ix_f1 (by decide) q9 z.2, rfl⟩, rfl⟩
      | exact ret _ _ _ _ dX1_centre_18 ⟨Or.inr ⟨fun z => gz_Ix3_f q14 z.2, rfl⟩, rfl⟩
  · skip
    refine gz_iload_n E dX1_centre_8 rfl rfl ?_
    refine gz_if_lt (tgt := 17) E dX1_centre_9 (by decide) (fun q9 => ?_) (fun q9 => ?_)
    · skip
      refine gz_lconst (v := lI 0) E dX1_centre_17 (by decide) ?_
      first
        | exact ret _ _ _ _ dX1_centre_18 ⟨Or.inr ⟨fun z => q5 z.1, rfl⟩, rfl⟩
        | exact ret _ _ _ _ dX1_centre_18 ⟨Or.inr ⟨fun z => gz_Ix_f1 (by decide) q9 z.2, rfl⟩, rfl⟩
        | exact ret _ _ _ _ dX1_centre_18 ⟨Or.inr ⟨fun z => gz_Ix3_f q14 z.2, rfl⟩, rfl⟩
    · skip
      refine gz_iload_n E dX1_centre_12 rfl rfl ?_
      refine gz_iconst (v := nI 2) E dX1_centre_13 (by decide) ?_
      refine gz_icmp_le (tgt := 19) E dX1_centre_14 (by decide) (fun q14 => ?_) (fun q14 => ?_)
      · skip
        obtain ⟨a, ha, rfl⟩ := Classical.not_not.mp q5
        obtain ⟨k, hk, rfl⟩ := gz_Ix3 q9 q14
        exact main a k ha hk rfl rfl
      · skip
        refine gz_lconst (v := lI 0) E dX1_centre_17 (by decide) ?_
        first
          | exact ret _ _ _ _ dX1_centre_18 ⟨Or.inr ⟨fun z => q5 z.1, rfl⟩, rfl⟩
          | exact ret _ _ _ _ dX1_centre_18 ⟨Or.inr ⟨fun z => gz_Ix_f1 (by decide) q9 z.2, rfl⟩, rfl⟩
          | exact ret _ _ _ _ dX1_centre_18 ⟨Or.inr ⟨fun z => gz_Ix3_f q14 z.2, rfl⟩, rfl⟩
def pg_BS (mc : Nat) (LE MI GE : Nat → Nat) (a k j : Nat) (u : Int32) : Prop := (∃ y, y < j ∧ pg_BE LE MI GE a k y ∧ u = nI y) ∨ (u = -1 ∧ ∀ y, y < j → ¬ pg_BE LE MI GE a k y)
theorem pg_BS_no {mc a k j : Nat} {LE MI GE : Nat → Nat} {u : Int32} (h : pg_BS mc LE MI GE a k j u) (hj : ¬ pg_BE LE MI GE a k j) : pg_BS mc LE MI GE a k (j + 1) u := by
  rcases h with ⟨y, h1, h2, h3⟩ | ⟨h1, h2⟩
  · exact Or.inl ⟨y, by omega, h2, h3⟩
  · exact Or.inr ⟨h1, pg_lt_s h2 hj⟩
abbrev rmX1_beyond : Room := { frames := 1, cells := 0, slots := 0, locals := 22 }
theorem inwX1_beyond : ∀ w ∈ wsX10, w ∈ wsX1_beyond := fun _ h => List.mem_cons_of_mem _ (List.mem_append_right _ h)
set_option maxRecDepth 20000 in
theorem flX1_beyond_64 : Cond.fieldLink RX1 64 RX1 (TX1 3).2.1 (TX1 3).2.2.1 ∈ wsX1_beyond := by decide +kernel
set_option maxRecDepth 20000 in
theorem flX1_beyond_16 : Cond.fieldLink RX1 16 RX1 (TX1 4).2.1 (TX1 4).2.2.1 ∈ wsX1_beyond := by decide +kernel
set_option maxRecDepth 20000 in
theorem flX1_beyond_23 : Cond.fieldLink RX1 23 RX1 (TX1 6).2.1 (TX1 6).2.2.1 ∈ wsX1_beyond := by decide +kernel
set_option maxRecDepth 20000 in
theorem flX1_beyond_20 : Cond.fieldLink RX1 20 RX1 (TX1 5).2.1 (TX1 5).2.2.1 ∈ wsX1_beyond := by decide +kernel
set_option maxRecDepth 20000 in
set_option maxHeartbeats 4000000 in
theorem mtX1_beyond (hn : n ≤ 14) (hm : mc ≤ 23) (hTT : ∀ t, t < mc → LE t < MI t ∧ MI t < GE t ∧ GE t < n) (i v : Int32) : gz_Ki l yX1_beyond wsX1_beyond rmX1_beyond D [(cI, .int), (cJ, .long)] [.ref (bd 0), .int i, .int v] (wM bd cI cJ n X Y mc LE MI GE ec CO kc LS GT tl GP) (fun r w1 => ((∃ a k, a < mc ∧ k < 3 ∧ i = nI a ∧ v = nI k ∧ pg_BS mc LE MI GE a k mc r) ∨ (¬ (gz_Ix i mc ∧ gz_Ix v 3) ∧ r = -1)) ∧ w1 = (wM bd cI cJ n X Y mc LE MI GE ec CO kc LS GT tl GP)) := by
  refine gz_ofi (cc := cX1_beyond) (maxL := 7) (own := RX1) (by decide +kernel) rfl rfl rfl (Nat.le_of_ble_eq_true rfl) ?_
  intro z E ret
  show gz_G z _ 0 [(0, .ref (bd 0)), (1, .int i), (2, .int v)] []
  have main : ∀ a k, a < mc → k < 3 → i = nI a → v = nI k → gz_G z (wM bd cI cJ n X Y mc LE MI GE ec CO kc LS GT tl GP) 19 [(0, .ref (bd 0)), (1, .int (nI a)), (2, .int (nI k))] [] := by
    intro a k ha hk hia hvk
    obtain ⟨t2, t3, t4⟩ := hTT a ha
    have loop : ∀ p q, p < 14 → q < 14 → p = (if k = 0 then MI a else LE a) → q = (if k = 2 then MI a else GE a) → ∀ (f j : Nat) (u : Int32), mc < f + j → j ≤ mc → pg_BS mc LE MI GE a k j u → gz_G z (wM bd cI cJ n X Y mc LE MI GE ec CO kc LS GT tl GP) 67 [(0, .ref (bd 0)), (1, .int (nI a)), (3, .int (nI p)), (4, .int (nI q)), (5, .int u), (6, .int (nI j))] [] := by
      intro p q hp hq ep eq f
      induction f with
      | zero => intro j u h1 h2; exact absurd h1 (by omega)
      | succ f ih =>
        intro j u h1 h2 h3
        refine gz_iload E dX1_beyond_67 rfl ?_
        refine gz_aload_n E dX1_beyond_69 rfl rfl ?_
        refine gz_get E inwX1_beyond 0 3 dX1_beyond_70 flX1_beyond_64 rfl rfl (by decide) rfl rfl ?_
        refine gz_icN_ge (tgt := 118) E dX1_beyond_73 (by decide) (by omega) (by omega) (fun q73 => ?_) (fun q73 => ?_)
        · skip
          refine gz_iload E dX1_beyond_118 rfl ?_
          have e : j = mc := by omega
          subst e
          exact ret _ _ _ _ dX1_beyond_120 rfl ⟨Or.inl ⟨a, k, ha, hk, hia, hvk, h3⟩, rfl⟩
        · skip
          have hj : j < mc := by omega
          obtain ⟨s2, s3, s4⟩ := hTT j hj
          have e1 : LE j < 14 := by omega
          have e2 : MI j < 14 := by omega
          have e3 : GE j < 14 := by omega
          refine gz_iload E dX1_beyond_76 rfl ?_
          refine gz_iload_n E dX1_beyond_78 rfl rfl ?_
          refine gz_icN_eq (tgt := 108) E dX1_beyond_79 (by decide) (by omega) (by omega) (fun q79 => ?_) (fun q79 => ?_)
          · skip
            refine gz_iload E dX1_beyond_108 rfl ?_
            refine gz_istore (lv' := [(0, _), (1, _), (3, _), (4, _), (5, _), (6, _)]) E dX1_beyond_110 (by decide) rfl ?_
            refine gz_iinc (lv' := [(0, _), (1, _), (3, _), (4, _), (5, _), (6, _)]) E dX1_beyond_112 rfl (gz_nI1 _) (by decide) rfl ?_
            refine gz_goto (tgt := 67) E dX1_beyond_115 (by decide) ?_
            first
              | exact ih (j + 1) _ (by omega) (by omega) (Or.inl ⟨j, by omega, ⟨q79, by rw [← ep]; exact q89, by rw [← eq]; exact q100⟩, rfl⟩)
              | exact ih (j + 1) _ (by omega) (by omega) (pg_BS_no h3 (fun z => z.1 q79))
              | exact ih (j + 1) _ (by omega) (by omega) (pg_BS_no h3 (fun z => q89 (by rw [ep]; exact z.2.1)))
              | exact ih (j + 1) _ (by omega) (by omega) (pg_BS_no h3 (fun z => q100 (by rw [eq]; exact z.2.2)))
          · skip
            refine gz_aload_n E dX1_beyond_82 rfl rfl ?_
            refine gz_iload E dX1_beyond_83 rfl ?_
            refine gz_iload_n E dX1_beyond_85 rfl rfl ?_
            refine gz_cali (n := 2) E 0 dX1_beyond_86 gX1_beyond_X1_isOf (mtX1_isOf hm (by assumption) (by assumption) (by assumption) (by assumption) (by omega)) rfl rfl ⟨rfl, rfl⟩ (by decide +kernel) ⟨Nat.le_of_ble_eq_true rfl, Nat.le_of_ble_eq_true rfl⟩ rfl rfl rfl rfl (Nat.le_of_ble_eq_true rfl) (fun r86 w86 hr86 => ?_)
            obtain ⟨hr86, rfl⟩ := hr86
            refine gz_ifB_eq (tgt := 108) E hr86 dX1_beyond_89 (by decide) (fun q89 => ?_) (fun q89 => ?_)
            · skip
              refine gz_iload E dX1_beyond_108 rfl ?_
              refine gz_istore (lv' := [(0, _), (1, _), (3, _), (4, _), (5, _), (6, _)]) E dX1_beyond_110 (by decide) rfl ?_
              refine gz_iinc (lv' := [(0, _), (1, _), (3, _), (4, _), (5, _), (6, _)]) E dX1_beyond_112 rfl (gz_nI1 _) (by decide) rfl ?_
              refine gz_goto (tgt := 67) E dX1_beyond_115 (by decide) ?_
              first
                | exact ih (j + 1) _ (by omega) (by omega) (Or.inl ⟨j, by omega, ⟨q79, by rw [← ep]; exact q89, by rw [← eq]; exact q100⟩, rfl⟩)
                | exact ih (j + 1) _ (by omega) (by omega) (pg_BS_no h3 (fun z => z.1 q79))
                | exact ih (j + 1) _ (by omega) (by omega) (pg_BS_no h3 (fun z => q89 (by rw [ep]; exact z.2.1)))
                | exact ih (j + 1) _ (by omega) (by omega) (pg_BS_no h3 (fun z => q100 (by rw [eq]; exact z.2.2)))
            · skip
              refine gz_aload_n E dX1_beyond_92 rfl rfl ?_
              refine gz_iload E dX1_beyond_93 rfl ?_
              refine gz_iload E dX1_beyond_95 rfl ?_
              refine gz_cali (n := 2) E 0 dX1_beyond_97 gX1_beyond_X1_isOf (mtX1_isOf hm (by assumption) (by assumption) (by assumption) (by assumption) (by omega)) rfl rfl ⟨rfl, rfl⟩ (by decide +kernel) ⟨Nat.le_of_ble_eq_true rfl, Nat.le_of_ble_eq_true rfl⟩ rfl rfl rfl rfl (Nat.le_of_ble_eq_true rfl) (fun r97 w97 hr97 => ?_)
              obtain ⟨hr97, rfl⟩ := hr97
              refine gz_ifB_eq (tgt := 108) E hr97 dX1_beyond_100 (by decide) (fun q100 => ?_) (fun q100 => ?_)
              · skip
                refine gz_iload E dX1_beyond_108 rfl ?_
                refine gz_istore (lv' := [(0, _), (1, _), (3, _), (4, _), (5, _), (6, _)]) E dX1_beyond_110 (by decide) rfl ?_
                refine gz_iinc (lv' := [(0, _), (1, _), (3, _), (4, _), (5, _), (6, _)]) E dX1_beyond_112 rfl (gz_nI1 _) (by decide) rfl ?_
                refine gz_goto (tgt := 67) E dX1_beyond_115 (by decide) ?_
                first
                  | exact ih (j + 1) _ (by omega) (by omega) (Or.inl ⟨j, by omega, ⟨q79, by rw [← ep]; exact q89, by rw [← eq]; exact q100⟩, rfl⟩)
                  | exact ih (j + 1) _ (by omega) (by omega) (pg_BS_no h3 (fun z => z.1 q79))
                  | exact ih (j + 1) _ (by omega) (by omega) (pg_BS_no h3 (fun z => q89 (by rw [ep]; exact z.2.1)))
                  | exact ih (j + 1) _ (by omega) (by omega) (pg_BS_no h3 (fun z => q100 (by rw [eq]; exact z.2.2)))
              · skip
                refine gz_iload E dX1_beyond_103 rfl ?_
                refine gz_goto (tgt := 110) E dX1_beyond_105 (by decide) ?_
                refine gz_istore (lv' := [(0, _), (1, _), (3, _), (4, _), (5, _), (6, _)]) E dX1_beyond_110 (by decide) rfl ?_
                refine gz_iinc (lv' := [(0, _), (1, _), (3, _), (4, _), (5, _), (6, _)]) E dX1_beyond_112 rfl (gz_nI1 _) (by decide) rfl ?_
                refine gz_goto (tgt := 67) E dX1_beyond_115 (by decide) ?_
                first
                  | exact ih (j + 1) _ (by omega) (by omega) (Or.inl ⟨j, by omega, ⟨q79, by rw [← ep]; exact q89, by rw [← eq]; exact q100⟩, rfl⟩)
                  | exact ih (j + 1) _ (by omega) (by omega) (pg_BS_no h3 (fun z => z.1 q79))
                  | exact ih (j + 1) _ (by omega) (by omega) (pg_BS_no h3 (fun z => q89 (by rw [ep]; exact z.2.1)))
                  | exact ih (j + 1) _ (by omega) (by omega) (pg_BS_no h3 (fun z => q100 (by rw [eq]; exact z.2.2)))
    refine gz_iload_n E dX1_beyond_19 rfl rfl ?_
    refine gz_ifN_ne (tgt := 32) E dX1_beyond_20 (by decide) (by omega) (fun q20 => ?_) (fun q20 => ?_)
    · skip
      refine gz_aload_n E dX1_beyond_32 rfl rfl ?_
      refine gz_get E inwX1_beyond 0 4 dX1_beyond_33 flX1_beyond_16 rfl rfl (by decide) rfl rfl ?_
      refine gz_iload_n E dX1_beyond_36 rfl rfl ?_
      refine gz_ialdN E 3 0 dX1_beyond_37 rfl rfl (by decide) rfl (by omega) ?_
      refine gz_istore_n (lv' := [(0, _), (1, _), (2, _), (3, _)]) E dX1_beyond_38 rfl (by decide) rfl ?_
      refine gz_iload_n E dX1_beyond_39 rfl rfl ?_
      refine gz_iconst (v := nI 2) E dX1_beyond_40 (by decide) ?_
      refine gz_icN_ne (tgt := 53) E dX1_beyond_41 (by decide) (by omega) (by omega) (fun q41 => ?_) (fun q41 => ?_)
      · skip
        refine gz_aload_n E dX1_beyond_53 rfl rfl ?_
        refine gz_get E inwX1_beyond 0 6 dX1_beyond_54 flX1_beyond_23 rfl rfl (by decide) rfl rfl ?_
        refine gz_iload_n E dX1_beyond_57 rfl rfl ?_
        refine gz_ialdN E 5 0 dX1_beyond_58 rfl rfl (by decide) rfl (by omega) ?_
        refine gz_istore (lv' := [(0, _), (1, _), (2, _), (3, _), (4, _)]) E dX1_beyond_59 (by decide) rfl ?_
        refine gz_iconst (v := -1) E dX1_beyond_61 (by decide) ?_
        refine gz_istore (lv' := [(0, _), (1, _), (2, _), (3, _), (4, _), (5, _)]) E dX1_beyond_62 (by decide) rfl ?_
        refine gz_iconst (v := nI 0) E dX1_beyond_64 (by decide) ?_
        refine gz_istore (lv' := [(0, _), (1, _), (2, _), (3, _), (4, _), (5, _), (6, _)]) E dX1_beyond_65 (by decide) rfl ?_
        refine gz_sub (lv' := [(0, _), (1, _), (3, _), (4, _), (5, _), (6, _)]) [0, 1, 3, 4, 5, 6] rfl ?_
        exact loop _ _ (by omega) (by omega) (by first | rw [if_pos q20] | rw [if_neg q20]) (by first | rw [if_pos q41] | rw [if_neg q41]) (mc + 1) 0 _ (by omega) (by omega) (Or.inr ⟨rfl, fun j hj => absurd hj (by omega)⟩)
      · skip
        refine gz_aload_n E dX1_beyond_44 rfl rfl ?_
        refine gz_get E inwX1_beyond 0 5 dX1_beyond_45 flX1_beyond_20 rfl rfl (by decide) rfl rfl ?_
        refine gz_iload_n E dX1_beyond_48 rfl rfl ?_
        refine gz_ialdN E 4 0 dX1_beyond_49 rfl rfl (by decide) rfl (by omega) ?_
        refine gz_goto (tgt := 59) E dX1_beyond_50 (by decide) ?_
        refine gz_istore (lv' := [(0, _), (1, _), (2, _), (3, _), (4, _)]) E dX1_beyond_59 (by decide) rfl ?_
        refine gz_iconst (v := -1) E dX1_beyond_61 (by decide) ?_
        refine gz_istore (lv' := [(0, _), (1, _), (2, _), (3, _), (4, _), (5, _)]) E dX1_beyond_62 (by decide) rfl ?_
        refine gz_iconst (v := nI 0) E dX1_beyond_64 (by decide) ?_
        refine gz_istore (lv' := [(0, _), (1, _), (2, _), (3, _), (4, _), (5, _), (6, _)]) E dX1_beyond_65 (by decide) rfl ?_
        refine gz_sub (lv' := [(0, _), (1, _), (3, _), (4, _), (5, _), (6, _)]) [0, 1, 3, 4, 5, 6] rfl ?_
        exact loop _ _ (by omega) (by omega) (by first | rw [if_pos q20] | rw [if_neg q20]) (by first | rw [if_pos q41] | rw [if_neg q41]) (mc + 1) 0 _ (by omega) (by omega) (Or.inr ⟨rfl, fun j hj => absurd hj (by omega)⟩)
    · skip
      refine gz_aload_n E dX1_beyond_23 rfl rfl ?_
      refine gz_get E inwX1_beyond 0 5 dX1_beyond_24 flX1_beyond_20 rfl rfl (by decide) rfl rfl ?_
      refine gz_iload_n E dX1_beyond_27 rfl rfl ?_
      refine gz_ialdN E 4 0 dX1_beyond_28 rfl rfl (by decide) rfl (by omega) ?_
      refine gz_goto (tgt := 38) E dX1_beyond_29 (by decide) ?_
      refine gz_istore_n (lv' := [(0, _), (1, _), (2, _), (3, _)]) E dX1_beyond_38 rfl (by decide) rfl ?_
      refine gz_iload_n E dX1_beyond_39 rfl rfl ?_
      refine gz_iconst (v := nI 2) E dX1_beyond_40 (by decide) ?_
      refine gz_icN_ne (tgt := 53) E dX1_beyond_41 (by decide) (by omega) (by omega) (fun q41 => ?_) (fun q41 => ?_)
      · skip
        refine gz_aload_n E dX1_beyond_53 rfl rfl ?_
        refine gz_get E inwX1_beyond 0 6 dX1_beyond_54 flX1_beyond_23 rfl rfl (by decide) rfl rfl ?_
        refine gz_iload_n E dX1_beyond_57 rfl rfl ?_
        refine gz_ialdN E 5 0 dX1_beyond_58 rfl rfl (by decide) rfl (by omega) ?_
        refine gz_istore (lv' := [(0, _), (1, _), (2, _), (3, _), (4, _)]) E dX1_beyond_59 (by decide) rfl ?_
        refine gz_iconst (v := -1) E dX1_beyond_61 (by decide) ?_
        refine gz_istore (lv' := [(0, _), (1, _), (2, _), (3, _), (4, _), (5, _)]) E dX1_beyond_62 (by decide) rfl ?_
        refine gz_iconst (v := nI 0) E dX1_beyond_64 (by decide) ?_
        refine gz_istore (lv' := [(0, _), (1, _), (2, _), (3, _), (4, _), (5, _), (6, _)]) E dX1_beyond_65 (by decide) rfl ?_
        refine gz_sub (lv' := [(0, _), (1, _), (3, _), (4, _), (5, _), (6, _)]) [0, 1, 3, 4, 5, 6] rfl ?_
        exact loop _ _ (by omega) (by omega) (by first | rw [if_pos q20] | rw [if_neg q20]) (by first | rw [if_pos q41] | rw [if_neg q41]) (mc + 1) 0 _ (by omega) (by omega) (Or.inr ⟨rfl, fun j hj => absurd hj (by omega)⟩)
      · skip
        refine gz_aload_n E dX1_beyond_44 rfl rfl ?_
        refine gz_get E inwX1_beyond 0 5 dX1_beyond_45 flX1_beyond_20 rfl rfl (by decide) rfl rfl ?_
        refine gz_iload_n E dX1_beyond_48 rfl rfl ?_
        refine gz_ialdN E 4 0 dX1_beyond_49 rfl rfl (by decide) rfl (by omega) ?_
        refine gz_goto (tgt := 59) E dX1_beyond_50 (by decide) ?_
        refine gz_istore (lv' := [(0, _), (1, _), (2, _), (3, _), (4, _)]) E dX1_beyond_59 (by decide) rfl ?_
        refine gz_iconst (v := -1) E dX1_beyond_61 (by decide) ?_
        refine gz_istore (lv' := [(0, _), (1, _), (2, _), (3, _), (4, _), (5, _)]) E dX1_beyond_62 (by decide) rfl ?_
        refine gz_iconst (v := nI 0) E dX1_beyond_64 (by decide) ?_
        refine gz_istore (lv' := [(0, _), (1, _), (2, _), (3, _), (4, _), (5, _), (6, _)]) E dX1_beyond_65 (by decide) rfl ?_
        refine gz_sub (lv' := [(0, _), (1, _), (3, _), (4, _), (5, _), (6, _)]) [0, 1, 3, 4, 5, 6] rfl ?_
        exact loop _ _ (by omega) (by omega) (by first | rw [if_pos q20] | rw [if_neg q20]) (by first | rw [if_pos q41] | rw [if_neg q41]) (mc + 1) 0 _ (by omega) (by omega) (Or.inr ⟨rfl, fun j hj => absurd hj (by omega)⟩)
  refine gz_aload_n E dX1_beyond_0 rfl rfl ?_
  refine gz_iload_n E dX1_beyond_1 rfl rfl ?_
  refine gz_cali (n := 1) E 0 dX1_beyond_2 gX1_beyond_X1_none (mtX1_none (by omega) _) rfl rfl ⟨rfl, rfl⟩ (by decide +kernel) ⟨Nat.le_of_ble_eq_true rfl, Nat.le_of_ble_eq_true rfl⟩ rfl rfl rfl rfl (Nat.le_of_ble_eq_true rfl) (fun r2 w2 hr2 => ?_)
  obtain ⟨hr2, rfl⟩ := hr2
  refine gz_ifB_ne (tgt := 17) E hr2 dX1_beyond_5 (by decide) (fun q5 => ?_) (fun q5 => ?_)
  · skip
    refine gz_iconst (v := -1) E dX1_beyond_17 (by decide) ?_
    first
      | exact ret _ _ _ _ dX1_beyond_18 rfl ⟨Or.inr ⟨fun z => q5 z.1, rfl⟩, rfl⟩
      | exact ret _ _ _ _ dX1_beyond_18 rfl ⟨Or.inr ⟨fun z => gz_Ix_f1 (by decide) q9 z.2, rfl⟩, rfl⟩
      | exact ret _ _ _ _ dX1_beyond_18 rfl ⟨Or.inr ⟨fun z => gz_Ix3_f q14 z.2, rfl⟩, rfl⟩
  · skip
    refine gz_iload_n E dX1_beyond_8 rfl rfl ?_
    refine gz_if_lt (tgt := 17) E dX1_beyond_9 (by decide) (fun q9 => ?_) (fun q9 => ?_)
    · skip
      refine gz_iconst (v := -1) E dX1_beyond_17 (by decide) ?_
      first
        | exact ret _ _ _ _ dX1_beyond_18 rfl ⟨Or.inr ⟨fun z => q5 z.1, rfl⟩, rfl⟩
        | exact ret _ _ _ _ dX1_beyond_18 rfl ⟨Or.inr ⟨fun z => gz_Ix_f1 (by decide) q9 z.2, rfl⟩, rfl⟩
        | exact ret _ _ _ _ dX1_beyond_18 rfl ⟨Or.inr ⟨fun z => gz_Ix3_f q14 z.2, rfl⟩, rfl⟩
    · skip
      refine gz_iload_n E dX1_beyond_12 rfl rfl ?_
      refine gz_iconst (v := nI 2) E dX1_beyond_13 (by decide) ?_
      refine gz_icmp_le (tgt := 19) E dX1_beyond_14 (by decide) (fun q14 => ?_) (fun q14 => ?_)
      · skip
        obtain ⟨a, ha, rfl⟩ := Classical.not_not.mp q5
        obtain ⟨k, hk, rfl⟩ := gz_Ix3 q9 q14
        exact main a k ha hk rfl rfl
      · skip
        refine gz_iconst (v := -1) E dX1_beyond_17 (by decide) ?_
        first
          | exact ret _ _ _ _ dX1_beyond_18 rfl ⟨Or.inr ⟨fun z => q5 z.1, rfl⟩, rfl⟩
          | exact ret _ _ _ _ dX1_beyond_18 rfl ⟨Or.inr ⟨fun z => gz_Ix_f1 (by decide) q9 z.2, rfl⟩, rfl⟩
          | exact ret _ _ _ _ dX1_beyond_18 rfl ⟨Or.inr ⟨fun z => gz_Ix3_f q14 z.2, rfl⟩, rfl⟩
abbrev rmX1_bounded : Room := { frames := 2, cells := 0, slots := 0, locals := 45 }
theorem inwX1_bounded : ∀ w ∈ wsX10, w ∈ wsX1_bounded := fun _ h => List.mem_cons_of_mem _ (List.mem_append_right _ h)
set_option maxRecDepth 20000 in
theorem flX1_bounded_56 : Cond.fieldLink RX1 56 RX1 (TX1 0).2.1 (TX1 0).2.2.1 ∈ wsX1_bounded := by decide +kernel
set_option maxRecDepth 20000 in
set_option maxHeartbeats 4000000 in
theorem mtX1_bounded (SB : pg_ok n X Y) (x : Int32) : gz_Ki l yX1_bounded wsX1_bounded rmX1_bounded D [(cI, .int), (cJ, .long)] [.ref (bd 0), .int x] (wM bd cI cJ n X Y mc LE MI GE ec CO kc LS GT tl GP) (fun r w1 => gz_B r (pg_BO n X Y x) ∧ w1 = (wM bd cI cJ n X Y mc LE MI GE ec CO kc LS GT tl GP)) := by
  refine gz_ofi (cc := cX1_bounded) (maxL := 6) (own := RX1) (by decide +kernel) rfl rfl rfl (Nat.le_of_ble_eq_true rfl) ?_
  intro z E ret
  have hn := SB.1
  show gz_G z _ 0 [(0, .ref (bd 0)), (1, .int x)] []
  have loopA : ∀ a, a < n → x = nI a → ∀ (f b : Nat) (r : Int32), n < f + b → b ≤ n → gz_B r (2 ≤ n ∧ ∀ b', b' < b → b' ≠ a → ¬ pg_NR n X Y a b') → gz_G z (wM bd cI cJ n X Y mc LE MI GE ec CO kc LS GT tl GP) 24 [(0, .ref (bd 0)), (1, .int (nI a)), (2, .int r), (3, .int (nI b))] [] := by
    intro a ha hxa f
    induction f with
    | zero => intro b r h1 h2; exact absurd h1 (by omega)
    | succ f ihA =>
      intro b r h1 h2 hB
      have loopB : b < n → (2 ≤ n ∧ ∀ b', b' < b → b' ≠ a → ¬ pg_NR n X Y a b') → ∀ (g c : Nat) (s : Int32), n < g + c → c ≤ n → gz_B s (b ≠ a ∧ ∀ c', c' < c → 0 ≤ pg_tn X Y a b c') → gz_G z (wM bd cI cJ n X Y mc LE MI GE ec CO kc LS GT tl GP) 51 [(0, .ref (bd 0)), (1, .int (nI a)), (3, .int (nI b)), (4, .int s), (5, .int (nI c))] [] := by
        intro hbn hP g
        induction g with
        | zero => intro c s g1 g2; exact absurd g1 (by omega)
        | succ g ihB =>
          intro c s g1 g2 hS
          refine gz_iload E dX1_bounded_51 rfl ?_
          refine gz_aload_n E dX1_bounded_53 rfl rfl ?_
          refine gz_get E inwX1_bounded 0 0 dX1_bounded_54 flX1_bounded_56 rfl rfl (by decide) rfl rfl ?_
          refine gz_icN_ge (tgt := 89) E dX1_bounded_57 (by decide) (by omega) (by omega) (fun q57 => ?_) (fun q57 => ?_)
          · skip
            refine gz_iload E dX1_bounded_89 rfl ?_
            refine gz_ifB_ne (tgt := 98) E hS dX1_bounded_91 (by decide) (fun q91 => ?_) (fun q91 => ?_)
            · skip
              refine gz_iconst (v := nI 0) E dX1_bounded_98 (by decide) ?_
              refine gz_istore_n (lv' := [(0, _), (1, _), (2, _), (3, _), (4, _), (5, _)]) E dX1_bounded_99 rfl (by decide) rfl ?_
              refine gz_iinc (lv' := [(0, _), (1, _), (2, _), (3, _), (4, _), (5, _)]) E dX1_bounded_100 rfl (gz_nI1 _) (by decide) rfl ?_
              refine gz_goto (tgt := 24) E dX1_bounded_103 (by decide) ?_
              refine gz_sub (lv' := [(0, _), (1, _), (2, _), (3, _)]) [0, 1, 2, 3] rfl ?_
              first
                | exact absurd q91 q62
                | exact ihA (b + 1) _ (by omega) (by omega) (gz_B_f (fun q => q.2 b (by omega) q91.1 (fun m hm => q91.2 m (by omega))))
                | exact ihA (b + 1) _ (by omega) (by omega) (gz_B_t ⟨hP.1, pg_lt_s hP.2 (fun hne hR => q91 ⟨hne, fun c' k1 => hR c' (by omega)⟩)⟩)
            · skip
              refine gz_iconst (v := nI 1) E dX1_bounded_94 (by decide) ?_
              refine gz_goto (tgt := 99) E dX1_bounded_95 (by decide) ?_
              refine gz_istore_n (lv' := [(0, _), (1, _), (2, _), (3, _), (4, _), (5, _)]) E dX1_bounded_99 rfl (by decide) rfl ?_
              refine gz_iinc (lv' := [(0, _), (1, _), (2, _), (3, _), (4, _), (5, _)]) E dX1_bounded_100 rfl (gz_nI1 _) (by decide) rfl ?_
              refine gz_goto (tgt := 24) E dX1_bounded_103 (by decide) ?_
              refine gz_sub (lv' := [(0, _), (1, _), (2, _), (3, _)]) [0, 1, 2, 3] rfl ?_
              first
                | exact absurd q91 q62
                | exact ihA (b + 1) _ (by omega) (by omega) (gz_B_f (fun q => q.2 b (by omega) q91.1 (fun m hm => q91.2 m (by omega))))
                | exact ihA (b + 1) _ (by omega) (by omega) (gz_B_t ⟨hP.1, pg_lt_s hP.2 (fun hne hR => q91 ⟨hne, fun c' k1 => hR c' (by omega)⟩)⟩)
          · skip
            refine gz_iload E dX1_bounded_60 rfl ?_
            refine gz_ifB_eq (tgt := 89) E hS dX1_bounded_62 (by decide) (fun q62 => ?_) (fun q62 => ?_)
            · skip
              refine gz_iload E dX1_bounded_89 rfl ?_
              refine gz_ifB_ne (tgt := 98) E hS dX1_bounded_91 (by decide) (fun q91 => ?_) (fun q91 => ?_)
              · skip
                refine gz_iconst (v := nI 0) E dX1_bounded_98 (by decide) ?_
                refine gz_istore_n (lv' := [(0, _), (1, _), (2, _), (3, _), (4, _), (5, _)]) E dX1_bounded_99 rfl (by decide) rfl ?_
                refine gz_iinc (lv' := [(0, _), (1, _), (2, _), (3, _), (4, _), (5, _)]) E dX1_bounded_100 rfl (gz_nI1 _) (by decide) rfl ?_
                refine gz_goto (tgt := 24) E dX1_bounded_103 (by decide) ?_
                refine gz_sub (lv' := [(0, _), (1, _), (2, _), (3, _)]) [0, 1, 2, 3] rfl ?_
                first
                  | exact absurd q91 q62
                  | exact ihA (b + 1) _ (by omega) (by omega) (gz_B_f (fun q => q.2 b (by omega) q91.1 (fun m hm => q91.2 m (by omega))))
                  | exact ihA (b + 1) _ (by omega) (by omega) (gz_B_t ⟨hP.1, pg_lt_s hP.2 (fun hne hR => q91 ⟨hne, fun c' k1 => hR c' (by omega)⟩)⟩)
              · skip
                refine gz_iconst (v := nI 1) E dX1_bounded_94 (by decide) ?_
                refine gz_goto (tgt := 99) E dX1_bounded_95 (by decide) ?_
                refine gz_istore_n (lv' := [(0, _), (1, _), (2, _), (3, _), (4, _), (5, _)]) E dX1_bounded_99 rfl (by decide) rfl ?_
                refine gz_iinc (lv' := [(0, _), (1, _), (2, _), (3, _), (4, _), (5, _)]) E dX1_bounded_100 rfl (gz_nI1 _) (by decide) rfl ?_
                refine gz_goto (tgt := 24) E dX1_bounded_103 (by decide) ?_
                refine gz_sub (lv' := [(0, _), (1, _), (2, _), (3, _)]) [0, 1, 2, 3] rfl ?_
                first
                  | exact absurd q91 q62
                  | exact ihA (b + 1) _ (by omega) (by omega) (gz_B_f (fun q => q.2 b (by omega) q91.1 (fun m hm => q91.2 m (by omega))))
                  | exact ihA (b + 1) _ (by omega) (by omega) (gz_B_t ⟨hP.1, pg_lt_s hP.2 (fun hne hR => q91 ⟨hne, fun c' k1 => hR c' (by omega)⟩)⟩)
            · skip
              have hc : c < n := by omega
              have hb : b < n := hbn
              have sb := pg_sg_b (pg_tn X Y a b c)
              have s2 := pg_sg_neg (x := pg_tn X Y a b c)
              refine gz_aload_n E dX1_bounded_65 rfl rfl ?_
              refine gz_iload_n E dX1_bounded_66 rfl rfl ?_
              refine gz_iload_n E dX1_bounded_67 rfl rfl ?_
              refine gz_iload E dX1_bounded_68 rfl ?_
              refine gz_cali (n := 3) E 0 dX1_bounded_70 gX1_bounded_X1_turn (mtX1_turn SB (by assumption) (by assumption) (by assumption)) rfl rfl ⟨rfl, rfl⟩ (by decide +kernel) ⟨Nat.le_of_ble_eq_true rfl, Nat.le_of_ble_eq_true rfl⟩ rfl rfl rfl rfl (Nat.le_of_ble_eq_true rfl) (fun r70 w70 hr70 => ?_)
              obtain ⟨rfl, rfl⟩ := hr70
              refine gz_ifI_lt (tgt := 80) E dX1_bounded_73 (by decide) (by omega) (by omega) (fun q73 => ?_) (fun q73 => ?_)
              · skip
                refine gz_iconst (v := nI 0) E dX1_bounded_80 (by decide) ?_
                refine gz_istore (lv' := [(0, _), (1, _), (3, _), (4, _), (5, _)]) E dX1_bounded_81 (by decide) rfl ?_
                refine gz_iinc (lv' := [(0, _), (1, _), (3, _), (4, _), (5, _)]) E dX1_bounded_83 rfl (gz_nI1 _) (by decide) rfl ?_
                refine gz_goto (tgt := 51) E dX1_bounded_86 (by decide) ?_
                first
                  | exact ihB (c + 1) _ (by omega) (by omega) (gz_B_t ⟨q62.1, pg_lt_s q62.2 (by omega)⟩)
                  | exact ihB (c + 1) _ (by omega) (by omega) (gz_B_f (fun q => absurd (q.2 c (by omega)) (by omega)))
              · skip
                refine gz_iconst (v := nI 1) E dX1_bounded_76 (by decide) ?_
                refine gz_goto (tgt := 81) E dX1_bounded_77 (by decide) ?_
                refine gz_istore (lv' := [(0, _), (1, _), (3, _), (4, _), (5, _)]) E dX1_bounded_81 (by decide) rfl ?_
                refine gz_iinc (lv' := [(0, _), (1, _), (3, _), (4, _), (5, _)]) E dX1_bounded_83 rfl (gz_nI1 _) (by decide) rfl ?_
                refine gz_goto (tgt := 51) E dX1_bounded_86 (by decide) ?_
                first
                  | exact ihB (c + 1) _ (by omega) (by omega) (gz_B_t ⟨q62.1, pg_lt_s q62.2 (by omega)⟩)
                  | exact ihB (c + 1) _ (by omega) (by omega) (gz_B_f (fun q => absurd (q.2 c (by omega)) (by omega)))
      refine gz_iload_n E dX1_bounded_24 rfl rfl ?_
      refine gz_aload_n E dX1_bounded_25 rfl rfl ?_
      refine gz_get E inwX1_bounded 0 0 dX1_bounded_26 flX1_bounded_56 rfl rfl (by decide) rfl rfl ?_
      refine gz_icN_ge (tgt := 106) E dX1_bounded_29 (by decide) (by omega) (by omega) (fun q29 => ?_) (fun q29 => ?_)
      · skip
        refine gz_iload_n E dX1_bounded_106 rfl rfl ?_
        first
          | exact ret _ _ _ _ dX1_bounded_107 (gz_bnar hB) ⟨gz_B_c hB ⟨fun q => absurd q q33, fun q => by rw [hxa, pg_BO_N hn ha] at q; exact absurd ⟨q.1, fun b2 k1 k2 => q.2 b2 (by omega) k2⟩ q33⟩, rfl⟩
          | exact ret _ _ _ _ dX1_bounded_107 (gz_bnar hB) ⟨gz_B_c hB ⟨fun q => by rw [hxa, pg_BO_N hn ha]; exact ⟨q.1, fun b2 k1 k2 => q.2 b2 (by omega) k2⟩, fun q => by rw [hxa, pg_BO_N hn ha] at q; exact ⟨q.1, fun b2 k1 k2 => q.2 b2 (by omega) k2⟩⟩, rfl⟩
      · skip
        refine gz_iload_n E dX1_bounded_32 rfl rfl ?_
        refine gz_ifB_eq (tgt := 106) E hB dX1_bounded_33 (by decide) (fun q33 => ?_) (fun q33 => ?_)
        · skip
          refine gz_iload_n E dX1_bounded_106 rfl rfl ?_
          first
            | exact ret _ _ _ _ dX1_bounded_107 (gz_bnar hB) ⟨gz_B_c hB ⟨fun q => absurd q q33, fun q => by rw [hxa, pg_BO_N hn ha] at q; exact absurd ⟨q.1, fun b2 k1 k2 => q.2 b2 (by omega) k2⟩ q33⟩, rfl⟩
            | exact ret _ _ _ _ dX1_bounded_107 (gz_bnar hB) ⟨gz_B_c hB ⟨fun q => by rw [hxa, pg_BO_N hn ha]; exact ⟨q.1, fun b2 k1 k2 => q.2 b2 (by omega) k2⟩, fun q => by rw [hxa, pg_BO_N hn ha] at q; exact ⟨q.1, fun b2 k1 k2 => q.2 b2 (by omega) k2⟩⟩, rfl⟩
        · skip
          refine gz_iload_n E dX1_bounded_36 rfl rfl ?_
          refine gz_iload_n E dX1_bounded_37 rfl rfl ?_
          refine gz_icN_eq (tgt := 45) E dX1_bounded_38 (by decide) (by omega) (by omega) (fun q38 => ?_) (fun q38 => ?_)
          · skip
            refine gz_iconst (v := nI 0) E dX1_bounded_45 (by decide) ?_
            refine gz_istore (lv' := [(0, _), (1, _), (2, _), (3, _), (4, _)]) E dX1_bounded_46 (by decide) rfl ?_
            refine gz_iconst (v := nI 0) E dX1_bounded_48 (by decide) ?_
            refine gz_istore (lv' := [(0, _), (1, _), (2, _), (3, _), (4, _), (5, _)]) E dX1_bounded_49 (by decide) rfl ?_
            refine gz_sub (lv' := [(0, _), (1, _), (3, _), (4, _), (5, _)]) [0, 1, 3, 4, 5] rfl ?_
            first
              | exact loopB (by omega) q33 (n + 1) 0 _ (by omega) (by omega) (gz_B_t ⟨q38, fun c' k => absurd k (by omega)⟩)
              | exact loopB (by omega) q33 (n + 1) 0 _ (by omega) (by omega) (gz_B_f (fun q => q.1 q38))
          · skip
            refine gz_iconst (v := nI 1) E dX1_bounded_41 (by decide) ?_
            refine gz_goto (tgt := 46) E dX1_bounded_42 (by decide) ?_
            refine gz_istore (lv' := [(0, _), (1, _), (2, _), (3, _), (4, _)]) E dX1_bounded_46 (by decide) rfl ?_
            refine gz_iconst (v := nI 0) E dX1_bounded_48 (by decide) ?_
            refine gz_istore (lv' := [(0, _), (1, _), (2, _), (3, _), (4, _), (5, _)]) E dX1_bounded_49 (by decide) rfl ?_
            refine gz_sub (lv' := [(0, _), (1, _), (3, _), (4, _), (5, _)]) [0, 1, 3, 4, 5] rfl ?_
            first
              | exact loopB (by omega) q33 (n + 1) 0 _ (by omega) (by omega) (gz_B_t ⟨q38, fun c' k => absurd k (by omega)⟩)
              | exact loopB (by omega) q33 (n + 1) 0 _ (by omega) (by omega) (gz_B_f (fun q => q.1 q38))
  have off : ∀ r : Int32, r = nI 0 → ¬ pg_BO n X Y x → gz_G z (wM bd cI cJ n X Y mc LE MI GE ec CO kc LS GT tl GP) 24 [(0, .ref (bd 0)), (1, .int x), (2, .int r), (3, .int (nI 0))] [] := by
    intro r er hno
    subst er
    refine gz_iload_n E dX1_bounded_24 rfl rfl ?_
    refine gz_aload_n E dX1_bounded_25 rfl rfl ?_
    refine gz_get E inwX1_bounded 0 0 dX1_bounded_26 flX1_bounded_56 rfl rfl (by decide) rfl rfl ?_
    refine gz_icN_ge (tgt := 106) E dX1_bounded_29 (by decide) (by omega) (by omega) (fun q29 => ?_) (fun q29 => ?_)
    · skip
      refine gz_iload_n E dX1_bounded_106 rfl rfl ?_
      exact ret _ _ _ _ dX1_bounded_107 rfl ⟨gz_B_f hno, rfl⟩
    · skip
      refine gz_iload_n E dX1_bounded_32 rfl rfl ?_
      refine gz_ifN_eq (tgt := 106) E dX1_bounded_33 (by decide) (by omega) (fun q33 => ?_) (fun q33 => ?_)
      · skip
        refine gz_iload_n E dX1_bounded_106 rfl rfl ?_
        exact ret _ _ _ _ dX1_bounded_107 rfl ⟨gz_B_f hno, rfl⟩
      · exact absurd rfl q33
  refine gz_aload_n E dX1_bounded_0 rfl rfl ?_
  refine gz_iload_n E dX1_bounded_1 rfl rfl ?_
  refine gz_cali (n := 1) E 0 dX1_bounded_2 gX1_bounded_X1_noSite (mtX1_noSite (by omega) _) rfl rfl ⟨rfl, rfl⟩ (by decide +kernel) ⟨Nat.le_of_ble_eq_true rfl, Nat.le_of_ble_eq_true rfl⟩ rfl rfl rfl rfl (Nat.le_of_ble_eq_true rfl) (fun r2 w2 hr2 => ?_)
  obtain ⟨hr2, rfl⟩ := hr2
  refine gz_ifB_ne (tgt := 20) E hr2 dX1_bounded_5 (by decide) (fun q5 => ?_) (fun q5 => ?_)
  · skip
    refine gz_iconst (v := nI 0) E dX1_bounded_20 (by decide) ?_
    refine gz_istore_n (lv' := [(0, _), (1, _), (2, _)]) E dX1_bounded_21 rfl (by decide) rfl ?_
    refine gz_iconst (v := nI 0) E dX1_bounded_22 (by decide) ?_
    refine gz_istore_n (lv' := [(0, _), (1, _), (2, _), (3, _)]) E dX1_bounded_23 rfl (by decide) rfl ?_
    first
      | exact off _ rfl (fun ⟨a, h1, h2, _⟩ => q5 ⟨a, h1, h2⟩)
      | exact off _ rfl (fun ⟨a, h1, h2, h3, _⟩ => absurd h3 (by omega))
      | (obtain ⟨a, ha, rfl⟩ := Classical.not_not.mp q5
         exact loopA a ha rfl (n + 1) 0 _ (by omega) (by omega) (gz_B_t ⟨by omega, fun b hb => absurd hb (by omega)⟩))
  · skip
    refine gz_aload_n E dX1_bounded_8 rfl rfl ?_
    refine gz_get E inwX1_bounded 0 0 dX1_bounded_9 flX1_bounded_56 rfl rfl (by decide) rfl rfl ?_
    refine gz_iconst (v := nI 1) E dX1_bounded_12 (by decide) ?_
    refine gz_icN_le (tgt := 20) E dX1_bounded_13 (by decide) (by omega) (by omega) (fun q13 => ?_) (fun q13 => ?_)
    · skip
      refine gz_iconst (v := nI 0) E dX1_bounded_20 (by decide) ?_
      refine gz_istore_n (lv' := [(0, _), (1, _), (2, _)]) E dX1_bounded_21 rfl (by decide) rfl ?_
      refine gz_iconst (v := nI 0) E dX1_bounded_22 (by decide) ?_
      refine gz_istore_n (lv' := [(0, _), (1, _), (2, _), (3, _)]) E dX1_bounded_23 rfl (by decide) rfl ?_
      first
        | exact off _ rfl (fun ⟨a, h1, h2, _⟩ => q5 ⟨a, h1, h2⟩)
        | exact off _ rfl (fun ⟨a, h1, h2, h3, _⟩ => absurd h3 (by omega))
        | (obtain ⟨a, ha, rfl⟩ := Classical.not_not.mp q5
           exact loopA a ha rfl (n + 1) 0 _ (by omega) (by omega) (gz_B_t ⟨by omega, fun b hb => absurd hb (by omega)⟩))
    · skip
      refine gz_iconst (v := nI 1) E dX1_bounded_16 (by decide) ?_
      refine gz_goto (tgt := 21) E dX1_bounded_17 (by decide) ?_
      refine gz_istore_n (lv' := [(0, _), (1, _), (2, _)]) E dX1_bounded_21 rfl (by decide) rfl ?_
      refine gz_iconst (v := nI 0) E dX1_bounded_22 (by decide) ?_
      refine gz_istore_n (lv' := [(0, _), (1, _), (2, _), (3, _)]) E dX1_bounded_23 rfl (by decide) rfl ?_
      first
        | exact off _ rfl (fun ⟨a, h1, h2, _⟩ => q5 ⟨a, h1, h2⟩)
        | exact off _ rfl (fun ⟨a, h1, h2, h3, _⟩ => absurd h3 (by omega))
        | (obtain ⟨a, ha, rfl⟩ := Classical.not_not.mp q5
           exact loopA a ha rfl (n + 1) 0 _ (by omega) (by omega) (gz_B_t ⟨by omega, fun b hb => absurd hb (by omega)⟩))
/-- the reference's state over its sites -/
def pg_ALM (n : Nat) (X Y : Nat → Int) (mc : Nat) (LE MI GE : Nat → Nat) (ec : Nat) (CO : Nat → Nat) (kc : Nat) (LS GT : Nat → Nat) (tl : Int) (GP : Nat → Nat) : Prop := pg_EN n X Y 4096 mc LE MI GE ∧ pg_RJ n X Y ec CO ∧ kc = n - 1 ∧ pg_TJ n X Y (pg_ER n X Y mc LE MI GE) (n - 1) LS GT tl GP
/-- what the plane gives the reference's tree -/
def pg_PT (n : Nat) (X Y : Nat → Int) : Prop := pg_PM n X Y ∧ ∀ mc LE MI GE, pg_EN n X Y 4096 mc LE MI GE → ∀ GR : Nat → Nat, (∃ i j, i < n ∧ j < n ∧ GR i ≠ GR j) → ∃ a b, pg_CA n (pg_ER n X Y mc LE MI GE) GR a b
abbrev rmX1_add : Room := { frames := 6, cells := 0, slots := 0, locals := 142 }
theorem inwX1_add : ∀ w ∈ wsX10, w ∈ wsX1_add := fun _ h => List.mem_cons_of_mem _ (List.mem_append_right _ h)
set_option maxRecDepth 20000 in
theorem flX1_add_56 : Cond.fieldLink RX1 56 RX1 (TX1 0).2.1 (TX1 0).2.2.1 ∈ wsX1_add := by decide +kernel
set_option maxRecDepth 20000 in
theorem flX1_add_7 : Cond.fieldLink RX1 7 RX1 (TX1 1).2.1 (TX1 1).2.2.1 ∈ wsX1_add := by decide +kernel
set_option maxRecDepth 20000 in
theorem flX1_add_13 : Cond.fieldLink RX1 13 RX1 (TX1 2).2.1 (TX1 2).2.2.1 ∈ wsX1_add := by decide +kernel
set_option maxRecDepth 20000 in
set_option maxHeartbeats 4000000 in
theorem mtX1_add (SB : pg_ok n X Y) {x y : Int} (x1 : -2147483648 ≤ x) (x2 : x < 2147483648) (y1 : -2147483648 ≤ y) (y2 : y < 2147483648) (hPT : pg_ok (n + 1) (fun i => if i = n then x else X i) (fun i => if i = n then y else Y i) → pg_PT (n + 1) (fun i => if i = n then x else X i) (fun i => if i = n then y else Y i)) : gz_Ki l yX1_add wsX1_add rmX1_add D [(cI, .int), (cJ, .long)] [.ref (bd 0), .int (iI x), .int (iI y)] (wM bd cI cJ n X Y mc LE MI GE ec CO kc LS GT tl GP) (fun r w1 => ((x < -30000 ∨ 30000 < x ∨ y < -30000 ∨ 30000 < y) ∧ r = -1 ∧ w1 = (wM bd cI cJ n X Y mc LE MI GE ec CO kc LS GT tl GP)) ∨ ((-30000 ≤ x ∧ x ≤ 30000 ∧ -30000 ≤ y ∧ y ≤ 30000) ∧ ((∃ k, k < n ∧ X k = x ∧ Y k = y ∧ r = nI k ∧ w1 = (wM bd cI cJ n X Y mc LE MI GE ec CO kc LS GT tl GP)) ∨ ((∀ k, k < n → ¬ (X k = x ∧ Y k = y)) ∧ ((n = 14 ∧ r = -2 ∧ w1 = (wM bd cI cJ n X Y mc LE MI GE ec CO kc LS GT tl GP)) ∨ (n < 14 ∧ r = nI n ∧ ∃ mc LE MI GE ec CO kc LS GT tl GP, w1 = (wM bd cI cJ (n + 1) (fun i => if i = n then x else X i) (fun i => if i = n then y else Y i) mc LE MI GE ec CO kc LS GT tl GP) ∧ pg_ALM (n + 1) (fun i => if i = n then x else X i) (fun i => if i = n then y else Y i) mc LE MI GE ec CO kc LS GT tl GP)))))) := by
  refine gz_ofi (cc := cX1_add) (maxL := 4) (own := RX1) (by decide +kernel) rfl rfl rfl (Nat.le_of_ble_eq_true rfl) ?_
  intro z E ret
  have hn := SB.1
  show gz_G z _ 0 [(0, .ref (bd 0)), (1, .int (iI x)), (2, .int (iI y))] []
  have loop : (-30000 ≤ x ∧ x ≤ 30000 ∧ -30000 ≤ y ∧ y ≤ 30000) → ∀ (f k : Nat), n < f + k → k ≤ n → (∀ j, j < k → ¬ (X j = x ∧ Y j = y)) → gz_G z (wM bd cI cJ n X Y mc LE MI GE ec CO kc LS GT tl GP) 32 [(0, .ref (bd 0)), (1, .int (iI x)), (2, .int (iI y)), (3, .int (nI k))] [] := by
    intro hin f
    induction f with
    | zero => intro k h1 h2; exact absurd h1 (by omega)
    | succ f ih =>
      intro k h1 h2 h3
      refine gz_iload_n E dX1_add_32 rfl rfl ?_
      refine gz_aload_n E dX1_add_33 rfl rfl ?_
      refine gz_get E inwX1_add 0 0 dX1_add_34 flX1_add_56 rfl rfl (by decide) rfl rfl ?_
      refine gz_icN_ge (tgt := 72) E dX1_add_37 (by decide) (by omega) (by omega) (fun q37 => ?_) (fun q37 => ?_)
      · skip
        refine gz_aload_n E dX1_add_72 rfl rfl ?_
        refine gz_get E inwX1_add 0 0 dX1_add_73 flX1_add_56 rfl rfl (by decide) rfl rfl ?_
        refine gz_bipush (v := nI 14) E dX1_add_76 (by decide) ?_
        refine gz_icN_ne (tgt := 84) E dX1_add_78 (by decide) (by omega) (by omega) (fun q78 => ?_) (fun q78 => ?_)
        · skip
          have hno : ∀ j, j < n → ¬ (X j = x ∧ Y j = y) := fun j hj => h3 j (by omega)
          have hok := pg_ok_add SB (by omega) hin.1 hin.2.1 hin.2.2.1 hin.2.2.2 hno
          refine gz_aload_n E dX1_add_84 rfl rfl ?_
          refine gz_get E inwX1_add 0 1 dX1_add_85 flX1_add_7 rfl rfl (by decide) rfl rfl ?_
          refine gz_aload_n E dX1_add_88 rfl rfl ?_
          refine gz_get E inwX1_add 0 0 dX1_add_89 flX1_add_56 rfl rfl (by decide) rfl rfl ?_
          refine gz_iload_n E dX1_add_92 rfl rfl ?_
          refine gz_i2lI E dX1_add_93 (by omega) (by omega) ?_
          refine gz_lastN E 1 1 dX1_add_94 rfl rfl (by decide) (by omega) ?_
          refine gz_w (ws' := (wM bd cI cJ n (fun i => if i = n then x else X i) Y mc LE MI GE ec CO kc LS GT tl GP)) (by rw [gz_upLI]; rfl) ?_
          refine gz_aload_n E dX1_add_95 rfl rfl ?_
          refine gz_get E inwX1_add 0 2 dX1_add_96 flX1_add_13 rfl rfl (by decide) rfl rfl ?_
          refine gz_aload_n E dX1_add_99 rfl rfl ?_
          refine gz_get E inwX1_add 0 0 dX1_add_100 flX1_add_56 rfl rfl (by decide) rfl rfl ?_
          refine gz_iload_n E dX1_add_103 rfl rfl ?_
          refine gz_i2lI E dX1_add_104 (by omega) (by omega) ?_
          refine gz_lastN E 2 1 dX1_add_105 rfl rfl (by decide) (by omega) ?_
          refine gz_w (ws' := (wM bd cI cJ n (fun i => if i = n then x else X i) (fun i => if i = n then y else Y i) mc LE MI GE ec CO kc LS GT tl GP)) (by rw [gz_upLI]; rfl) ?_
          refine gz_aload_n E dX1_add_106 rfl rfl ?_
          refine gz_dup E dX1_add_107 rfl ?_
          refine gz_get E inwX1_add 0 0 dX1_add_108 flX1_add_56 rfl rfl (by decide) rfl rfl ?_
          refine gz_iconst (v := nI 1) E dX1_add_111 (by decide) ?_
          refine gz_iaddN E dX1_add_112 ?_
          refine gz_put E inwX1_add 0 0 dX1_add_113 flX1_add_56 rfl rfl (by decide) rfl tyX1 tyX1_ok nmX1 rfl rfl rfl (Nat.le_of_ble_eq_true rfl) ?_
          refine gz_w (ws' := (wM bd cI cJ (n + 1) (fun i => if i = n then x else X i) (fun i => if i = n then y else Y i) mc LE MI GE ec CO kc LS GT tl GP)) (by rfl) ?_
          refine gz_aload_n E dX1_add_116 rfl rfl ?_
          refine gz_calv (n := 0) E 0 dX1_add_117 gX1_add_X1_makeTriangles (mtX1_makeTriangles hok) rfl rfl ⟨rfl, rfl⟩ (by decide +kernel) ⟨Nat.le_of_ble_eq_true rfl, Nat.le_of_ble_eq_true rfl⟩ rfl rfl rfl rfl (Nat.le_of_ble_eq_true rfl) (fun w117 hr117 => ?_)
          obtain ⟨mc, LE, MI, GE, rfl, hEN117⟩ := hr117
          refine gz_aload_n E dX1_add_120 rfl rfl ?_
          refine gz_calv (n := 0) E 0 dX1_add_121 gX1_add_X1_makeCorners (mtX1_makeCorners hok (hPT hok).1) rfl rfl ⟨rfl, rfl⟩ (by decide +kernel) ⟨Nat.le_of_ble_eq_true rfl, Nat.le_of_ble_eq_true rfl⟩ rfl rfl rfl rfl (Nat.le_of_ble_eq_true rfl) (fun w121 hr121 => ?_)
          obtain ⟨ec, CO, rfl, hRJ121⟩ := hr121
          refine gz_aload_n E dX1_add_124 rfl rfl ?_
          refine gz_calv (n := 0) E 0 dX1_add_125 gX1_add_X1_makeTree (mtX1_makeTree hok (by omega) (pg_EN_23 hok hEN117) (pg_EN_14 hok.1 hEN117) ((hPT hok).2 _ _ _ _ hEN117)) rfl rfl ⟨rfl, rfl⟩ (by decide +kernel) ⟨Nat.le_of_ble_eq_true rfl, Nat.le_of_ble_eq_true rfl⟩ rfl rfl rfl rfl (Nat.le_of_ble_eq_true rfl) (fun w125 hr125 => ?_)
          obtain ⟨LS, GT, tl, GP, rfl, hTJ125⟩ := hr125
          refine gz_aload_n E dX1_add_128 rfl rfl ?_
          refine gz_get E inwX1_add 0 0 dX1_add_129 flX1_add_56 rfl rfl (by decide) rfl rfl ?_
          refine gz_iconst (v := nI 1) E dX1_add_132 (by decide) ?_
          refine gz_isubN E dX1_add_133 (by omega) ?_
          exact ret _ _ _ _ dX1_add_134 rfl (Or.inr ⟨by omega, Or.inr ⟨hno, Or.inr ⟨by omega, congrArg nI (by omega), _, _, _, _, _, _, _, _, _, _, _, rfl, hEN117, hRJ121, rfl, hTJ125⟩⟩⟩)
        · skip
          refine gz_bipush (v := -2) E dX1_add_81 (by decide) ?_
          exact ret _ _ _ _ dX1_add_83 rfl (Or.inr ⟨by omega, Or.inr ⟨fun j hj => h3 j (by omega), Or.inl ⟨by omega, rfl, rfl⟩⟩⟩)
      · skip
        have hB := SB.2.1 k (by omega)
        refine gz_aload_n E dX1_add_40 rfl rfl ?_
        refine gz_get E inwX1_add 0 1 dX1_add_41 flX1_add_7 rfl rfl (by decide) rfl rfl ?_
        refine gz_iload_n E dX1_add_44 rfl rfl ?_
        refine gz_laldN E 1 1 dX1_add_45 rfl rfl (by decide) rfl (by omega) ?_
        refine gz_iload_n E dX1_add_46 rfl rfl ?_
        refine gz_i2lI E dX1_add_47 (by omega) (by omega) ?_
        refine gz_lcL_ne (tgt := 66) E dX1_add_48 dX1_add_49 (by decide) (by omega) (by omega) (by omega) (by omega) (fun q48 => ?_) (fun q48 => ?_)
        · skip
          refine gz_iinc (lv' := [(0, _), (1, _), (2, _), (3, _)]) E dX1_add_66 rfl (gz_nI1 _) (by decide) rfl ?_
          refine gz_goto (tgt := 32) E dX1_add_69 (by decide) ?_
          exact ih (k + 1) (by omega) (by omega) (pg_lt_s h3 (by omega))
        · skip
          refine gz_aload_n E dX1_add_52 rfl rfl ?_
          refine gz_get E inwX1_add 0 2 dX1_add_53 flX1_add_13 rfl rfl (by decide) rfl rfl ?_
          refine gz_iload_n E dX1_add_56 rfl rfl ?_
          refine gz_laldN E 2 1 dX1_add_57 rfl rfl (by decide) rfl (by omega) ?_
          refine gz_iload_n E dX1_add_58 rfl rfl ?_
          refine gz_i2lI E dX1_add_59 (by omega) (by omega) ?_
          refine gz_lcL_ne (tgt := 66) E dX1_add_60 dX1_add_61 (by decide) (by omega) (by omega) (by omega) (by omega) (fun q60 => ?_) (fun q60 => ?_)
          · skip
            refine gz_iinc (lv' := [(0, _), (1, _), (2, _), (3, _)]) E dX1_add_66 rfl (gz_nI1 _) (by decide) rfl ?_
            refine gz_goto (tgt := 32) E dX1_add_69 (by decide) ?_
            exact ih (k + 1) (by omega) (by omega) (pg_lt_s h3 (by omega))
          · skip
            refine gz_iload_n E dX1_add_64 rfl rfl ?_
            exact ret _ _ _ _ dX1_add_65 rfl (Or.inr ⟨by omega, Or.inl ⟨k, by omega, by omega, by omega, rfl, rfl⟩⟩)
  refine gz_iload_n E dX1_add_0 rfl rfl ?_
  refine gz_sipush (v := iI (-30000)) E dX1_add_1 (by decide) ?_
  refine gz_icI_lt (tgt := 28) E dX1_add_4 (by decide) (by omega) (by omega) (by omega) (by omega) (fun q4 => ?_) (fun q4 => ?_)
  · skip
    refine gz_iconst (v := -1) E dX1_add_28 (by decide) ?_
    exact ret _ _ _ _ dX1_add_29 rfl (Or.inl ⟨by omega, rfl, rfl⟩)
  · skip
    refine gz_iload_n E dX1_add_7 rfl rfl ?_
    refine gz_sipush (v := iI (30000)) E dX1_add_8 (by decide) ?_
    refine gz_icI_gt (tgt := 28) E dX1_add_11 (by decide) (by omega) (by omega) (by omega) (by omega) (fun q11 => ?_) (fun q11 => ?_)
    · skip
      refine gz_iconst (v := -1) E dX1_add_28 (by decide) ?_
      exact ret _ _ _ _ dX1_add_29 rfl (Or.inl ⟨by omega, rfl, rfl⟩)
    · skip
      refine gz_iload_n E dX1_add_14 rfl rfl ?_
      refine gz_sipush (v := iI (-30000)) E dX1_add_15 (by decide) ?_
      refine gz_icI_lt (tgt := 28) E dX1_add_18 (by decide) (by omega) (by omega) (by omega) (by omega) (fun q18 => ?_) (fun q18 => ?_)
      · skip
        refine gz_iconst (v := -1) E dX1_add_28 (by decide) ?_
        exact ret _ _ _ _ dX1_add_29 rfl (Or.inl ⟨by omega, rfl, rfl⟩)
      · skip
        refine gz_iload_n E dX1_add_21 rfl rfl ?_
        refine gz_sipush (v := iI (30000)) E dX1_add_22 (by decide) ?_
        refine gz_icI_le (tgt := 30) E dX1_add_25 (by decide) (by omega) (by omega) (by omega) (by omega) (fun q25 => ?_) (fun q25 => ?_)
        · skip
          refine gz_iconst (v := nI 0) E dX1_add_30 (by decide) ?_
          refine gz_istore_n (lv' := [(0, _), (1, _), (2, _), (3, _)]) E dX1_add_31 rfl (by decide) rfl ?_
          exact loop (by omega) (n + 1) 0 (by omega) (by omega) (fun j hj => absurd hj (by omega))
        · skip
          refine gz_iconst (v := -1) E dX1_add_28 (by decide) ?_
          exact ret _ _ _ _ dX1_add_29 rfl (Or.inl ⟨by omega, rfl, rfl⟩)
end RD
