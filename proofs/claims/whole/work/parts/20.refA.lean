/-! the reference: turns, circles, triangles -/
section RA
variable {l : Launch} {D : va_G} {bd : Nat → Nat} {cI cJ : ClassId} {n mc ec kc : Nat} {X Y : Nat → Int} {LE MI GE CO LS GT GP : Nat → Nat} {tl : Int}
theorem pg_sg_c {x y : Int} (h1 : 0 < x ↔ 0 < y) (h2 : x < 0 ↔ y < 0) : pg_sg x = pg_sg y := by
  have a := pg_sg_b x
  have b := pg_sg_b y
  have c1 := pg_sg_pos (x := x)
  have c2 := pg_sg_neg (x := x)
  have c3 := pg_sg_pos (x := y)
  have c4 := pg_sg_neg (x := y)
  omega
theorem pg_sgml {x y : Int} : pg_sg x * pg_sg y < 0 ↔ ((0 < x ∧ y < 0) ∨ (x < 0 ∧ 0 < y)) := by
  have a1 := pg_sg_pos (x := x)
  have a2 := pg_sg_neg (x := x)
  have a3 := pg_sg_0 (x := x)
  have ab := pg_sg_b x
  have b1 := pg_sg_pos (x := y)
  have b2 := pg_sg_neg (x := y)
  have b3 := pg_sg_0 (x := y)
  have bb := pg_sg_b y
  rcases (show pg_sg x = -1 ∨ pg_sg x = 0 ∨ pg_sg x = 1 by omega) with e | e | e <;> rw [e] at a1 a2 a3 ⊢ <;> omega
theorem pg_sgmz {x y : Int} : pg_sg x * pg_sg y = 0 ↔ (x = 0 ∨ y = 0) := by
  have a1 := pg_sg_pos (x := x)
  have a2 := pg_sg_neg (x := x)
  have a3 := pg_sg_0 (x := x)
  have ab := pg_sg_b x
  have b1 := pg_sg_pos (x := y)
  have b2 := pg_sg_neg (x := y)
  have b3 := pg_sg_0 (x := y)
  have bb := pg_sg_b y
  rcases (show pg_sg x = -1 ∨ pg_sg x = 0 ∨ pg_sg x = 1 by omega) with e | e | e <;> rw [e] at a1 a2 a3 ⊢ <;> omega
theorem pg_sgmb (x y : Int) : -1 ≤ pg_sg x * pg_sg y ∧ pg_sg x * pg_sg y ≤ 1 := by
  have ab := pg_sg_b x
  have bb := pg_sg_b y
  rcases (show pg_sg x = -1 ∨ pg_sg x = 0 ∨ pg_sg x = 1 by omega) with e | e | e <;> rw [e] <;> omega
abbrev rmX1_sign : Room := { frames := 0, cells := 0, slots := 0, locals := 0 }
set_option maxRecDepth 20000 in
set_option maxHeartbeats 4000000 in
theorem mtX1_sign {v : Int} (h1 : -9223372036854775808 ≤ v) (h2 : v < 9223372036854775808) : gz_Ki l yX1_sign wsX1_sign rmX1_sign D [(cI, .int), (cJ, .long)] [.ref (bd 0), .long (lI v)] (wM bd cI cJ n X Y mc LE MI GE ec CO kc LS GT tl GP) (fun r w1 => r = iI (pg_sg v) ∧ w1 = (wM bd cI cJ n X Y mc LE MI GE ec CO kc LS GT tl GP)) := by
  refine gz_ofi (cc := cX1_sign) (maxL := 3) (own := RX1) (by decide +kernel) rfl rfl rfl (Nat.le_of_ble_eq_true rfl) ?_
  intro z E ret
  show gz_G z _ 0 [(0, .ref (bd 0)), (1, .long (lI v))] []
  refine gz_lload_n E dX1_sign_0 rfl rfl ?_
  refine gz_lconst (v := lI 0) E dX1_sign_1 (by decide) ?_
  refine gz_lcL_le (tgt := 10) E dX1_sign_2 dX1_sign_3 (by decide) (by omega) (by omega) (by omega) (by omega) (fun q2 => ?_) (fun q2 => ?_)
  · skip
    refine gz_lload_n E dX1_sign_10 rfl rfl ?_
    refine gz_lconst (v := lI 0) E dX1_sign_11 (by decide) ?_
    refine gz_lcL_ge (tgt := 20) E dX1_sign_12 dX1_sign_13 (by decide) (by omega) (by omega) (by omega) (by omega) (fun q12 => ?_) (fun q12 => ?_)
    · skip
      refine gz_iconst (v := 0) E dX1_sign_20 (by decide) ?_
      exact ret _ _ _ _ dX1_sign_21 rfl ⟨by first | exact pg_sg1 (by omega) | exact pg_sgm (by omega) | exact pg_sgz (by omega), rfl⟩
    · skip
      refine gz_iconst (v := -1) E dX1_sign_16 (by decide) ?_
      refine gz_goto (tgt := 21) E dX1_sign_17 (by decide) ?_
      exact ret _ _ _ _ dX1_sign_21 rfl ⟨by first | exact pg_sg1 (by omega) | exact pg_sgm (by omega) | exact pg_sgz (by omega), rfl⟩
  · skip
    refine gz_iconst (v := 1) E dX1_sign_6 (by decide) ?_
    refine gz_goto (tgt := 21) E dX1_sign_7 (by decide) ?_
    exact ret _ _ _ _ dX1_sign_21 rfl ⟨by first | exact pg_sg1 (by omega) | exact pg_sgm (by omega) | exact pg_sgz (by omega), rfl⟩
abbrev rmX1_turn : Room := { frames := 1, cells := 0, slots := 0, locals := 22 }
theorem inwX1_turn : ∀ w ∈ wsX10, w ∈ wsX1_turn := fun _ h => List.mem_cons_of_mem _ (List.mem_append_right _ h)
set_option maxRecDepth 20000 in
theorem flX1_turn_7 : Cond.fieldLink RX1 7 RX1 (TX1 1).2.1 (TX1 1).2.2.1 ∈ wsX1_turn := by decide +kernel
set_option maxRecDepth 20000 in
theorem flX1_turn_13 : Cond.fieldLink RX1 13 RX1 (TX1 2).2.1 (TX1 2).2.2.1 ∈ wsX1_turn := by decide +kernel
set_option maxRecDepth 20000 in
set_option maxHeartbeats 4000000 in
theorem mtX1_turn (SB : pg_ok n X Y) {a b c : Nat} (ha : a < n) (hb : b < n) (hc : c < n) : gz_Ki l yX1_turn wsX1_turn rmX1_turn D [(cI, .int), (cJ, .long)] [.ref (bd 0), .int (nI a), .int (nI b), .int (nI c)] (wM bd cI cJ n X Y mc LE MI GE ec CO kc LS GT tl GP) (fun r w1 => r = iI (pg_sg (pg_tn X Y a b c)) ∧ w1 = (wM bd cI cJ n X Y mc LE MI GE ec CO kc LS GT tl GP)) := by
  refine gz_ofi (cc := cX1_turn) (maxL := 4) (own := RX1) (by decide +kernel) rfl rfl rfl (Nat.le_of_ble_eq_true rfl) ?_
  intro z E ret
  have hn := SB.1
  have t := pg_tn_b SB ha hb hc
  unfold pg_tn at t
  show gz_G z _ 0 [(0, .ref (bd 0)), (1, .int (nI a)), (2, .int (nI b)), (3, .int (nI c))] []
  refine gz_aload_n E dX1_turn_0 rfl rfl ?_
  refine gz_aload_n E dX1_turn_1 rfl rfl ?_
  refine gz_get E inwX1_turn 0 1 dX1_turn_2 flX1_turn_7 rfl rfl (by decide) rfl rfl ?_
  refine gz_iload_n E dX1_turn_5 rfl rfl ?_
  refine gz_laldN E 1 1 dX1_turn_6 rfl rfl (by decide) rfl (by omega) ?_
  refine gz_aload_n E dX1_turn_7 rfl rfl ?_
  refine gz_get E inwX1_turn 0 1 dX1_turn_8 flX1_turn_7 rfl rfl (by decide) rfl rfl ?_
  refine gz_iload_n E dX1_turn_11 rfl rfl ?_
  refine gz_laldN E 1 1 dX1_turn_12 rfl rfl (by decide) rfl (by omega) ?_
  refine gz_lsubL E dX1_turn_13 ?_
  refine gz_aload_n E dX1_turn_14 rfl rfl ?_
  refine gz_get E inwX1_turn 0 2 dX1_turn_15 flX1_turn_13 rfl rfl (by decide) rfl rfl ?_
  refine gz_iload_n E dX1_turn_18 rfl rfl ?_
  refine gz_laldN E 2 1 dX1_turn_19 rfl rfl (by decide) rfl (by omega) ?_
  refine gz_aload_n E dX1_turn_20 rfl rfl ?_
  refine gz_get E inwX1_turn 0 2 dX1_turn_21 flX1_turn_13 rfl rfl (by decide) rfl rfl ?_
  refine gz_iload_n E dX1_turn_24 rfl rfl ?_
  refine gz_laldN E 2 1 dX1_turn_25 rfl rfl (by decide) rfl (by omega) ?_
  refine gz_lsubL E dX1_turn_26 ?_
  refine gz_lmulL E dX1_turn_27 ?_
  refine gz_aload_n E dX1_turn_28 rfl rfl ?_
  refine gz_get E inwX1_turn 0 2 dX1_turn_29 flX1_turn_13 rfl rfl (by decide) rfl rfl ?_
  refine gz_iload_n E dX1_turn_32 rfl rfl ?_
  refine gz_laldN E 2 1 dX1_turn_33 rfl rfl (by decide) rfl (by omega) ?_
  refine gz_aload_n E dX1_turn_34 rfl rfl ?_
  refine gz_get E inwX1_turn 0 2 dX1_turn_35 flX1_turn_13 rfl rfl (by decide) rfl rfl ?_
  refine gz_iload_n E dX1_turn_38 rfl rfl ?_
  refine gz_laldN E 2 1 dX1_turn_39 rfl rfl (by decide) rfl (by omega) ?_
  refine gz_lsubL E dX1_turn_40 ?_
  refine gz_aload_n E dX1_turn_41 rfl rfl ?_
  refine gz_get E inwX1_turn 0 1 dX1_turn_42 flX1_turn_7 rfl rfl (by decide) rfl rfl ?_
  refine gz_iload_n E dX1_turn_45 rfl rfl ?_
  refine gz_laldN E 1 1 dX1_turn_46 rfl rfl (by decide) rfl (by omega) ?_
  refine gz_aload_n E dX1_turn_47 rfl rfl ?_
  refine gz_get E inwX1_turn 0 1 dX1_turn_48 flX1_turn_7 rfl rfl (by decide) rfl rfl ?_
  refine gz_iload_n E dX1_turn_51 rfl rfl ?_
  refine gz_laldN E 1 1 dX1_turn_52 rfl rfl (by decide) rfl (by omega) ?_
  refine gz_lsubL E dX1_turn_53 ?_
  refine gz_lmulL E dX1_turn_54 ?_
  refine gz_lsubL E dX1_turn_55 ?_
  refine gz_cali (n := 1) E 0 dX1_turn_56 gX1_turn_X1_sign (mtX1_sign (by omega) (by omega)) rfl rfl ⟨rfl, rfl⟩ (by decide +kernel) ⟨Nat.le_of_ble_eq_true rfl, Nat.le_of_ble_eq_true rfl⟩ rfl rfl rfl rfl (Nat.le_of_ble_eq_true rfl) (fun r56 w56 hr56 => ?_)
  obtain ⟨rfl, rfl⟩ := hr56
  exact ret _ _ _ _ dX1_turn_59 rfl ⟨rfl, rfl⟩
abbrev rmX1_apart : Room := { frames := 0, cells := 0, slots := 0, locals := 0 }
theorem inwX1_apart : ∀ w ∈ wsX10, w ∈ wsX1_apart := fun _ h => List.mem_cons_of_mem _ (List.mem_append_right _ h)
set_option maxRecDepth 20000 in
theorem flX1_apart_7 : Cond.fieldLink RX1 7 RX1 (TX1 1).2.1 (TX1 1).2.2.1 ∈ wsX1_apart := by decide +kernel
set_option maxRecDepth 20000 in
theorem flX1_apart_13 : Cond.fieldLink RX1 13 RX1 (TX1 2).2.1 (TX1 2).2.2.1 ∈ wsX1_apart := by decide +kernel
set_option maxRecDepth 20000 in
set_option maxHeartbeats 4000000 in
theorem mtX1_apart (SB : pg_ok n X Y) {a b : Nat} (ha : a < n) (hb : b < n) : gz_Kl l yX1_apart wsX1_apart rmX1_apart D [(cI, .int), (cJ, .long)] [.ref (bd 0), .int (nI a), .int (nI b)] (wM bd cI cJ n X Y mc LE MI GE ec CO kc LS GT tl GP) (fun r w1 => r = lI (pg_gp X Y b a) ∧ w1 = (wM bd cI cJ n X Y mc LE MI GE ec CO kc LS GT tl GP)) := by
  refine gz_ofl (cc := cX1_apart) (maxL := 3) (own := RX1) (by decide +kernel) rfl rfl rfl (Nat.le_of_ble_eq_true rfl) ?_
  intro z E ret
  have hn := SB.1
  show gz_G z _ 0 [(0, .ref (bd 0)), (1, .int (nI a)), (2, .int (nI b))] []
  refine gz_aload_n E dX1_apart_0 rfl rfl ?_
  refine gz_get E inwX1_apart 0 1 dX1_apart_1 flX1_apart_7 rfl rfl (by decide) rfl rfl ?_
  refine gz_iload_n E dX1_apart_4 rfl rfl ?_
  refine gz_laldN E 1 1 dX1_apart_5 rfl rfl (by decide) rfl (by omega) ?_
  refine gz_aload_n E dX1_apart_6 rfl rfl ?_
  refine gz_get E inwX1_apart 0 1 dX1_apart_7 flX1_apart_7 rfl rfl (by decide) rfl rfl ?_
  refine gz_iload_n E dX1_apart_10 rfl rfl ?_
  refine gz_laldN E 1 1 dX1_apart_11 rfl rfl (by decide) rfl (by omega) ?_
  refine gz_lsubL E dX1_apart_12 ?_
  refine gz_aload_n E dX1_apart_13 rfl rfl ?_
  refine gz_get E inwX1_apart 0 1 dX1_apart_14 flX1_apart_7 rfl rfl (by decide) rfl rfl ?_
  refine gz_iload_n E dX1_apart_17 rfl rfl ?_
  refine gz_laldN E 1 1 dX1_apart_18 rfl rfl (by decide) rfl (by omega) ?_
  refine gz_aload_n E dX1_apart_19 rfl rfl ?_
  refine gz_get E inwX1_apart 0 1 dX1_apart_20 flX1_apart_7 rfl rfl (by decide) rfl rfl ?_
  refine gz_iload_n E dX1_apart_23 rfl rfl ?_
  refine gz_laldN E 1 1 dX1_apart_24 rfl rfl (by decide) rfl (by omega) ?_
  refine gz_lsubL E dX1_apart_25 ?_
  refine gz_lmulL E dX1_apart_26 ?_
  refine gz_aload_n E dX1_apart_27 rfl rfl ?_
  refine gz_get E inwX1_apart 0 2 dX1_apart_28 flX1_apart_13 rfl rfl (by decide) rfl rfl ?_
  refine gz_iload_n E dX1_apart_31 rfl rfl ?_
  refine gz_laldN E 2 1 dX1_apart_32 rfl rfl (by decide) rfl (by omega) ?_
  refine gz_aload_n E dX1_apart_33 rfl rfl ?_
  refine gz_get E inwX1_apart 0 2 dX1_apart_34 flX1_apart_13 rfl rfl (by decide) rfl rfl ?_
  refine gz_iload_n E dX1_apart_37 rfl rfl ?_
  refine gz_laldN E 2 1 dX1_apart_38 rfl rfl (by decide) rfl (by omega) ?_
  refine gz_lsubL E dX1_apart_39 ?_
  refine gz_aload_n E dX1_apart_40 rfl rfl ?_
  refine gz_get E inwX1_apart 0 2 dX1_apart_41 flX1_apart_13 rfl rfl (by decide) rfl rfl ?_
  refine gz_iload_n E dX1_apart_44 rfl rfl ?_
  refine gz_laldN E 2 1 dX1_apart_45 rfl rfl (by decide) rfl (by omega) ?_
  refine gz_aload_n E dX1_apart_46 rfl rfl ?_
  refine gz_get E inwX1_apart 0 2 dX1_apart_47 flX1_apart_13 rfl rfl (by decide) rfl rfl ?_
  refine gz_iload_n E dX1_apart_50 rfl rfl ?_
  refine gz_laldN E 2 1 dX1_apart_51 rfl rfl (by decide) rfl (by omega) ?_
  refine gz_lsubL E dX1_apart_52 ?_
  refine gz_lmulL E dX1_apart_53 ?_
  refine gz_laddL E dX1_apart_54 ?_
  exact ret _ _ _ _ dX1_apart_55 ⟨rfl, rfl⟩
abbrev rmX1_span : Room := { frames := 0, cells := 0, slots := 0, locals := 0 }
theorem inwX1_span : ∀ w ∈ wsX10, w ∈ wsX1_span := fun _ h => List.mem_cons_of_mem _ (List.mem_append_right _ h)
set_option maxRecDepth 20000 in
theorem flX1_span_7 : Cond.fieldLink RX1 7 RX1 (TX1 1).2.1 (TX1 1).2.2.1 ∈ wsX1_span := by decide +kernel
set_option maxRecDepth 20000 in
theorem flX1_span_13 : Cond.fieldLink RX1 13 RX1 (TX1 2).2.1 (TX1 2).2.2.1 ∈ wsX1_span := by decide +kernel
set_option maxRecDepth 20000 in
set_option maxHeartbeats 4000000 in
theorem mtX1_span (SB : pg_ok n X Y) {a b d : Nat} (ha : a < n) (hb : b < n) (hd : d < n) : gz_Kl l yX1_span wsX1_span rmX1_span D [(cI, .int), (cJ, .long)] [.ref (bd 0), .int (nI a), .int (nI b), .int (nI d)] (wM bd cI cJ n X Y mc LE MI GE ec CO kc LS GT tl GP) (fun r w1 => r = lI (pg_tn X Y d a b) ∧ w1 = (wM bd cI cJ n X Y mc LE MI GE ec CO kc LS GT tl GP)) := by
  refine gz_ofl (cc := cX1_span) (maxL := 4) (own := RX1) (by decide +kernel) rfl rfl rfl (Nat.le_of_ble_eq_true rfl) ?_
  intro z E ret
  have hn := SB.1
  show gz_G z _ 0 [(0, .ref (bd 0)), (1, .int (nI a)), (2, .int (nI b)), (3, .int (nI d))] []
  refine gz_aload_n E dX1_span_0 rfl rfl ?_
  refine gz_get E inwX1_span 0 1 dX1_span_1 flX1_span_7 rfl rfl (by decide) rfl rfl ?_
  refine gz_iload_n E dX1_span_4 rfl rfl ?_
  refine gz_laldN E 1 1 dX1_span_5 rfl rfl (by decide) rfl (by omega) ?_
  refine gz_aload_n E dX1_span_6 rfl rfl ?_
  refine gz_get E inwX1_span 0 1 dX1_span_7 flX1_span_7 rfl rfl (by decide) rfl rfl ?_
  refine gz_iload_n E dX1_span_10 rfl rfl ?_
  refine gz_laldN E 1 1 dX1_span_11 rfl rfl (by decide) rfl (by omega) ?_
  refine gz_lsubL E dX1_span_12 ?_
  refine gz_aload_n E dX1_span_13 rfl rfl ?_
  refine gz_get E inwX1_span 0 2 dX1_span_14 flX1_span_13 rfl rfl (by decide) rfl rfl ?_
  refine gz_iload_n E dX1_span_17 rfl rfl ?_
  refine gz_laldN E 2 1 dX1_span_18 rfl rfl (by decide) rfl (by omega) ?_
  refine gz_aload_n E dX1_span_19 rfl rfl ?_
  refine gz_get E inwX1_span 0 2 dX1_span_20 flX1_span_13 rfl rfl (by decide) rfl rfl ?_
  refine gz_iload_n E dX1_span_23 rfl rfl ?_
  refine gz_laldN E 2 1 dX1_span_24 rfl rfl (by decide) rfl (by omega) ?_
  refine gz_lsubL E dX1_span_25 ?_
  refine gz_lmulL E dX1_span_26 ?_
  refine gz_aload_n E dX1_span_27 rfl rfl ?_
  refine gz_get E inwX1_span 0 2 dX1_span_28 flX1_span_13 rfl rfl (by decide) rfl rfl ?_
  refine gz_iload_n E dX1_span_31 rfl rfl ?_
  refine gz_laldN E 2 1 dX1_span_32 rfl rfl (by decide) rfl (by omega) ?_
  refine gz_aload_n E dX1_span_33 rfl rfl ?_
  refine gz_get E inwX1_span 0 2 dX1_span_34 flX1_span_13 rfl rfl (by decide) rfl rfl ?_
  refine gz_iload_n E dX1_span_37 rfl rfl ?_
  refine gz_laldN E 2 1 dX1_span_38 rfl rfl (by decide) rfl (by omega) ?_
  refine gz_lsubL E dX1_span_39 ?_
  refine gz_aload_n E dX1_span_40 rfl rfl ?_
  refine gz_get E inwX1_span 0 1 dX1_span_41 flX1_span_7 rfl rfl (by decide) rfl rfl ?_
  refine gz_iload_n E dX1_span_44 rfl rfl ?_
  refine gz_laldN E 1 1 dX1_span_45 rfl rfl (by decide) rfl (by omega) ?_
  refine gz_aload_n E dX1_span_46 rfl rfl ?_
  refine gz_get E inwX1_span 0 1 dX1_span_47 flX1_span_7 rfl rfl (by decide) rfl rfl ?_
  refine gz_iload_n E dX1_span_50 rfl rfl ?_
  refine gz_laldN E 1 1 dX1_span_51 rfl rfl (by decide) rfl (by omega) ?_
  refine gz_lsubL E dX1_span_52 ?_
  refine gz_lmulL E dX1_span_53 ?_
  refine gz_lsubL E dX1_span_54 ?_
  exact ret _ _ _ _ dX1_span_55 ⟨rfl, rfl⟩
abbrev rmX1_inside : Room := { frames := 2, cells := 0, slots := 0, locals := 45 }
set_option maxRecDepth 20000 in
theorem cwX1_inside_50 : Jvm.Cond.constantLong RX1 50 (65535) ∈ wsX1_inside := by decide +kernel
set_option maxRecDepth 20000 in
set_option maxHeartbeats 4000000 in
theorem mtX1_inside (SB : pg_ok n X Y) {a b c d : Nat} (ha : a < n) (hb : b < n) (hc : c < n) (hd : d < n) : gz_Ki l yX1_inside wsX1_inside rmX1_inside D [(cI, .int), (cJ, .long)] [.ref (bd 0), .int (nI a), .int (nI b), .int (nI c), .int (nI d)] (wM bd cI cJ n X Y mc LE MI GE ec CO kc LS GT tl GP) (fun r w1 => r = iI (pg_sg (pg_ic X Y a b c d) * pg_sg (pg_tn X Y a b c)) ∧ w1 = (wM bd cI cJ n X Y mc LE MI GE ec CO kc LS GT tl GP)) := by
  refine gz_ofi (cc := cX1_inside) (maxL := 22) (own := RX1) (by decide +kernel) rfl rfl rfl (Nat.le_of_ble_eq_true rfl) ?_
  intro z E ret
  have hn := SB.1
  have g1 := pg_gp_b SB hd ha
  have g2 := pg_gp_b SB hd hb
  have g3 := pg_gp_b SB hd hc
  have t1 := pg_tn_b SB hd hb hc
  have t2 := pg_tn_b SB hd hc ha
  have t3 := pg_tn_b SB hd ha hb
  have S : pg_ic X Y a b c d = _ := pg_split (2 ^ 16) (pg_gp X Y d a) (pg_gp X Y d b) (pg_gp X Y d c) (pg_tn X Y d b c) (pg_tn X Y d c a) (pg_tn X Y d a b)
  have m0 := pg_mulb (a := pg_gp X Y d a / 2 ^ 16) (b := pg_tn X Y d b c) (A := 120000) (B := 7200000000) (by omega) (by omega) (by omega) (by omega)
  have l0 := pg_mulb (a := pg_gp X Y d a % 2 ^ 16) (b := pg_tn X Y d b c) (A := 65536) (B := 7200000000) (by omega) (by omega) (by omega) (by omega)
  have m1 := pg_mulb (a := pg_gp X Y d b / 2 ^ 16) (b := pg_tn X Y d c a) (A := 120000) (B := 7200000000) (by omega) (by omega) (by omega) (by omega)
  have l1 := pg_mulb (a := pg_gp X Y d b % 2 ^ 16) (b := pg_tn X Y d c a) (A := 65536) (B := 7200000000) (by omega) (by omega) (by omega) (by omega)
  have m2 := pg_mulb (a := pg_gp X Y d c / 2 ^ 16) (b := pg_tn X Y d a b) (A := 120000) (B := 7200000000) (by omega) (by omega) (by omega) (by omega)
  have l2 := pg_mulb (a := pg_gp X Y d c % 2 ^ 16) (b := pg_tn X Y d a b) (A := 65536) (B := 7200000000) (by omega) (by omega) (by omega) (by omega)
  show gz_G z _ 0 [(0, .ref (bd 0)), (1, .int (nI a)), (2, .int (nI b)), (3, .int (nI c)), (4, .int (nI d))] []
  refine gz_aload_n E dX1_inside_0 rfl rfl ?_
  refine gz_iload_n E dX1_inside_1 rfl rfl ?_
  refine gz_iload E dX1_inside_2 rfl ?_
  refine gz_call (n := 2) E 0 dX1_inside_4 gX1_inside_X1_apart (mtX1_apart SB (by assumption) (by assumption)) rfl rfl ⟨rfl, rfl⟩ (by decide +kernel) ⟨Nat.le_of_ble_eq_true rfl, Nat.le_of_ble_eq_true rfl⟩ rfl rfl rfl rfl (Nat.le_of_ble_eq_true rfl) (fun r4 w4 hr4 => ?_)
  obtain ⟨rfl, rfl⟩ := hr4
  refine gz_lstore (lv' := [(0, _), (1, _), (2, _), (3, _), (4, _), (5, _)]) E dX1_inside_7 (by decide) rfl ?_
  refine gz_aload_n E dX1_inside_9 rfl rfl ?_
  refine gz_iload_n E dX1_inside_10 rfl rfl ?_
  refine gz_iload E dX1_inside_11 rfl ?_
  refine gz_call (n := 2) E 0 dX1_inside_13 gX1_inside_X1_apart (mtX1_apart SB (by assumption) (by assumption)) rfl rfl ⟨rfl, rfl⟩ (by decide +kernel) ⟨Nat.le_of_ble_eq_true rfl, Nat.le_of_ble_eq_true rfl⟩ rfl rfl rfl rfl (Nat.le_of_ble_eq_true rfl) (fun r13 w13 hr13 => ?_)
  obtain ⟨rfl, rfl⟩ := hr13
  refine gz_lstore (lv' := [(0, _), (1, _), (2, _), (3, _), (4, _), (5, _), (7, _)]) E dX1_inside_16 (by decide) rfl ?_
  refine gz_aload_n E dX1_inside_18 rfl rfl ?_
  refine gz_iload_n E dX1_inside_19 rfl rfl ?_
  refine gz_iload E dX1_inside_20 rfl ?_
  refine gz_call (n := 2) E 0 dX1_inside_22 gX1_inside_X1_apart (mtX1_apart SB (by assumption) (by assumption)) rfl rfl ⟨rfl, rfl⟩ (by decide +kernel) ⟨Nat.le_of_ble_eq_true rfl, Nat.le_of_ble_eq_true rfl⟩ rfl rfl rfl rfl (Nat.le_of_ble_eq_true rfl) (fun r22 w22 hr22 => ?_)
  obtain ⟨rfl, rfl⟩ := hr22
  refine gz_lstore (lv' := [(0, _), (1, _), (2, _), (3, _), (4, _), (5, _), (7, _), (9, _)]) E dX1_inside_25 (by decide) rfl ?_
  refine gz_aload_n E dX1_inside_27 rfl rfl ?_
  refine gz_iload_n E dX1_inside_28 rfl rfl ?_
  refine gz_iload_n E dX1_inside_29 rfl rfl ?_
  refine gz_iload E dX1_inside_30 rfl ?_
  refine gz_call (n := 3) E 0 dX1_inside_32 gX1_inside_X1_span (mtX1_span SB (by assumption) (by assumption) (by assumption)) rfl rfl ⟨rfl, rfl⟩ (by decide +kernel) ⟨Nat.le_of_ble_eq_true rfl, Nat.le_of_ble_eq_true rfl⟩ rfl rfl rfl rfl (Nat.le_of_ble_eq_true rfl) (fun r32 w32 hr32 => ?_)
  obtain ⟨rfl, rfl⟩ := hr32
  refine gz_lstore (lv' := [(0, _), (1, _), (2, _), (3, _), (4, _), (5, _), (7, _), (9, _), (11, _)]) E dX1_inside_35 (by decide) rfl ?_
  refine gz_aload_n E dX1_inside_37 rfl rfl ?_
  refine gz_iload_n E dX1_inside_38 rfl rfl ?_
  refine gz_iload_n E dX1_inside_39 rfl rfl ?_
  refine gz_iload E dX1_inside_40 rfl ?_
  refine gz_call (n := 3) E 0 dX1_inside_42 gX1_inside_X1_span (mtX1_span SB (by assumption) (by assumption) (by assumption)) rfl rfl ⟨rfl, rfl⟩ (by decide +kernel) ⟨Nat.le_of_ble_eq_true rfl, Nat.le_of_ble_eq_true rfl⟩ rfl rfl rfl rfl (Nat.le_of_ble_eq_true rfl) (fun r42 w42 hr42 => ?_)
  obtain ⟨rfl, rfl⟩ := hr42
  refine gz_lstore (lv' := [(0, _), (1, _), (2, _), (3, _), (4, _), (5, _), (7, _), (9, _), (11, _), (13, _)]) E dX1_inside_45 (by decide) rfl ?_
  refine gz_aload_n E dX1_inside_47 rfl rfl ?_
  refine gz_iload_n E dX1_inside_48 rfl rfl ?_
  refine gz_iload_n E dX1_inside_49 rfl rfl ?_
  refine gz_iload E dX1_inside_50 rfl ?_
  refine gz_call (n := 3) E 0 dX1_inside_52 gX1_inside_X1_span (mtX1_span SB (by assumption) (by assumption) (by assumption)) rfl rfl ⟨rfl, rfl⟩ (by decide +kernel) ⟨Nat.le_of_ble_eq_true rfl, Nat.le_of_ble_eq_true rfl⟩ rfl rfl rfl rfl (Nat.le_of_ble_eq_true rfl) (fun r52 w52 hr52 => ?_)
  obtain ⟨rfl, rfl⟩ := hr52
  refine gz_lstore (lv' := [(0, _), (1, _), (2, _), (3, _), (4, _), (5, _), (7, _), (9, _), (11, _), (13, _), (15, _)]) E dX1_inside_55 (by decide) rfl ?_
  refine gz_lload E dX1_inside_57 rfl ?_
  refine gz_bipush (v := nI 16) E dX1_inside_59 (by decide) ?_
  refine gz_lshrI E 16 dX1_inside_61 (by decide) (by decide +kernel) (by omega) (by omega) ?_
  refine gz_lload E dX1_inside_62 rfl ?_
  refine gz_lmulL E dX1_inside_64 ?_
  refine gz_lload E dX1_inside_65 rfl ?_
  refine gz_bipush (v := nI 16) E dX1_inside_67 (by decide) ?_
  refine gz_lshrI E 16 dX1_inside_69 (by decide) (by decide +kernel) (by omega) (by omega) ?_
  refine gz_lload E dX1_inside_70 rfl ?_
  refine gz_lmulL E dX1_inside_72 ?_
  refine gz_laddL E dX1_inside_73 ?_
  refine gz_lload E dX1_inside_74 rfl ?_
  refine gz_bipush (v := nI 16) E dX1_inside_76 (by decide) ?_
  refine gz_lshrI E 16 dX1_inside_78 (by decide) (by decide +kernel) (by omega) (by omega) ?_
  refine gz_lload E dX1_inside_79 rfl ?_
  refine gz_lmulL E dX1_inside_81 ?_
  refine gz_laddL E dX1_inside_82 ?_
  refine gz_lstore (lv' := [(0, _), (1, _), (2, _), (3, _), (4, _), (5, _), (7, _), (9, _), (11, _), (13, _), (15, _), (17, _)]) E dX1_inside_83 (by decide) rfl ?_
  refine gz_lload E dX1_inside_85 rfl ?_
  refine gz_ldc2 (v := lI 65535) E dX1_inside_87 cwX1_inside_50 ?_
  refine gz_landI E 16 dX1_inside_90 (by decide) (by decide) ?_
  refine gz_lload E dX1_inside_91 rfl ?_
  refine gz_lmulL E dX1_inside_93 ?_
  refine gz_lload E dX1_inside_94 rfl ?_
  refine gz_ldc2 (v := lI 65535) E dX1_inside_96 cwX1_inside_50 ?_
  refine gz_landI E 16 dX1_inside_99 (by decide) (by decide) ?_
  refine gz_lload E dX1_inside_100 rfl ?_
  refine gz_lmulL E dX1_inside_102 ?_
  refine gz_laddL E dX1_inside_103 ?_
  refine gz_lload E dX1_inside_104 rfl ?_
  refine gz_ldc2 (v := lI 65535) E dX1_inside_106 cwX1_inside_50 ?_
  refine gz_landI E 16 dX1_inside_109 (by decide) (by decide) ?_
  refine gz_lload E dX1_inside_110 rfl ?_
  refine gz_lmulL E dX1_inside_112 ?_
  refine gz_laddL E dX1_inside_113 ?_
  refine gz_lstore (lv' := [(0, _), (1, _), (2, _), (3, _), (4, _), (5, _), (7, _), (9, _), (11, _), (13, _), (15, _), (17, _), (19, _)]) E dX1_inside_114 (by decide) rfl ?_
  refine gz_lload E dX1_inside_116 rfl ?_
  refine gz_lload E dX1_inside_118 rfl ?_
  refine gz_bipush (v := nI 16) E dX1_inside_120 (by decide) ?_
  refine gz_lshrI E 16 dX1_inside_122 (by decide) (by decide +kernel) (by omega) (by omega) ?_
  refine gz_laddL E dX1_inside_123 ?_
  refine gz_lstore (lv' := [(0, _), (1, _), (2, _), (3, _), (4, _), (5, _), (7, _), (9, _), (11, _), (13, _), (15, _), (17, _), (19, _)]) E dX1_inside_124 (by decide) rfl ?_
  refine gz_lload E dX1_inside_126 rfl ?_
  refine gz_lconst (v := lI 0) E dX1_inside_128 (by decide) ?_
  refine gz_lcL_eq (tgt := 142) E dX1_inside_129 dX1_inside_130 (by decide) (by omega) (by omega) (by omega) (by omega) (fun q129 => ?_) (fun q129 => ?_)
  · skip
    refine gz_aload_n E dX1_inside_142 rfl rfl ?_
    refine gz_lload E dX1_inside_143 rfl ?_
    refine gz_ldc2 (v := lI 65535) E dX1_inside_145 cwX1_inside_50 ?_
    refine gz_landI E 16 dX1_inside_148 (by decide) (by decide) ?_
    refine gz_cali (n := 1) E 0 dX1_inside_149 gX1_inside_X1_sign (mtX1_sign (by omega) (by omega)) rfl rfl ⟨rfl, rfl⟩ (by decide +kernel) ⟨Nat.le_of_ble_eq_true rfl, Nat.le_of_ble_eq_true rfl⟩ rfl rfl rfl rfl (Nat.le_of_ble_eq_true rfl) (fun r149 w149 hr149 => ?_)
    obtain ⟨e149, rfl⟩ := hr149
    obtain rfl : r149 = iI (pg_sg (pg_ic X Y a b c d)) := by rw [e149]; exact congrArg iI (pg_sg_c (by omega) (by omega))
    refine gz_istore (lv' := [(0, _), (1, _), (2, _), (3, _), (4, _), (5, _), (7, _), (9, _), (11, _), (13, _), (15, _), (17, _), (19, _), (21, _)]) E dX1_inside_152 (by decide) rfl ?_
    refine gz_iload E dX1_inside_154 rfl ?_
    refine gz_aload_n E dX1_inside_156 rfl rfl ?_
    refine gz_iload_n E dX1_inside_157 rfl rfl ?_
    refine gz_iload_n E dX1_inside_158 rfl rfl ?_
    refine gz_iload_n E dX1_inside_159 rfl rfl ?_
    refine gz_cali (n := 3) E 0 dX1_inside_160 gX1_inside_X1_turn (mtX1_turn SB (by assumption) (by assumption) (by assumption)) rfl rfl ⟨rfl, rfl⟩ (by decide +kernel) ⟨Nat.le_of_ble_eq_true rfl, Nat.le_of_ble_eq_true rfl⟩ rfl rfl rfl rfl (Nat.le_of_ble_eq_true rfl) (fun r160 w160 hr160 => ?_)
    obtain ⟨rfl, rfl⟩ := hr160
    refine gz_imulI E dX1_inside_163 ?_
    exact ret _ _ _ _ dX1_inside_164 rfl ⟨rfl, rfl⟩
  · skip
    refine gz_aload_n E dX1_inside_133 rfl rfl ?_
    refine gz_lload E dX1_inside_134 rfl ?_
    refine gz_cali (n := 1) E 0 dX1_inside_136 gX1_inside_X1_sign (mtX1_sign (by omega) (by omega)) rfl rfl ⟨rfl, rfl⟩ (by decide +kernel) ⟨Nat.le_of_ble_eq_true rfl, Nat.le_of_ble_eq_true rfl⟩ rfl rfl rfl rfl (Nat.le_of_ble_eq_true rfl) (fun r136 w136 hr136 => ?_)
    obtain ⟨e136, rfl⟩ := hr136
    obtain rfl : r136 = iI (pg_sg (pg_ic X Y a b c d)) := by rw [e136]; exact congrArg iI (pg_sg_c (by omega) (by omega))
    refine gz_goto (tgt := 152) E dX1_inside_139 (by decide) ?_
    refine gz_istore (lv' := [(0, _), (1, _), (2, _), (3, _), (4, _), (5, _), (7, _), (9, _), (11, _), (13, _), (15, _), (17, _), (19, _), (21, _)]) E dX1_inside_152 (by decide) rfl ?_
    refine gz_iload E dX1_inside_154 rfl ?_
    refine gz_aload_n E dX1_inside_156 rfl rfl ?_
    refine gz_iload_n E dX1_inside_157 rfl rfl ?_
    refine gz_iload_n E dX1_inside_158 rfl rfl ?_
    refine gz_iload_n E dX1_inside_159 rfl rfl ?_
    refine gz_cali (n := 3) E 0 dX1_inside_160 gX1_inside_X1_turn (mtX1_turn SB (by assumption) (by assumption) (by assumption)) rfl rfl ⟨rfl, rfl⟩ (by decide +kernel) ⟨Nat.le_of_ble_eq_true rfl, Nat.le_of_ble_eq_true rfl⟩ rfl rfl rfl rfl (Nat.le_of_ble_eq_true rfl) (fun r160 w160 hr160 => ?_)
    obtain ⟨rfl, rfl⟩ := hr160
    refine gz_imulI E dX1_inside_163 ?_
    exact ret _ _ _ _ dX1_inside_164 rfl ⟨rfl, rfl⟩
/-- p is on the straight way between a and b -/
def pg_BT (X Y : Nat → Int) (p a b : Nat) : Prop := p ≠ a ∧ p ≠ b ∧ pg_tn X Y a b p = 0 ∧ (X p - X a) * (X p - X b) ≤ 0 ∧ (Y p - Y a) * (Y p - Y b) ≤ 0
/-- p is in the triangle a, b, c, or on its sides -/
def pg_WI (X Y : Nat → Int) (p a b c : Nat) : Prop := (0 < pg_tn X Y a b c ∧ 0 ≤ pg_tn X Y a b p ∧ 0 ≤ pg_tn X Y b c p ∧ 0 ≤ pg_tn X Y c a p) ∨ (pg_tn X Y a b c < 0 ∧ pg_tn X Y a b p ≤ 0 ∧ pg_tn X Y b c p ≤ 0 ∧ pg_tn X Y c a p ≤ 0)
abbrev rmX1_between : Room := { frames := 2, cells := 0, slots := 0, locals := 45 }
theorem inwX1_between : ∀ w ∈ wsX10, w ∈ wsX1_between := fun _ h => List.mem_cons_of_mem _ (List.mem_append_right _ h)
set_option maxRecDepth 20000 in
theorem flX1_between_7 : Cond.fieldLink RX1 7 RX1 (TX1 1).2.1 (TX1 1).2.2.1 ∈ wsX1_between := by decide +kernel
set_option maxRecDepth 20000 in
theorem flX1_between_13 : Cond.fieldLink RX1 13 RX1 (TX1 2).2.1 (TX1 2).2.2.1 ∈ wsX1_between := by decide +kernel
set_option maxRecDepth 20000 in
set_option maxHeartbeats 4000000 in
theorem mtX1_between (SB : pg_ok n X Y) {p a b : Nat} (hp : p < n) (ha : a < n) (hb : b < n) : gz_Ki l yX1_between wsX1_between rmX1_between D [(cI, .int), (cJ, .long)] [.ref (bd 0), .int (nI p), .int (nI a), .int (nI b)] (wM bd cI cJ n X Y mc LE MI GE ec CO kc LS GT tl GP) (fun r w1 => gz_B r (pg_BT X Y p a b) ∧ w1 = (wM bd cI cJ n X Y mc LE MI GE ec CO kc LS GT tl GP)) := by
  refine gz_ofi (cc := cX1_between) (maxL := 4) (own := RX1) (by decide +kernel) rfl rfl rfl (Nat.le_of_ble_eq_true rfl) ?_
  intro z E ret
  have hn := SB.1
  have b0 := pg_sg_b (pg_tn X Y a b p)
  have s0 := pg_sg_0 (x := pg_tn X Y a b p)
  have hBp := SB.2.1 p hp
  have hBa := SB.2.1 a ha
  have hBb := SB.2.1 b hb
  have m1 := pg_mulb (a := X p - X a) (b := X p - X b) (A := 60000) (B := 60000) (by omega) (by omega) (by omega) (by omega)
  have m2 := pg_mulb (a := Y p - Y a) (b := Y p - Y b) (A := 60000) (B := 60000) (by omega) (by omega) (by omega) (by omega)
  show gz_G z _ 0 [(0, .ref (bd 0)), (1, .int (nI p)), (2, .int (nI a)), (3, .int (nI b))] []
  refine gz_iload_n E dX1_between_0 rfl rfl ?_
  refine gz_iload_n E dX1_between_1 rfl rfl ?_
  refine gz_icN_eq (tgt := 20) E dX1_between_2 (by decide) (by omega) (by omega) (fun q2 => ?_) (fun q2 => ?_)
  · skip
    refine gz_iconst (v := 0) E dX1_between_20 (by decide) ?_
    exact ret _ _ _ _ dX1_between_21 rfl ⟨by first | exact gz_B_t (by unfold pg_BT; omega) | exact gz_B_f (by unfold pg_BT; omega), rfl⟩
  · skip
    refine gz_iload_n E dX1_between_5 rfl rfl ?_
    refine gz_iload_n E dX1_between_6 rfl rfl ?_
    refine gz_icN_eq (tgt := 20) E dX1_between_7 (by decide) (by omega) (by omega) (fun q7 => ?_) (fun q7 => ?_)
    · skip
      refine gz_iconst (v := 0) E dX1_between_20 (by decide) ?_
      exact ret _ _ _ _ dX1_between_21 rfl ⟨by first | exact gz_B_t (by unfold pg_BT; omega) | exact gz_B_f (by unfold pg_BT; omega), rfl⟩
    · skip
      refine gz_aload_n E dX1_between_10 rfl rfl ?_
      refine gz_iload_n E dX1_between_11 rfl rfl ?_
      refine gz_iload_n E dX1_between_12 rfl rfl ?_
      refine gz_iload_n E dX1_between_13 rfl rfl ?_
      refine gz_cali (n := 3) E 0 dX1_between_14 gX1_between_X1_turn (mtX1_turn SB (by assumption) (by assumption) (by assumption)) rfl rfl ⟨rfl, rfl⟩ (by decide +kernel) ⟨Nat.le_of_ble_eq_true rfl, Nat.le_of_ble_eq_true rfl⟩ rfl rfl rfl rfl (Nat.le_of_ble_eq_true rfl) (fun r14 w14 hr14 => ?_)
      obtain ⟨rfl, rfl⟩ := hr14
      refine gz_ifI_eq (tgt := 22) E dX1_between_17 (by decide) (by omega) (by omega) (fun q17 => ?_) (fun q17 => ?_)
      · skip
        refine gz_aload_n E dX1_between_22 rfl rfl ?_
        refine gz_get E inwX1_between 0 1 dX1_between_23 flX1_between_7 rfl rfl (by decide) rfl rfl ?_
        refine gz_iload_n E dX1_between_26 rfl rfl ?_
        refine gz_laldN E 1 1 dX1_between_27 rfl rfl (by decide) rfl (by omega) ?_
        refine gz_aload_n E dX1_between_28 rfl rfl ?_
        refine gz_get E inwX1_between 0 1 dX1_between_29 flX1_between_7 rfl rfl (by decide) rfl rfl ?_
        refine gz_iload_n E dX1_between_32 rfl rfl ?_
        refine gz_laldN E 1 1 dX1_between_33 rfl rfl (by decide) rfl (by omega) ?_
        refine gz_lsubL E dX1_between_34 ?_
        refine gz_aload_n E dX1_between_35 rfl rfl ?_
        refine gz_get E inwX1_between 0 1 dX1_between_36 flX1_between_7 rfl rfl (by decide) rfl rfl ?_
        refine gz_iload_n E dX1_between_39 rfl rfl ?_
        refine gz_laldN E 1 1 dX1_between_40 rfl rfl (by decide) rfl (by omega) ?_
        refine gz_aload_n E dX1_between_41 rfl rfl ?_
        refine gz_get E inwX1_between 0 1 dX1_between_42 flX1_between_7 rfl rfl (by decide) rfl rfl ?_
        refine gz_iload_n E dX1_between_45 rfl rfl ?_
        refine gz_laldN E 1 1 dX1_between_46 rfl rfl (by decide) rfl (by omega) ?_
        refine gz_lsubL E dX1_between_47 ?_
        refine gz_lmulL E dX1_between_48 ?_
        refine gz_lconst (v := lI 0) E dX1_between_49 (by decide) ?_
        refine gz_lcL_gt (tgt := 90) E dX1_between_50 dX1_between_51 (by decide) (by omega) (by omega) (by omega) (by omega) (fun q50 => ?_) (fun q50 => ?_)
        · skip
          refine gz_iconst (v := 0) E dX1_between_90 (by decide) ?_
          exact ret _ _ _ _ dX1_between_91 rfl ⟨by first | exact gz_B_t (by unfold pg_BT; omega) | exact gz_B_f (by unfold pg_BT; omega), rfl⟩
        · skip
          refine gz_aload_n E dX1_between_54 rfl rfl ?_
          refine gz_get E inwX1_between 0 2 dX1_between_55 flX1_between_13 rfl rfl (by decide) rfl rfl ?_
          refine gz_iload_n E dX1_between_58 rfl rfl ?_
          refine gz_laldN E 2 1 dX1_between_59 rfl rfl (by decide) rfl (by omega) ?_
          refine gz_aload_n E dX1_between_60 rfl rfl ?_
          refine gz_get E inwX1_between 0 2 dX1_between_61 flX1_between_13 rfl rfl (by decide) rfl rfl ?_
          refine gz_iload_n E dX1_between_64 rfl rfl ?_
          refine gz_laldN E 2 1 dX1_between_65 rfl rfl (by decide) rfl (by omega) ?_
          refine gz_lsubL E dX1_between_66 ?_
          refine gz_aload_n E dX1_between_67 rfl rfl ?_
          refine gz_get E inwX1_between 0 2 dX1_between_68 flX1_between_13 rfl rfl (by decide) rfl rfl ?_
          refine gz_iload_n E dX1_between_71 rfl rfl ?_
          refine gz_laldN E 2 1 dX1_between_72 rfl rfl (by decide) rfl (by omega) ?_
          refine gz_aload_n E dX1_between_73 rfl rfl ?_
          refine gz_get E inwX1_between 0 2 dX1_between_74 flX1_between_13 rfl rfl (by decide) rfl rfl ?_
          refine gz_iload_n E dX1_between_77 rfl rfl ?_
          refine gz_laldN E 2 1 dX1_between_78 rfl rfl (by decide) rfl (by omega) ?_
          refine gz_lsubL E dX1_between_79 ?_
          refine gz_lmulL E dX1_between_80 ?_
          refine gz_lconst (v := lI 0) E dX1_between_81 (by decide) ?_
          refine gz_lcL_gt (tgt := 90) E dX1_between_82 dX1_between_83 (by decide) (by omega) (by omega) (by omega) (by omega) (fun q82 => ?_) (fun q82 => ?_)
          · skip
            refine gz_iconst (v := 0) E dX1_between_90 (by decide) ?_
            exact ret _ _ _ _ dX1_between_91 rfl ⟨by first | exact gz_B_t (by unfold pg_BT; omega) | exact gz_B_f (by unfold pg_BT; omega), rfl⟩
          · skip
            refine gz_iconst (v := 1) E dX1_between_86 (by decide) ?_
            refine gz_goto (tgt := 91) E dX1_between_87 (by decide) ?_
            exact ret _ _ _ _ dX1_between_91 rfl ⟨by first | exact gz_B_t (by unfold pg_BT; omega) | exact gz_B_f (by unfold pg_BT; omega), rfl⟩
      · skip
        refine gz_iconst (v := 0) E dX1_between_20 (by decide) ?_
        exact ret _ _ _ _ dX1_between_21 rfl ⟨by first | exact gz_B_t (by unfold pg_BT; omega) | exact gz_B_f (by unfold pg_BT; omega), rfl⟩
abbrev rmX1_within : Room := { frames := 2, cells := 0, slots := 0, locals := 45 }
set_option maxRecDepth 20000 in
set_option maxHeartbeats 4000000 in
theorem mtX1_within (SB : pg_ok n X Y) {p a b c : Nat} (hp : p < n) (ha : a < n) (hb : b < n) (hc : c < n) : gz_Ki l yX1_within wsX1_within rmX1_within D [(cI, .int), (cJ, .long)] [.ref (bd 0), .int (nI p), .int (nI a), .int (nI b), .int (nI c)] (wM bd cI cJ n X Y mc LE MI GE ec CO kc LS GT tl GP) (fun r w1 => gz_B r (pg_WI X Y p a b c) ∧ w1 = (wM bd cI cJ n X Y mc LE MI GE ec CO kc LS GT tl GP)) := by
  refine gz_ofi (cc := cX1_within) (maxL := 6) (own := RX1) (by decide +kernel) rfl rfl rfl (Nat.le_of_ble_eq_true rfl) ?_
  intro z E ret
  have hn := SB.1
  have b0 := pg_sg_b (pg_tn X Y a b c)
  have s0 := pg_sg_0 (x := pg_tn X Y a b c)
  have p10 := pg_sgml (x := pg_tn X Y a b p) (y := pg_tn X Y a b c)
  have p30 := pg_sgmb (pg_tn X Y a b p) (pg_tn X Y a b c)
  have p11 := pg_sgml (x := pg_tn X Y b c p) (y := pg_tn X Y a b c)
  have p31 := pg_sgmb (pg_tn X Y b c p) (pg_tn X Y a b c)
  have p12 := pg_sgml (x := pg_tn X Y c a p) (y := pg_tn X Y a b c)
  have p32 := pg_sgmb (pg_tn X Y c a p) (pg_tn X Y a b c)
  show gz_G z _ 0 [(0, .ref (bd 0)), (1, .int (nI p)), (2, .int (nI a)), (3, .int (nI b)), (4, .int (nI c))] []
  refine gz_aload_n E dX1_within_0 rfl rfl ?_
  refine gz_iload_n E dX1_within_1 rfl rfl ?_
  refine gz_iload_n E dX1_within_2 rfl rfl ?_
  refine gz_iload E dX1_within_3 rfl ?_
  refine gz_cali (n := 3) E 0 dX1_within_5 gX1_within_X1_turn (mtX1_turn SB (by assumption) (by assumption) (by assumption)) rfl rfl ⟨rfl, rfl⟩ (by decide +kernel) ⟨Nat.le_of_ble_eq_true rfl, Nat.le_of_ble_eq_true rfl⟩ rfl rfl rfl rfl (Nat.le_of_ble_eq_true rfl) (fun r5 w5 hr5 => ?_)
  obtain ⟨rfl, rfl⟩ := hr5
  refine gz_istore (lv' := [(0, _), (1, _), (2, _), (3, _), (4, _), (5, _)]) E dX1_within_8 (by decide) rfl ?_
  refine gz_iload E dX1_within_10 rfl ?_
  refine gz_ifI_eq (tgt := 60) E dX1_within_12 (by decide) (by omega) (by omega) (fun q12 => ?_) (fun q12 => ?_)
  · skip
    refine gz_iconst (v := 0) E dX1_within_60 (by decide) ?_
    exact ret _ _ _ _ dX1_within_61 rfl ⟨by first | exact gz_B_t (by unfold pg_WI; omega) | exact gz_B_f (by unfold pg_WI; omega), rfl⟩
  · skip
    refine gz_aload_n E dX1_within_15 rfl rfl ?_
    refine gz_iload_n E dX1_within_16 rfl rfl ?_
    refine gz_iload_n E dX1_within_17 rfl rfl ?_
    refine gz_iload_n E dX1_within_18 rfl rfl ?_
    refine gz_cali (n := 3) E 0 dX1_within_19 gX1_within_X1_turn (mtX1_turn SB (by assumption) (by assumption) (by assumption)) rfl rfl ⟨rfl, rfl⟩ (by decide +kernel) ⟨Nat.le_of_ble_eq_true rfl, Nat.le_of_ble_eq_true rfl⟩ rfl rfl rfl rfl (Nat.le_of_ble_eq_true rfl) (fun r19 w19 hr19 => ?_)
    obtain ⟨rfl, rfl⟩ := hr19
    refine gz_iload E dX1_within_22 rfl ?_
    refine gz_imulI E dX1_within_24 ?_
    refine gz_ifI_lt (tgt := 60) E dX1_within_25 (by decide) (by omega) (by omega) (fun q25 => ?_) (fun q25 => ?_)
    · skip
      refine gz_iconst (v := 0) E dX1_within_60 (by decide) ?_
      exact ret _ _ _ _ dX1_within_61 rfl ⟨by first | exact gz_B_t (by unfold pg_WI; omega) | exact gz_B_f (by unfold pg_WI; omega), rfl⟩
    · skip
      refine gz_aload_n E dX1_within_28 rfl rfl ?_
      refine gz_iload_n E dX1_within_29 rfl rfl ?_
      refine gz_iload E dX1_within_30 rfl ?_
      refine gz_iload_n E dX1_within_32 rfl rfl ?_
      refine gz_cali (n := 3) E 0 dX1_within_33 gX1_within_X1_turn (mtX1_turn SB (by assumption) (by assumption) (by assumption)) rfl rfl ⟨rfl, rfl⟩ (by decide +kernel) ⟨Nat.le_of_ble_eq_true rfl, Nat.le_of_ble_eq_true rfl⟩ rfl rfl rfl rfl (Nat.le_of_ble_eq_true rfl) (fun r33 w33 hr33 => ?_)
      obtain ⟨rfl, rfl⟩ := hr33
      refine gz_iload E dX1_within_36 rfl ?_
      refine gz_imulI E dX1_within_38 ?_
      refine gz_ifI_lt (tgt := 60) E dX1_within_39 (by decide) (by omega) (by omega) (fun q39 => ?_) (fun q39 => ?_)
      · skip
        refine gz_iconst (v := 0) E dX1_within_60 (by decide) ?_
        exact ret _ _ _ _ dX1_within_61 rfl ⟨by first | exact gz_B_t (by unfold pg_WI; omega) | exact gz_B_f (by unfold pg_WI; omega), rfl⟩
      · skip
        refine gz_aload_n E dX1_within_42 rfl rfl ?_
        refine gz_iload E dX1_within_43 rfl ?_
        refine gz_iload_n E dX1_within_45 rfl rfl ?_
        refine gz_iload_n E dX1_within_46 rfl rfl ?_
        refine gz_cali (n := 3) E 0 dX1_within_47 gX1_within_X1_turn (mtX1_turn SB (by assumption) (by assumption) (by assumption)) rfl rfl ⟨rfl, rfl⟩ (by decide +kernel) ⟨Nat.le_of_ble_eq_true rfl, Nat.le_of_ble_eq_true rfl⟩ rfl rfl rfl rfl (Nat.le_of_ble_eq_true rfl) (fun r47 w47 hr47 => ?_)
        obtain ⟨rfl, rfl⟩ := hr47
        refine gz_iload E dX1_within_50 rfl ?_
        refine gz_imulI E dX1_within_52 ?_
        refine gz_ifI_lt (tgt := 60) E dX1_within_53 (by decide) (by omega) (by omega) (fun q53 => ?_) (fun q53 => ?_)
        · skip
          refine gz_iconst (v := 0) E dX1_within_60 (by decide) ?_
          exact ret _ _ _ _ dX1_within_61 rfl ⟨by first | exact gz_B_t (by unfold pg_WI; omega) | exact gz_B_f (by unfold pg_WI; omega), rfl⟩
        · skip
          refine gz_iconst (v := 1) E dX1_within_56 (by decide) ?_
          refine gz_goto (tgt := 61) E dX1_within_57 (by decide) ?_
          exact ret _ _ _ _ dX1_within_61 rfl ⟨by first | exact gz_B_t (by unfold pg_WI; omega) | exact gz_B_f (by unfold pg_WI; omega), rfl⟩
theorem pg_lt_s {k : Nat} {P : Nat → Prop} (h : ∀ d, d < k → P d) (hk : P k) : ∀ d, d < k + 1 → P d := fun d hd => by
  rcases (show d < k ∨ d = k by omega) with e | e
  · exact h d e
  · rw [e]; exact hk
abbrev rmX1_good : Room := { frames := 3, cells := 0, slots := 0, locals := 86 }
theorem inwX1_good : ∀ w ∈ wsX10, w ∈ wsX1_good := fun _ h => List.mem_cons_of_mem _ (List.mem_append_right _ h)
set_option maxRecDepth 20000 in
theorem flX1_good_56 : Cond.fieldLink RX1 56 RX1 (TX1 0).2.1 (TX1 0).2.2.1 ∈ wsX1_good := by decide +kernel
set_option maxRecDepth 20000 in
set_option maxHeartbeats 4000000 in
theorem mtX1_good (SB : pg_ok n X Y) {a b c : Nat} (hab : a < b) (hbc : b < c) (hc : c < n) : gz_Ki l yX1_good wsX1_good rmX1_good D [(cI, .int), (cJ, .long)] [.ref (bd 0), .int (nI a), .int (nI b), .int (nI c)] (wM bd cI cJ n X Y mc LE MI GE ec CO kc LS GT tl GP) (fun r w1 => gz_B r (pg_TR n X Y (a, b, c)) ∧ w1 = (wM bd cI cJ n X Y mc LE MI GE ec CO kc LS GT tl GP)) := by
  refine gz_ofi (cc := cX1_good) (maxL := 7) (own := RX1) (by decide +kernel) rfl rfl rfl (Nat.le_of_ble_eq_true rfl) ?_
  intro z E ret
  have hn := SB.1
  have ha : a < n := by omega
  have hb : b < n := by omega
  have b0 := pg_sg_b (pg_tn X Y a b c)
  have s0 := pg_sg_0 (x := pg_tn X Y a b c)
  show gz_G z _ 0 [(0, .ref (bd 0)), (1, .int (nI a)), (2, .int (nI b)), (3, .int (nI c))] []
  have loop : pg_tn X Y a b c ≠ 0 → ∀ (f k : Nat) (r : Int32), n < f + k → k ≤ n → gz_B r (∀ d, d < k → pg_Q X Y a b c d) → gz_G z (wM bd cI cJ n X Y mc LE MI GE ec CO kc LS GT tl GP) 18 [(0, .ref (bd 0)), (1, .int (nI a)), (2, .int (nI b)), (3, .int (nI c)), (4, .int r), (5, .int (nI k))] [] := by
    intro ht f
    induction f with
    | zero => intro k r h1 h2; exact absurd h1 (by omega)
    | succ f ih =>
      intro k r h1 h2 hB
      refine gz_iload E dX1_good_18 rfl ?_
      refine gz_aload_n E dX1_good_20 rfl rfl ?_
      refine gz_get E inwX1_good 0 0 dX1_good_21 flX1_good_56 rfl rfl (by decide) rfl rfl ?_
      refine gz_icN_ge (tgt := 108) E dX1_good_24 (by decide) (by omega) (by omega) (fun q24 => ?_) (fun q24 => ?_)
      · skip
        refine gz_iload E dX1_good_108 rfl ?_
        first
          | exact ret _ _ _ _ dX1_good_110 rfl ⟨gz_B_f (pg_TR_f0 hab hbc hc (by omega)), rfl⟩
          | exact ret _ _ _ _ dX1_good_110 (gz_bnar hB) ⟨gz_B_c hB ⟨fun q => absurd q q29, fun q => absurd (fun d hd => ((pg_Q_TR hab hbc hc).mpr q).2 d (by omega)) q29⟩, rfl⟩
          | exact ret _ _ _ _ dX1_good_110 (gz_bnar hB) ⟨gz_B_c hB ⟨fun q => pg_TR_t hab hbc hc ht (fun d hd => q d (by omega)), fun q d hd => ((pg_Q_TR hab hbc hc).mpr q).2 d (by omega)⟩, rfl⟩
      · skip
        refine gz_iload E dX1_good_27 rfl ?_
        refine gz_ifB_eq (tgt := 108) E hB dX1_good_29 (by decide) (fun q29 => ?_) (fun q29 => ?_)
        · skip
          refine gz_iload E dX1_good_108 rfl ?_
          first
            | exact ret _ _ _ _ dX1_good_110 rfl ⟨gz_B_f (pg_TR_f0 hab hbc hc (by omega)), rfl⟩
            | exact ret _ _ _ _ dX1_good_110 (gz_bnar hB) ⟨gz_B_c hB ⟨fun q => absurd q q29, fun q => absurd (fun d hd => ((pg_Q_TR hab hbc hc).mpr q).2 d (by omega)) q29⟩, rfl⟩
            | exact ret _ _ _ _ dX1_good_110 (gz_bnar hB) ⟨gz_B_c hB ⟨fun q => pg_TR_t hab hbc hc ht (fun d hd => q d (by omega)), fun q d hd => ((pg_Q_TR hab hbc hc).mpr q).2 d (by omega)⟩, rfl⟩
        · skip
          refine gz_iload E dX1_good_32 rfl ?_
          refine gz_iload_n E dX1_good_34 rfl rfl ?_
          refine gz_icN_eq (tgt := 102) E dX1_good_35 (by decide) (by omega) (by omega) (fun q35 => ?_) (fun q35 => ?_)
          · skip
            refine gz_iinc (lv' := [(0, _), (1, _), (2, _), (3, _), (4, _), (5, _)]) E dX1_good_102 rfl (gz_nI1 _) (by decide) rfl ?_
            refine gz_goto (tgt := 18) E dX1_good_105 (by decide) ?_
            first
              | exact ih (k + 1) _ (by omega) (by omega) (gz_B_t (pg_lt_s q29 (by unfold pg_Q; omega)))
              | exact ih (k + 1) _ (by omega) (by omega) (gz_B_f (fun q => absurd (q k (by omega)) (by unfold pg_Q; omega)))
              | exact ih (k + 1) _ (by omega) (by omega) (gz_B_c hB ⟨fun q => pg_lt_s q (by unfold pg_Q; omega), fun q d hd => q d (by omega)⟩)
          · skip
            refine gz_iload E dX1_good_38 rfl ?_
            refine gz_iload_n E dX1_good_40 rfl rfl ?_
            refine gz_icN_eq (tgt := 102) E dX1_good_41 (by decide) (by omega) (by omega) (fun q41 => ?_) (fun q41 => ?_)
            · skip
              refine gz_iinc (lv' := [(0, _), (1, _), (2, _), (3, _), (4, _), (5, _)]) E dX1_good_102 rfl (gz_nI1 _) (by decide) rfl ?_
              refine gz_goto (tgt := 18) E dX1_good_105 (by decide) ?_
              first
                | exact ih (k + 1) _ (by omega) (by omega) (gz_B_t (pg_lt_s q29 (by unfold pg_Q; omega)))
                | exact ih (k + 1) _ (by omega) (by omega) (gz_B_f (fun q => absurd (q k (by omega)) (by unfold pg_Q; omega)))
                | exact ih (k + 1) _ (by omega) (by omega) (gz_B_c hB ⟨fun q => pg_lt_s q (by unfold pg_Q; omega), fun q d hd => q d (by omega)⟩)
            · skip
              refine gz_iload E dX1_good_44 rfl ?_
              refine gz_iload_n E dX1_good_46 rfl rfl ?_
              refine gz_icN_eq (tgt := 102) E dX1_good_47 (by decide) (by omega) (by omega) (fun q47 => ?_) (fun q47 => ?_)
              · skip
                refine gz_iinc (lv' := [(0, _), (1, _), (2, _), (3, _), (4, _), (5, _)]) E dX1_good_102 rfl (gz_nI1 _) (by decide) rfl ?_
                refine gz_goto (tgt := 18) E dX1_good_105 (by decide) ?_
                first
                  | exact ih (k + 1) _ (by omega) (by omega) (gz_B_t (pg_lt_s q29 (by unfold pg_Q; omega)))
                  | exact ih (k + 1) _ (by omega) (by omega) (gz_B_f (fun q => absurd (q k (by omega)) (by unfold pg_Q; omega)))
                  | exact ih (k + 1) _ (by omega) (by omega) (gz_B_c hB ⟨fun q => pg_lt_s q (by unfold pg_Q; omega), fun q d hd => q d (by omega)⟩)
              · skip
                have hkn : k < n := by omega
                have sb := pg_sg_b (pg_ic X Y a b c k)
                have p1 := pg_sgml (x := pg_ic X Y a b c k) (y := pg_tn X Y a b c)
                have p2 := pg_sgmz (x := pg_ic X Y a b c k) (y := pg_tn X Y a b c)
                have p3 := pg_sgmb (pg_ic X Y a b c k) (pg_tn X Y a b c)
                have u1 := pg_sg_pos (x := pg_tn X Y b c k)
                have u2 := pg_sg_neg (x := pg_tn X Y b c k)
                have u3 := pg_sg_b (pg_tn X Y b c k)
                have v1 := pg_sg_pos (x := pg_tn X Y b c a)
                have v2 := pg_sg_neg (x := pg_tn X Y b c a)
                have v3 := pg_sg_b (pg_tn X Y b c a)
                have vr := pg_tn_rot (X := X) (Y := Y) a b c
                have cc4 : pg_ic X Y a b c k = 0 → pg_tn X Y b c k ≠ 0 := fun q => pg_cc SB hb hc hkn ht q (by omega) (by omega)
                refine gz_aload_n E dX1_good_50 rfl rfl ?_
                refine gz_iload_n E dX1_good_51 rfl rfl ?_
                refine gz_iload_n E dX1_good_52 rfl rfl ?_
                refine gz_iload_n E dX1_good_53 rfl rfl ?_
                refine gz_iload E dX1_good_54 rfl ?_
                refine gz_cali (n := 4) E 0 dX1_good_56 gX1_good_X1_inside (mtX1_inside SB (by assumption) (by assumption) (by assumption) (by assumption)) rfl rfl ⟨rfl, rfl⟩ (by decide +kernel) ⟨Nat.le_of_ble_eq_true rfl, Nat.le_of_ble_eq_true rfl⟩ rfl rfl rfl rfl (Nat.le_of_ble_eq_true rfl) (fun r56 w56 hr56 => ?_)
                obtain ⟨rfl, rfl⟩ := hr56
                refine gz_istore (lv' := [(0, _), (1, _), (2, _), (3, _), (4, _), (5, _), (6, _)]) E dX1_good_59 (by decide) rfl ?_
                refine gz_iload E dX1_good_61 rfl ?_
                refine gz_ifI_lt (tgt := 95) E dX1_good_63 (by decide) (by omega) (by omega) (fun q63 => ?_) (fun q63 => ?_)
                · skip
                  refine gz_iconst (v := nI 1) E dX1_good_95 (by decide) ?_
                  refine gz_goto (tgt := 100) E dX1_good_96 (by decide) ?_
                  refine gz_istore (lv' := [(0, _), (1, _), (2, _), (3, _), (4, _), (5, _), (6, _)]) E dX1_good_100 (by decide) rfl ?_
                  refine gz_iinc (lv' := [(0, _), (1, _), (2, _), (3, _), (4, _), (5, _), (6, _)]) E dX1_good_102 rfl (gz_nI1 _) (by decide) rfl ?_
                  refine gz_goto (tgt := 18) E dX1_good_105 (by decide) ?_
                  refine gz_sub (lv' := [(0, _), (1, _), (2, _), (3, _), (4, _), (5, _)]) [0, 1, 2, 3, 4, 5] rfl ?_
                  first
                    | exact ih (k + 1) _ (by omega) (by omega) (gz_B_t (pg_lt_s q29 (by unfold pg_Q; omega)))
                    | exact ih (k + 1) _ (by omega) (by omega) (gz_B_f (fun q => absurd (q k (by omega)) (by unfold pg_Q; omega)))
                    | exact ih (k + 1) _ (by omega) (by omega) (gz_B_c hB ⟨fun q => pg_lt_s q (by unfold pg_Q; omega), fun q d hd => q d (by omega)⟩)
                · skip
                  refine gz_iload E dX1_good_66 rfl ?_
                  refine gz_ifI_ne (tgt := 99) E dX1_good_68 (by decide) (by omega) (by omega) (fun q68 => ?_) (fun q68 => ?_)
                  · skip
                    refine gz_iconst (v := nI 0) E dX1_good_99 (by decide) ?_
                    refine gz_istore (lv' := [(0, _), (1, _), (2, _), (3, _), (4, _), (5, _), (6, _)]) E dX1_good_100 (by decide) rfl ?_
                    refine gz_iinc (lv' := [(0, _), (1, _), (2, _), (3, _), (4, _), (5, _), (6, _)]) E dX1_good_102 rfl (gz_nI1 _) (by decide) rfl ?_
                    refine gz_goto (tgt := 18) E dX1_good_105 (by decide) ?_
                    refine gz_sub (lv' := [(0, _), (1, _), (2, _), (3, _), (4, _), (5, _)]) [0, 1, 2, 3, 4, 5] rfl ?_
                    first
                      | exact ih (k + 1) _ (by omega) (by omega) (gz_B_t (pg_lt_s q29 (by unfold pg_Q; omega)))
                      | exact ih (k + 1) _ (by omega) (by omega) (gz_B_f (fun q => absurd (q k (by omega)) (by unfold pg_Q; omega)))
                      | exact ih (k + 1) _ (by omega) (by omega) (gz_B_c hB ⟨fun q => pg_lt_s q (by unfold pg_Q; omega), fun q d hd => q d (by omega)⟩)
                  · skip
                    refine gz_iload E dX1_good_71 rfl ?_
                    refine gz_iload_n E dX1_good_73 rfl rfl ?_
                    refine gz_icN_le (tgt := 99) E dX1_good_74 (by decide) (by omega) (by omega) (fun q74 => ?_) (fun q74 => ?_)
                    · skip
                      refine gz_iconst (v := nI 0) E dX1_good_99 (by decide) ?_
                      refine gz_istore (lv' := [(0, _), (1, _), (2, _), (3, _), (4, _), (5, _), (6, _)]) E dX1_good_100 (by decide) rfl ?_
                      refine gz_iinc (lv' := [(0, _), (1, _), (2, _), (3, _), (4, _), (5, _), (6, _)]) E dX1_good_102 rfl (gz_nI1 _) (by decide) rfl ?_
                      refine gz_goto (tgt := 18) E dX1_good_105 (by decide) ?_
                      refine gz_sub (lv' := [(0, _), (1, _), (2, _), (3, _), (4, _), (5, _)]) [0, 1, 2, 3, 4, 5] rfl ?_
                      first
                        | exact ih (k + 1) _ (by omega) (by omega) (gz_B_t (pg_lt_s q29 (by unfold pg_Q; omega)))
                        | exact ih (k + 1) _ (by omega) (by omega) (gz_B_f (fun q => absurd (q k (by omega)) (by unfold pg_Q; omega)))
                        | exact ih (k + 1) _ (by omega) (by omega) (gz_B_c hB ⟨fun q => pg_lt_s q (by unfold pg_Q; omega), fun q d hd => q d (by omega)⟩)
                    · skip
                      refine gz_aload_n E dX1_good_77 rfl rfl ?_
                      refine gz_iload_n E dX1_good_78 rfl rfl ?_
                      refine gz_iload_n E dX1_good_79 rfl rfl ?_
                      refine gz_iload E dX1_good_80 rfl ?_
                      refine gz_cali (n := 3) E 0 dX1_good_82 gX1_good_X1_turn (mtX1_turn SB (by assumption) (by assumption) (by assumption)) rfl rfl ⟨rfl, rfl⟩ (by decide +kernel) ⟨Nat.le_of_ble_eq_true rfl, Nat.le_of_ble_eq_true rfl⟩ rfl rfl rfl rfl (Nat.le_of_ble_eq_true rfl) (fun r82 w82 hr82 => ?_)
                      obtain ⟨rfl, rfl⟩ := hr82
                      refine gz_aload_n E dX1_good_85 rfl rfl ?_
                      refine gz_iload_n E dX1_good_86 rfl rfl ?_
                      refine gz_iload_n E dX1_good_87 rfl rfl ?_
                      refine gz_iload_n E dX1_good_88 rfl rfl ?_
                      refine gz_cali (n := 3) E 0 dX1_good_89 gX1_good_X1_turn (mtX1_turn SB (by assumption) (by assumption) (by assumption)) rfl rfl ⟨rfl, rfl⟩ (by decide +kernel) ⟨Nat.le_of_ble_eq_true rfl, Nat.le_of_ble_eq_true rfl⟩ rfl rfl rfl rfl (Nat.le_of_ble_eq_true rfl) (fun r89 w89 hr89 => ?_)
                      obtain ⟨rfl, rfl⟩ := hr89
                      refine gz_icI_ne (tgt := 99) E dX1_good_92 (by decide) (by omega) (by omega) (by omega) (by omega) (fun q92 => ?_) (fun q92 => ?_)
                      · skip
                        refine gz_iconst (v := nI 0) E dX1_good_99 (by decide) ?_
                        refine gz_istore (lv' := [(0, _), (1, _), (2, _), (3, _), (4, _), (5, _), (6, _)]) E dX1_good_100 (by decide) rfl ?_
                        refine gz_iinc (lv' := [(0, _), (1, _), (2, _), (3, _), (4, _), (5, _), (6, _)]) E dX1_good_102 rfl (gz_nI1 _) (by decide) rfl ?_
                        refine gz_goto (tgt := 18) E dX1_good_105 (by decide) ?_
                        refine gz_sub (lv' := [(0, _), (1, _), (2, _), (3, _), (4, _), (5, _)]) [0, 1, 2, 3, 4, 5] rfl ?_
                        first
                          | exact ih (k + 1) _ (by omega) (by omega) (gz_B_t (pg_lt_s q29 (by unfold pg_Q; omega)))
                          | exact ih (k + 1) _ (by omega) (by omega) (gz_B_f (fun q => absurd (q k (by omega)) (by unfold pg_Q; omega)))
                          | exact ih (k + 1) _ (by omega) (by omega) (gz_B_c hB ⟨fun q => pg_lt_s q (by unfold pg_Q; omega), fun q d hd => q d (by omega)⟩)
                      · skip
                        refine gz_iconst (v := nI 1) E dX1_good_95 (by decide) ?_
                        refine gz_goto (tgt := 100) E dX1_good_96 (by decide) ?_
                        refine gz_istore (lv' := [(0, _), (1, _), (2, _), (3, _), (4, _), (5, _), (6, _)]) E dX1_good_100 (by decide) rfl ?_
                        refine gz_iinc (lv' := [(0, _), (1, _), (2, _), (3, _), (4, _), (5, _), (6, _)]) E dX1_good_102 rfl (gz_nI1 _) (by decide) rfl ?_
                        refine gz_goto (tgt := 18) E dX1_good_105 (by decide) ?_
                        refine gz_sub (lv' := [(0, _), (1, _), (2, _), (3, _), (4, _), (5, _)]) [0, 1, 2, 3, 4, 5] rfl ?_
                        first
                          | exact ih (k + 1) _ (by omega) (by omega) (gz_B_t (pg_lt_s q29 (by unfold pg_Q; omega)))
                          | exact ih (k + 1) _ (by omega) (by omega) (gz_B_f (fun q => absurd (q k (by omega)) (by unfold pg_Q; omega)))
                          | exact ih (k + 1) _ (by omega) (by omega) (gz_B_c hB ⟨fun q => pg_lt_s q (by unfold pg_Q; omega), fun q d hd => q d (by omega)⟩)
  refine gz_aload_n E dX1_good_0 rfl rfl ?_
  refine gz_iload_n E dX1_good_1 rfl rfl ?_
  refine gz_iload_n E dX1_good_2 rfl rfl ?_
  refine gz_iload_n E dX1_good_3 rfl rfl ?_
  refine gz_cali (n := 3) E 0 dX1_good_4 gX1_good_X1_turn (mtX1_turn SB (by assumption) (by assumption) (by assumption)) rfl rfl ⟨rfl, rfl⟩ (by decide +kernel) ⟨Nat.le_of_ble_eq_true rfl, Nat.le_of_ble_eq_true rfl⟩ rfl rfl rfl rfl (Nat.le_of_ble_eq_true rfl) (fun r4 w4 hr4 => ?_)
  obtain ⟨rfl, rfl⟩ := hr4
  refine gz_ifI_ne (tgt := 12) E dX1_good_7 (by decide) (by omega) (by omega) (fun q7 => ?_) (fun q7 => ?_)
  · skip
    refine gz_iconst (v := nI 1) E dX1_good_12 (by decide) ?_
    refine gz_istore (lv' := [(0, _), (1, _), (2, _), (3, _), (4, _)]) E dX1_good_13 (by decide) rfl ?_
    refine gz_iconst (v := nI 0) E dX1_good_15 (by decide) ?_
    refine gz_istore (lv' := [(0, _), (1, _), (2, _), (3, _), (4, _), (5, _)]) E dX1_good_16 (by decide) rfl ?_
    exact loop (by omega) (n + 1) 0 _ (by omega) (by omega) (gz_B_t (fun d hd => absurd hd (by omega)))
  · skip
    refine gz_iconst (v := 0) E dX1_good_10 (by decide) ?_
    first
      | exact ret _ _ _ _ dX1_good_11 rfl ⟨gz_B_f (pg_TR_f0 hab hbc hc (by omega)), rfl⟩
      | exact ret _ _ _ _ dX1_good_11 (gz_bnar hB) ⟨gz_B_c hB ⟨fun q => absurd q q29, fun q => absurd (fun d hd => ((pg_Q_TR hab hbc hc).mpr q).2 d (by omega)) q29⟩, rfl⟩
      | exact ret _ _ _ _ dX1_good_11 (gz_bnar hB) ⟨gz_B_c hB ⟨fun q => pg_TR_t hab hbc hc ht (fun d hd => q d (by omega)), fun q d hd => ((pg_Q_TR hab hbc hc).mpr q).2 d (by omega)⟩, rfl⟩
set_option maxRecDepth 20000 in
theorem pg_EN_A {tc : Nat} {a : Nat} {A B C : Nat → Nat} (hn : n ≤ 14) (h : pg_EN n X Y (a * 256) tc A B C) : pg_EN n X Y (a * 256 + (a + 1) * 16) tc A B C := by
  refine pg_EN_jump h ?_ ?_
  · omega
  · intro a' b' c' _ _ _ _
    omega
set_option maxRecDepth 20000 in
theorem pg_EN_B {tc : Nat} {a b : Nat} {A B C : Nat → Nat} (hn : n ≤ 14) (hb : b < n) (h : pg_EN n X Y (a * 256 + b * 16) tc A B C) : pg_EN n X Y (a * 256 + b * 16 + (b + 1)) tc A B C := by
  refine pg_EN_jump h ?_ ?_
  · omega
  · intro a' b' c' _ _ _ _
    omega
set_option maxRecDepth 20000 in
theorem pg_EN_C {tc : Nat} {a b : Nat} {A B C : Nat → Nat} (hn : n ≤ 14) (h : pg_EN n X Y (a * 256 + b * 16 + n) tc A B C) : pg_EN n X Y (a * 256 + (b + 1) * 16) tc A B C := by
  refine pg_EN_jump h ?_ ?_
  · omega
  · intro a' b' c' _ _ _ _
    omega
set_option maxRecDepth 20000 in
theorem pg_EN_D {tc : Nat} {a : Nat} {A B C : Nat → Nat} (hn : n ≤ 14) (h : pg_EN n X Y (a * 256 + n * 16) tc A B C) : pg_EN n X Y ((a + 1) * 256) tc A B C := by
  refine pg_EN_jump h ?_ ?_
  · omega
  · intro a' b' c' _ _ _ _
    omega
set_option maxRecDepth 20000 in
theorem pg_EN_E {tc : Nat} {A B C : Nat → Nat} (hn : n ≤ 14) (h : pg_EN n X Y (n * 256) tc A B C) : pg_EN n X Y 4096 tc A B C := by
  refine pg_EN_jump h ?_ ?_
  · omega
  · intro a' b' c' _ _ _ _
    omega
abbrev rmX1_makeTriangles : Room := { frames := 4, cells := 0, slots := 0, locals := 112 }
theorem inwX1_makeTriangles : ∀ w ∈ wsX10, w ∈ wsX1_makeTriangles := fun _ h => List.mem_cons_of_mem _ (List.mem_append_right _ h)
set_option maxRecDepth 20000 in
theorem flX1_makeTriangles_56 : Cond.fieldLink RX1 56 RX1 (TX1 0).2.1 (TX1 0).2.2.1 ∈ wsX1_makeTriangles := by decide +kernel
set_option maxRecDepth 20000 in
theorem flX1_makeTriangles_16 : Cond.fieldLink RX1 16 RX1 (TX1 4).2.1 (TX1 4).2.2.1 ∈ wsX1_makeTriangles := by decide +kernel
set_option maxRecDepth 20000 in
theorem flX1_makeTriangles_64 : Cond.fieldLink RX1 64 RX1 (TX1 3).2.1 (TX1 3).2.2.1 ∈ wsX1_makeTriangles := by decide +kernel
set_option maxRecDepth 20000 in
theorem flX1_makeTriangles_20 : Cond.fieldLink RX1 20 RX1 (TX1 5).2.1 (TX1 5).2.2.1 ∈ wsX1_makeTriangles := by decide +kernel
set_option maxRecDepth 20000 in
theorem flX1_makeTriangles_23 : Cond.fieldLink RX1 23 RX1 (TX1 6).2.1 (TX1 6).2.2.1 ∈ wsX1_makeTriangles := by decide +kernel
set_option maxRecDepth 20000 in
set_option maxHeartbeats 4000000 in
theorem mtX1_makeTriangles (SB : pg_ok n X Y) : gz_Kv l yX1_makeTriangles wsX1_makeTriangles rmX1_makeTriangles D [(cI, .int), (cJ, .long)] [.ref (bd 0)] (wM bd cI cJ n X Y mc LE MI GE ec CO kc LS GT tl GP) (fun w1 => ∃ mc LE MI GE, w1 = (wM bd cI cJ n X Y mc LE MI GE ec CO kc LS GT tl GP) ∧ pg_EN n X Y 4096 mc LE MI GE) := by
  refine gz_ofv (cc := cX1_makeTriangles) (maxL := 4) (own := RX1) (by decide +kernel) rfl rfl rfl (Nat.le_of_ble_eq_true rfl) ?_
  intro z E ret
  have hn := SB.1
  show gz_G z _ 0 [(0, .ref (bd 0))] []
  have loopA : ∀ (f a mc : Nat) (LE MI GE : Nat → Nat), n < f + a → a ≤ n → pg_EN n X Y (a * 256) mc LE MI GE → gz_G z (wM bd cI cJ n X Y mc LE MI GE ec CO kc LS GT tl GP) 7 [(0, .ref (bd 0)), (1, .int (nI a))] [] := by
    intro f
    induction f with
    | zero => intro a mc LE MI GE h1 h2; exact absurd h1 (by omega)
    | succ f ihA =>
      intro a mc LE MI GE h1 h2 hE
      have loopB : a < n → ∀ (g b mc : Nat) (LE MI GE : Nat → Nat), n < g + b → a < b → b ≤ n → pg_EN n X Y (a * 256 + b * 16) mc LE MI GE → gz_G z (wM bd cI cJ n X Y mc LE MI GE ec CO kc LS GT tl GP) 19 [(0, .ref (bd 0)), (1, .int (nI a)), (2, .int (nI b))] [] := by
        intro han g
        induction g with
        | zero => intro b mc LE MI GE g1 g2 g3; exact absurd g1 (by omega)
        | succ g ihB =>
          intro b mc LE MI GE g1 g2 g3 hE
          have loopC : b < n → ∀ (h c mc : Nat) (LE MI GE : Nat → Nat), n < h + c → b < c → c ≤ n → pg_EN n X Y (a * 256 + b * 16 + c) mc LE MI GE → gz_G z (wM bd cI cJ n X Y mc LE MI GE ec CO kc LS GT tl GP) 31 [(0, .ref (bd 0)), (1, .int (nI a)), (2, .int (nI b)), (3, .int (nI c))] [] := by
            intro hbn h
            induction h with
            | zero => intro c mc LE MI GE j1 j2 j3; exact absurd j1 (by omega)
            | succ h ihC =>
              intro c mc LE MI GE j1 j2 j3 hE
              refine gz_iload_n E dX1_makeTriangles_31 rfl rfl ?_
              refine gz_aload_n E dX1_makeTriangles_32 rfl rfl ?_
              refine gz_get E inwX1_makeTriangles 0 0 dX1_makeTriangles_33 flX1_makeTriangles_56 rfl rfl (by decide) rfl rfl ?_
              refine gz_icN_ge (tgt := 95) E dX1_makeTriangles_36 (by decide) (by omega) (by omega) (fun q36 => ?_) (fun q36 => ?_)
              · skip
                refine gz_iinc (lv' := [(0, _), (1, _), (2, _), (3, _)]) E dX1_makeTriangles_95 rfl (gz_nI1 _) (by decide) rfl ?_
                refine gz_goto (tgt := 19) E dX1_makeTriangles_98 (by decide) ?_
                refine gz_sub (lv' := [(0, _), (1, _), (2, _)]) [0, 1, 2] rfl ?_
                have e : c = n := by omega
                subst e
                exact ihB (b + 1) _ _ _ _ (by omega) (by omega) (by omega) (pg_EN_C hn hE)
              · skip
                refine gz_aload_n E dX1_makeTriangles_39 rfl rfl ?_
                refine gz_iload_n E dX1_makeTriangles_40 rfl rfl ?_
                refine gz_iload_n E dX1_makeTriangles_41 rfl rfl ?_
                refine gz_iload_n E dX1_makeTriangles_42 rfl rfl ?_
                refine gz_cali (n := 3) E 0 dX1_makeTriangles_43 gX1_makeTriangles_X1_good (mtX1_good SB (by omega) (by omega) (by omega)) rfl rfl ⟨rfl, rfl⟩ (by decide +kernel) ⟨Nat.le_of_ble_eq_true rfl, Nat.le_of_ble_eq_true rfl⟩ rfl rfl rfl rfl (Nat.le_of_ble_eq_true rfl) (fun r43 w43 hr43 => ?_)
                obtain ⟨hr43, rfl⟩ := hr43
                refine gz_ifB_eq (tgt := 89) E hr43 dX1_makeTriangles_46 (by decide) (fun q46 => ?_) (fun q46 => ?_)
                · skip
                  refine gz_iinc (lv' := [(0, _), (1, _), (2, _), (3, _)]) E dX1_makeTriangles_89 rfl (gz_nI1 _) (by decide) rfl ?_
                  refine gz_goto (tgt := 31) E dX1_makeTriangles_92 (by decide) ?_
                  first | exact ihC (c + 1) _ _ _ _ (by omega) (by omega) (by omega) (pg_EN_add hn (by omega) (by omega) hE q46) | exact ihC (c + 1) _ _ _ _ (by omega) (by omega) (by omega) (pg_EN_no hn (by omega) (by omega) hE q46)
                · skip
                  have htc := pg_EN_lt SB (by omega) (by omega) hE q46
                  refine gz_aload_n E dX1_makeTriangles_49 rfl rfl ?_
                  refine gz_get E inwX1_makeTriangles 0 4 dX1_makeTriangles_50 flX1_makeTriangles_16 rfl rfl (by decide) rfl rfl ?_
                  refine gz_aload_n E dX1_makeTriangles_53 rfl rfl ?_
                  refine gz_get E inwX1_makeTriangles 0 3 dX1_makeTriangles_54 flX1_makeTriangles_64 rfl rfl (by decide) rfl rfl ?_
                  refine gz_iload_n E dX1_makeTriangles_57 rfl rfl ?_
                  refine gz_iastN E 3 0 dX1_makeTriangles_58 rfl rfl (by decide) (by omega) ?_
                  refine gz_w (ws' := (wM bd cI cJ n X Y mc (fun i => if i = mc then a else LE i) MI GE ec CO kc LS GT tl GP)) (by rw [gz_upN]; rfl) ?_
                  refine gz_aload_n E dX1_makeTriangles_59 rfl rfl ?_
                  refine gz_get E inwX1_makeTriangles 0 5 dX1_makeTriangles_60 flX1_makeTriangles_20 rfl rfl (by decide) rfl rfl ?_
                  refine gz_aload_n E dX1_makeTriangles_63 rfl rfl ?_
                  refine gz_get E inwX1_makeTriangles 0 3 dX1_makeTriangles_64 flX1_makeTriangles_64 rfl rfl (by decide) rfl rfl ?_
                  refine gz_iload_n E dX1_makeTriangles_67 rfl rfl ?_
                  refine gz_iastN E 4 0 dX1_makeTriangles_68 rfl rfl (by decide) (by omega) ?_
                  refine gz_w (ws' := (wM bd cI cJ n X Y mc (fun i => if i = mc then a else LE i) (fun i => if i = mc then b else MI i) GE ec CO kc LS GT tl GP)) (by rw [gz_upN]; rfl) ?_
                  refine gz_aload_n E dX1_makeTriangles_69 rfl rfl ?_
                  refine gz_get E inwX1_makeTriangles 0 6 dX1_makeTriangles_70 flX1_makeTriangles_23 rfl rfl (by decide) rfl rfl ?_
                  refine gz_aload_n E dX1_makeTriangles_73 rfl rfl ?_
                  refine gz_get E inwX1_makeTriangles 0 3 dX1_makeTriangles_74 flX1_makeTriangles_64 rfl rfl (by decide) rfl rfl ?_
                  refine gz_iload_n E dX1_makeTriangles_77 rfl rfl ?_
                  refine gz_iastN E 5 0 dX1_makeTriangles_78 rfl rfl (by decide) (by omega) ?_
                  refine gz_w (ws' := (wM bd cI cJ n X Y mc (fun i => if i = mc then a else LE i) (fun i => if i = mc then b else MI i) (fun i => if i = mc then c else GE i) ec CO kc LS GT tl GP)) (by rw [gz_upN]; rfl) ?_
                  refine gz_aload_n E dX1_makeTriangles_79 rfl rfl ?_
                  refine gz_dup E dX1_makeTriangles_80 rfl ?_
                  refine gz_get E inwX1_makeTriangles 0 3 dX1_makeTriangles_81 flX1_makeTriangles_64 rfl rfl (by decide) rfl rfl ?_
                  refine gz_iconst (v := nI 1) E dX1_makeTriangles_84 (by decide) ?_
                  refine gz_iaddN E dX1_makeTriangles_85 ?_
                  refine gz_put E inwX1_makeTriangles 0 3 dX1_makeTriangles_86 flX1_makeTriangles_64 rfl rfl (by decide) rfl tyX1 tyX1_ok nmX1 rfl rfl rfl (Nat.le_of_ble_eq_true rfl) ?_
                  refine gz_w (ws' := (wM bd cI cJ n X Y (mc + 1) (fun i => if i = mc then a else LE i) (fun i => if i = mc then b else MI i) (fun i => if i = mc then c else GE i) ec CO kc LS GT tl GP)) (by rfl) ?_
                  refine gz_iinc (lv' := [(0, _), (1, _), (2, _), (3, _)]) E dX1_makeTriangles_89 rfl (gz_nI1 _) (by decide) rfl ?_
                  refine gz_goto (tgt := 31) E dX1_makeTriangles_92 (by decide) ?_
                  first | exact ihC (c + 1) _ _ _ _ (by omega) (by omega) (by omega) (pg_EN_add hn (by omega) (by omega) hE q46) | exact ihC (c + 1) _ _ _ _ (by omega) (by omega) (by omega) (pg_EN_no hn (by omega) (by omega) hE q46)
          refine gz_iload_n E dX1_makeTriangles_19 rfl rfl ?_
          refine gz_aload_n E dX1_makeTriangles_20 rfl rfl ?_
          refine gz_get E inwX1_makeTriangles 0 0 dX1_makeTriangles_21 flX1_makeTriangles_56 rfl rfl (by decide) rfl rfl ?_
          refine gz_icN_ge (tgt := 101) E dX1_makeTriangles_24 (by decide) (by omega) (by omega) (fun q24 => ?_) (fun q24 => ?_)
          · skip
            refine gz_iinc (lv' := [(0, _), (1, _), (2, _)]) E dX1_makeTriangles_101 rfl (gz_nI1 _) (by decide) rfl ?_
            refine gz_goto (tgt := 7) E dX1_makeTriangles_104 (by decide) ?_
            refine gz_sub (lv' := [(0, _), (1, _)]) [0, 1] rfl ?_
            have e : b = n := by omega
            subst e
            exact ihA (a + 1) _ _ _ _ (by omega) (by omega) (pg_EN_D hn hE)
          · skip
            refine gz_iload_n E dX1_makeTriangles_27 rfl rfl ?_
            refine gz_iconst (v := nI 1) E dX1_makeTriangles_28 (by decide) ?_
            refine gz_iaddN E dX1_makeTriangles_29 ?_
            refine gz_istore_n (lv' := [(0, _), (1, _), (2, _), (3, _)]) E dX1_makeTriangles_30 rfl (by decide) rfl ?_
            exact loopC (by omega) (n + 1) (b + 1) _ _ _ _ (by omega) (by omega) (by omega) (pg_EN_B hn (by omega) hE)
      refine gz_iload_n E dX1_makeTriangles_7 rfl rfl ?_
      refine gz_aload_n E dX1_makeTriangles_8 rfl rfl ?_
      refine gz_get E inwX1_makeTriangles 0 0 dX1_makeTriangles_9 flX1_makeTriangles_56 rfl rfl (by decide) rfl rfl ?_
      refine gz_icN_ge (tgt := 107) E dX1_makeTriangles_12 (by decide) (by omega) (by omega) (fun q12 => ?_) (fun q12 => ?_)
      · skip
        have e : a = n := by omega
        subst e
        exact ret _ _ _ dX1_makeTriangles_107 ⟨mc, LE, MI, GE, rfl, pg_EN_E hn hE⟩
      · skip
        refine gz_iload_n E dX1_makeTriangles_15 rfl rfl ?_
        refine gz_iconst (v := nI 1) E dX1_makeTriangles_16 (by decide) ?_
        refine gz_iaddN E dX1_makeTriangles_17 ?_
        refine gz_istore_n (lv' := [(0, _), (1, _), (2, _)]) E dX1_makeTriangles_18 rfl (by decide) rfl ?_
        exact loopB (by omega) (n + 1) (a + 1) _ _ _ _ (by omega) (by omega) (by omega) (pg_EN_A hn hE)
  refine gz_aload_n E dX1_makeTriangles_0 rfl rfl ?_
  refine gz_iconst (v := nI 0) E dX1_makeTriangles_1 (by decide) ?_
  refine gz_put E inwX1_makeTriangles 0 3 dX1_makeTriangles_2 flX1_makeTriangles_64 rfl rfl (by decide) rfl tyX1 tyX1_ok nmX1 rfl rfl rfl (Nat.le_of_ble_eq_true rfl) ?_
  refine gz_w (ws' := (wM bd cI cJ n X Y 0 LE MI GE ec CO kc LS GT tl GP)) (by rfl) ?_
  refine gz_iconst (v := nI 0) E dX1_makeTriangles_5 (by decide) ?_
  refine gz_istore_n (lv' := [(0, _), (1, _)]) E dX1_makeTriangles_6 rfl (by decide) rfl ?_
  exact loopA (n + 1) 0 _ _ _ _ (by omega) (by omega) pg_EN_0
end RA
