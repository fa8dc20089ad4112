/-! the class: reads of single sites and triangles -/
section CA
variable {l : Launch} {D : va_G} {ad : Nat → Nat} {cI cJ : ClassId} {n tc rc kc : Nat} {X Y : Nat → Int} {TT NB RG KT GR : Nat → Nat} {tl : Int}
abbrev rmX0_xOf : Room := { frames := 0, cells := 0, slots := 0, locals := 0 }
theorem inwX0_xOf : ∀ w ∈ wsX00, w ∈ wsX0_xOf := fun _ h => List.mem_cons_of_mem _ (List.mem_append_right _ h)
set_option maxRecDepth 20000 in
theorem flX0_xOf_16 : Cond.fieldLink RX0 16 RX0 (TX0 2).2.1 (TX0 2).2.2.1 ∈ wsX0_xOf := by decide +kernel
set_option maxRecDepth 20000 in
theorem flX0_xOf_9 : Cond.fieldLink RX0 9 RX0 (TX0 0).2.1 (TX0 0).2.2.1 ∈ wsX0_xOf := by decide +kernel
set_option maxRecDepth 20000 in
set_option maxHeartbeats 4000000 in
theorem mtX0_xOf (SB : pg_ok n X Y) {a : Nat} (ha : a < n) : gz_Kl l yX0_xOf wsX0_xOf rmX0_xOf D [(cI, .int), (cJ, .long)] [.ref (ad 0), .int (nI a)] (wC ad cI n X Y tc TT NB RG rc KT kc tl GR) (fun r w1 => r = lI (X a) ∧ w1 = (wC ad cI n X Y tc TT NB RG rc KT kc tl GR)) := by
  refine gz_ofl (cc := cX0_xOf) (maxL := 2) (own := RX0) (by decide +kernel) rfl rfl rfl (Nat.le_of_ble_eq_true rfl) ?_
  intro z E ret
  have hn := SB.1
  have hB := SB.2.1 a ha
  show gz_G z _ 0 [(0, .ref (ad 0)), (1, .int (nI a))] []
  refine gz_iload_n E dX0_xOf_0 rfl rfl ?_
  refine gz_ifN_lt E dX0_xOf_1 22 (by decide) (by omega) ?_
  refine gz_iload_n E dX0_xOf_4 rfl rfl ?_
  refine gz_aload_n E dX0_xOf_5 rfl rfl ?_
  refine gz_get E inwX0_xOf 0 2 dX0_xOf_6 flX0_xOf_16 rfl rfl (by decide) rfl rfl ?_
  refine gz_icN_ge (tgt := 22) E dX0_xOf_9 (by decide) (by omega) (by omega) (fun q9 => ?_) (fun q9 => ?_)
  · exact absurd q9 (by omega)
  · skip
    refine gz_aload_n E dX0_xOf_12 rfl rfl ?_
    refine gz_get E inwX0_xOf 0 0 dX0_xOf_13 flX0_xOf_9 rfl rfl (by decide) rfl rfl ?_
    refine gz_iload_n E dX0_xOf_16 rfl rfl ?_
    refine gz_ialdN E 1 0 dX0_xOf_17 rfl rfl (by decide) rfl (by omega) ?_
    refine gz_i2lI E dX0_xOf_18 (by omega) (by omega) ?_
    refine gz_goto (tgt := 23) E dX0_xOf_19 (by decide) ?_
    exact ret _ _ _ _ dX0_xOf_23 ⟨rfl, rfl⟩
abbrev rmX0_yOf : Room := { frames := 0, cells := 0, slots := 0, locals := 0 }
theorem inwX0_yOf : ∀ w ∈ wsX00, w ∈ wsX0_yOf := fun _ h => List.mem_cons_of_mem _ (List.mem_append_right _ h)
set_option maxRecDepth 20000 in
theorem flX0_yOf_16 : Cond.fieldLink RX0 16 RX0 (TX0 2).2.1 (TX0 2).2.2.1 ∈ wsX0_yOf := by decide +kernel
set_option maxRecDepth 20000 in
theorem flX0_yOf_13 : Cond.fieldLink RX0 13 RX0 (TX0 1).2.1 (TX0 1).2.2.1 ∈ wsX0_yOf := by decide +kernel
set_option maxRecDepth 20000 in
set_option maxHeartbeats 4000000 in
theorem mtX0_yOf (SB : pg_ok n X Y) {a : Nat} (ha : a < n) : gz_Kl l yX0_yOf wsX0_yOf rmX0_yOf D [(cI, .int), (cJ, .long)] [.ref (ad 0), .int (nI a)] (wC ad cI n X Y tc TT NB RG rc KT kc tl GR) (fun r w1 => r = lI (Y a) ∧ w1 = (wC ad cI n X Y tc TT NB RG rc KT kc tl GR)) := by
  refine gz_ofl (cc := cX0_yOf) (maxL := 2) (own := RX0) (by decide +kernel) rfl rfl rfl (Nat.le_of_ble_eq_true rfl) ?_
  intro z E ret
  have hn := SB.1
  have hB := SB.2.1 a ha
  show gz_G z _ 0 [(0, .ref (ad 0)), (1, .int (nI a))] []
  refine gz_iload_n E dX0_yOf_0 rfl rfl ?_
  refine gz_ifN_lt E dX0_yOf_1 22 (by decide) (by omega) ?_
  refine gz_iload_n E dX0_yOf_4 rfl rfl ?_
  refine gz_aload_n E dX0_yOf_5 rfl rfl ?_
  refine gz_get E inwX0_yOf 0 2 dX0_yOf_6 flX0_yOf_16 rfl rfl (by decide) rfl rfl ?_
  refine gz_icN_ge (tgt := 22) E dX0_yOf_9 (by decide) (by omega) (by omega) (fun q9 => ?_) (fun q9 => ?_)
  · exact absurd q9 (by omega)
  · skip
    refine gz_aload_n E dX0_yOf_12 rfl rfl ?_
    refine gz_get E inwX0_yOf 0 1 dX0_yOf_13 flX0_yOf_13 rfl rfl (by decide) rfl rfl ?_
    refine gz_iload_n E dX0_yOf_16 rfl rfl ?_
    refine gz_ialdN E 2 0 dX0_yOf_17 rfl rfl (by decide) rfl (by omega) ?_
    refine gz_i2lI E dX0_yOf_18 (by omega) (by omega) ?_
    refine gz_goto (tgt := 23) E dX0_yOf_19 (by decide) ?_
    exact ret _ _ _ _ dX0_yOf_23 ⟨rfl, rfl⟩
abbrev rmX0_turn : Room := { frames := 1, cells := 0, slots := 0, locals := 21 }
set_option maxRecDepth 20000 in
set_option maxHeartbeats 4000000 in
theorem mtX0_turn (SB : pg_ok n X Y) {a b c : Nat} (ha : a < n) (hb : b < n) (hc : c < n) : gz_Kl l yX0_turn wsX0_turn rmX0_turn D [(cI, .int), (cJ, .long)] [.ref (ad 0), .int (nI a), .int (nI b), .int (nI c)] (wC ad cI n X Y tc TT NB RG rc KT kc tl GR) (fun r w1 => r = lI (pg_tn X Y a b c) ∧ w1 = (wC ad cI n X Y tc TT NB RG rc KT kc tl GR)) := by
  refine gz_ofl (cc := cX0_turn) (maxL := 4) (own := RX0) (by decide +kernel) rfl rfl rfl (Nat.le_of_ble_eq_true rfl) ?_
  intro z E ret
  show gz_G z _ 0 [(0, .ref (ad 0)), (1, .int (nI a)), (2, .int (nI b)), (3, .int (nI c))] []
  refine gz_aload_n E dX0_turn_0 rfl rfl ?_
  refine gz_iload_n E dX0_turn_1 rfl rfl ?_
  refine gz_call (n := 1) E 0 dX0_turn_2 gX0_turn_X0_xOf (mtX0_xOf SB (by assumption)) rfl rfl ⟨rfl, rfl⟩ (by decide +kernel) ⟨Nat.le_of_ble_eq_true rfl, Nat.le_of_ble_eq_true rfl⟩ rfl rfl rfl rfl (Nat.le_of_ble_eq_true rfl) (fun r2 w2 hr2 => ?_)
  obtain ⟨rfl, rfl⟩ := hr2
  refine gz_aload_n E dX0_turn_5 rfl rfl ?_
  refine gz_iload_n E dX0_turn_6 rfl rfl ?_
  refine gz_call (n := 1) E 0 dX0_turn_7 gX0_turn_X0_xOf (mtX0_xOf SB (by assumption)) rfl rfl ⟨rfl, rfl⟩ (by decide +kernel) ⟨Nat.le_of_ble_eq_true rfl, Nat.le_of_ble_eq_true rfl⟩ rfl rfl rfl rfl (Nat.le_of_ble_eq_true rfl) (fun r7 w7 hr7 => ?_)
  obtain ⟨rfl, rfl⟩ := hr7
  refine gz_lsubL E dX0_turn_10 ?_
  refine gz_aload_n E dX0_turn_11 rfl rfl ?_
  refine gz_iload_n E dX0_turn_12 rfl rfl ?_
  refine gz_call (n := 1) E 0 dX0_turn_13 gX0_turn_X0_yOf (mtX0_yOf SB (by assumption)) rfl rfl ⟨rfl, rfl⟩ (by decide +kernel) ⟨Nat.le_of_ble_eq_true rfl, Nat.le_of_ble_eq_true rfl⟩ rfl rfl rfl rfl (Nat.le_of_ble_eq_true rfl) (fun r13 w13 hr13 => ?_)
  obtain ⟨rfl, rfl⟩ := hr13
  refine gz_aload_n E dX0_turn_16 rfl rfl ?_
  refine gz_iload_n E dX0_turn_17 rfl rfl ?_
  refine gz_call (n := 1) E 0 dX0_turn_18 gX0_turn_X0_yOf (mtX0_yOf SB (by assumption)) rfl rfl ⟨rfl, rfl⟩ (by decide +kernel) ⟨Nat.le_of_ble_eq_true rfl, Nat.le_of_ble_eq_true rfl⟩ rfl rfl rfl rfl (Nat.le_of_ble_eq_true rfl) (fun r18 w18 hr18 => ?_)
  obtain ⟨rfl, rfl⟩ := hr18
  refine gz_lsubL E dX0_turn_21 ?_
  refine gz_lmulL E dX0_turn_22 ?_
  refine gz_aload_n E dX0_turn_23 rfl rfl ?_
  refine gz_iload_n E dX0_turn_24 rfl rfl ?_
  refine gz_call (n := 1) E 0 dX0_turn_25 gX0_turn_X0_yOf (mtX0_yOf SB (by assumption)) rfl rfl ⟨rfl, rfl⟩ (by decide +kernel) ⟨Nat.le_of_ble_eq_true rfl, Nat.le_of_ble_eq_true rfl⟩ rfl rfl rfl rfl (Nat.le_of_ble_eq_true rfl) (fun r25 w25 hr25 => ?_)
  obtain ⟨rfl, rfl⟩ := hr25
  refine gz_aload_n E dX0_turn_28 rfl rfl ?_
  refine gz_iload_n E dX0_turn_29 rfl rfl ?_
  refine gz_call (n := 1) E 0 dX0_turn_30 gX0_turn_X0_yOf (mtX0_yOf SB (by assumption)) rfl rfl ⟨rfl, rfl⟩ (by decide +kernel) ⟨Nat.le_of_ble_eq_true rfl, Nat.le_of_ble_eq_true rfl⟩ rfl rfl rfl rfl (Nat.le_of_ble_eq_true rfl) (fun r30 w30 hr30 => ?_)
  obtain ⟨rfl, rfl⟩ := hr30
  refine gz_lsubL E dX0_turn_33 ?_
  refine gz_aload_n E dX0_turn_34 rfl rfl ?_
  refine gz_iload_n E dX0_turn_35 rfl rfl ?_
  refine gz_call (n := 1) E 0 dX0_turn_36 gX0_turn_X0_xOf (mtX0_xOf SB (by assumption)) rfl rfl ⟨rfl, rfl⟩ (by decide +kernel) ⟨Nat.le_of_ble_eq_true rfl, Nat.le_of_ble_eq_true rfl⟩ rfl rfl rfl rfl (Nat.le_of_ble_eq_true rfl) (fun r36 w36 hr36 => ?_)
  obtain ⟨rfl, rfl⟩ := hr36
  refine gz_aload_n E dX0_turn_39 rfl rfl ?_
  refine gz_iload_n E dX0_turn_40 rfl rfl ?_
  refine gz_call (n := 1) E 0 dX0_turn_41 gX0_turn_X0_xOf (mtX0_xOf SB (by assumption)) rfl rfl ⟨rfl, rfl⟩ (by decide +kernel) ⟨Nat.le_of_ble_eq_true rfl, Nat.le_of_ble_eq_true rfl⟩ rfl rfl rfl rfl (Nat.le_of_ble_eq_true rfl) (fun r41 w41 hr41 => ?_)
  obtain ⟨rfl, rfl⟩ := hr41
  refine gz_lsubL E dX0_turn_44 ?_
  refine gz_lmulL E dX0_turn_45 ?_
  refine gz_lsubL E dX0_turn_46 ?_
  exact ret _ _ _ _ dX0_turn_47 ⟨rfl, rfl⟩
abbrev rmX0_gap : Room := { frames := 1, cells := 0, slots := 0, locals := 21 }
set_option maxRecDepth 20000 in
set_option maxHeartbeats 4000000 in
theorem mtX0_gap (SB : pg_ok n X Y) {a b : Nat} (ha : a < n) (hb : b < n) : gz_Kl l yX0_gap wsX0_gap rmX0_gap D [(cI, .int), (cJ, .long)] [.ref (ad 0), .int (nI a), .int (nI b)] (wC ad cI n X Y tc TT NB RG rc KT kc tl GR) (fun r w1 => r = lI (pg_gp X Y a b) ∧ w1 = (wC ad cI n X Y tc TT NB RG rc KT kc tl GR)) := by
  refine gz_ofl (cc := cX0_gap) (maxL := 7) (own := RX0) (by decide +kernel) rfl rfl rfl (Nat.le_of_ble_eq_true rfl) ?_
  intro z E ret
  show gz_G z _ 0 [(0, .ref (ad 0)), (1, .int (nI a)), (2, .int (nI b))] []
  refine gz_aload_n E dX0_gap_0 rfl rfl ?_
  refine gz_iload_n E dX0_gap_1 rfl rfl ?_
  refine gz_call (n := 1) E 0 dX0_gap_2 gX0_gap_X0_xOf (mtX0_xOf SB (by assumption)) rfl rfl ⟨rfl, rfl⟩ (by decide +kernel) ⟨Nat.le_of_ble_eq_true rfl, Nat.le_of_ble_eq_true rfl⟩ rfl rfl rfl rfl (Nat.le_of_ble_eq_true rfl) (fun r2 w2 hr2 => ?_)
  obtain ⟨rfl, rfl⟩ := hr2
  refine gz_aload_n E dX0_gap_5 rfl rfl ?_
  refine gz_iload_n E dX0_gap_6 rfl rfl ?_
  refine gz_call (n := 1) E 0 dX0_gap_7 gX0_gap_X0_xOf (mtX0_xOf SB (by assumption)) rfl rfl ⟨rfl, rfl⟩ (by decide +kernel) ⟨Nat.le_of_ble_eq_true rfl, Nat.le_of_ble_eq_true rfl⟩ rfl rfl rfl rfl (Nat.le_of_ble_eq_true rfl) (fun r7 w7 hr7 => ?_)
  obtain ⟨rfl, rfl⟩ := hr7
  refine gz_lsubL E dX0_gap_10 ?_
  refine gz_lstore_n (lv' := [(0, _), (1, _), (2, _), (3, _)]) E dX0_gap_11 rfl (by decide) rfl ?_
  refine gz_aload_n E dX0_gap_12 rfl rfl ?_
  refine gz_iload_n E dX0_gap_13 rfl rfl ?_
  refine gz_call (n := 1) E 0 dX0_gap_14 gX0_gap_X0_yOf (mtX0_yOf SB (by assumption)) rfl rfl ⟨rfl, rfl⟩ (by decide +kernel) ⟨Nat.le_of_ble_eq_true rfl, Nat.le_of_ble_eq_true rfl⟩ rfl rfl rfl rfl (Nat.le_of_ble_eq_true rfl) (fun r14 w14 hr14 => ?_)
  obtain ⟨rfl, rfl⟩ := hr14
  refine gz_aload_n E dX0_gap_17 rfl rfl ?_
  refine gz_iload_n E dX0_gap_18 rfl rfl ?_
  refine gz_call (n := 1) E 0 dX0_gap_19 gX0_gap_X0_yOf (mtX0_yOf SB (by assumption)) rfl rfl ⟨rfl, rfl⟩ (by decide +kernel) ⟨Nat.le_of_ble_eq_true rfl, Nat.le_of_ble_eq_true rfl⟩ rfl rfl rfl rfl (Nat.le_of_ble_eq_true rfl) (fun r19 w19 hr19 => ?_)
  obtain ⟨rfl, rfl⟩ := hr19
  refine gz_lsubL E dX0_gap_22 ?_
  refine gz_lstore (lv' := [(0, _), (1, _), (2, _), (3, _), (5, _)]) E dX0_gap_23 (by decide) rfl ?_
  refine gz_lload_n E dX0_gap_25 rfl rfl ?_
  refine gz_lload_n E dX0_gap_26 rfl rfl ?_
  refine gz_lmulL E dX0_gap_27 ?_
  refine gz_lload E dX0_gap_28 rfl ?_
  refine gz_lload E dX0_gap_30 rfl ?_
  refine gz_lmulL E dX0_gap_32 ?_
  refine gz_laddL E dX0_gap_33 ?_
  exact ret _ _ _ _ dX0_gap_34 ⟨rfl, rfl⟩
abbrev rmX0_dot : Room := { frames := 1, cells := 0, slots := 0, locals := 21 }
set_option maxRecDepth 20000 in
set_option maxHeartbeats 4000000 in
theorem mtX0_dot (SB : pg_ok n X Y) {m a b : Nat} (hm : m < n) (ha : a < n) (hb : b < n) : gz_Kl l yX0_dot wsX0_dot rmX0_dot D [(cI, .int), (cJ, .long)] [.ref (ad 0), .int (nI m), .int (nI a), .int (nI b)] (wC ad cI n X Y tc TT NB RG rc KT kc tl GR) (fun r w1 => r = lI (pg_dt X Y m a b) ∧ w1 = (wC ad cI n X Y tc TT NB RG rc KT kc tl GR)) := by
  refine gz_ofl (cc := cX0_dot) (maxL := 4) (own := RX0) (by decide +kernel) rfl rfl rfl (Nat.le_of_ble_eq_true rfl) ?_
  intro z E ret
  show gz_G z _ 0 [(0, .ref (ad 0)), (1, .int (nI m)), (2, .int (nI a)), (3, .int (nI b))] []
  refine gz_aload_n E dX0_dot_0 rfl rfl ?_
  refine gz_iload_n E dX0_dot_1 rfl rfl ?_
  refine gz_call (n := 1) E 0 dX0_dot_2 gX0_dot_X0_xOf (mtX0_xOf SB (by assumption)) rfl rfl ⟨rfl, rfl⟩ (by decide +kernel) ⟨Nat.le_of_ble_eq_true rfl, Nat.le_of_ble_eq_true rfl⟩ rfl rfl rfl rfl (Nat.le_of_ble_eq_true rfl) (fun r2 w2 hr2 => ?_)
  obtain ⟨rfl, rfl⟩ := hr2
  refine gz_aload_n E dX0_dot_5 rfl rfl ?_
  refine gz_iload_n E dX0_dot_6 rfl rfl ?_
  refine gz_call (n := 1) E 0 dX0_dot_7 gX0_dot_X0_xOf (mtX0_xOf SB (by assumption)) rfl rfl ⟨rfl, rfl⟩ (by decide +kernel) ⟨Nat.le_of_ble_eq_true rfl, Nat.le_of_ble_eq_true rfl⟩ rfl rfl rfl rfl (Nat.le_of_ble_eq_true rfl) (fun r7 w7 hr7 => ?_)
  obtain ⟨rfl, rfl⟩ := hr7
  refine gz_lsubL E dX0_dot_10 ?_
  refine gz_aload_n E dX0_dot_11 rfl rfl ?_
  refine gz_iload_n E dX0_dot_12 rfl rfl ?_
  refine gz_call (n := 1) E 0 dX0_dot_13 gX0_dot_X0_xOf (mtX0_xOf SB (by assumption)) rfl rfl ⟨rfl, rfl⟩ (by decide +kernel) ⟨Nat.le_of_ble_eq_true rfl, Nat.le_of_ble_eq_true rfl⟩ rfl rfl rfl rfl (Nat.le_of_ble_eq_true rfl) (fun r13 w13 hr13 => ?_)
  obtain ⟨rfl, rfl⟩ := hr13
  refine gz_aload_n E dX0_dot_16 rfl rfl ?_
  refine gz_iload_n E dX0_dot_17 rfl rfl ?_
  refine gz_call (n := 1) E 0 dX0_dot_18 gX0_dot_X0_xOf (mtX0_xOf SB (by assumption)) rfl rfl ⟨rfl, rfl⟩ (by decide +kernel) ⟨Nat.le_of_ble_eq_true rfl, Nat.le_of_ble_eq_true rfl⟩ rfl rfl rfl rfl (Nat.le_of_ble_eq_true rfl) (fun r18 w18 hr18 => ?_)
  obtain ⟨rfl, rfl⟩ := hr18
  refine gz_lsubL E dX0_dot_21 ?_
  refine gz_lmulL E dX0_dot_22 ?_
  refine gz_aload_n E dX0_dot_23 rfl rfl ?_
  refine gz_iload_n E dX0_dot_24 rfl rfl ?_
  refine gz_call (n := 1) E 0 dX0_dot_25 gX0_dot_X0_yOf (mtX0_yOf SB (by assumption)) rfl rfl ⟨rfl, rfl⟩ (by decide +kernel) ⟨Nat.le_of_ble_eq_true rfl, Nat.le_of_ble_eq_true rfl⟩ rfl rfl rfl rfl (Nat.le_of_ble_eq_true rfl) (fun r25 w25 hr25 => ?_)
  obtain ⟨rfl, rfl⟩ := hr25
  refine gz_aload_n E dX0_dot_28 rfl rfl ?_
  refine gz_iload_n E dX0_dot_29 rfl rfl ?_
  refine gz_call (n := 1) E 0 dX0_dot_30 gX0_dot_X0_yOf (mtX0_yOf SB (by assumption)) rfl rfl ⟨rfl, rfl⟩ (by decide +kernel) ⟨Nat.le_of_ble_eq_true rfl, Nat.le_of_ble_eq_true rfl⟩ rfl rfl rfl rfl (Nat.le_of_ble_eq_true rfl) (fun r30 w30 hr30 => ?_)
  obtain ⟨rfl, rfl⟩ := hr30
  refine gz_lsubL E dX0_dot_33 ?_
  refine gz_aload_n E dX0_dot_34 rfl rfl ?_
  refine gz_iload_n E dX0_dot_35 rfl rfl ?_
  refine gz_call (n := 1) E 0 dX0_dot_36 gX0_dot_X0_yOf (mtX0_yOf SB (by assumption)) rfl rfl ⟨rfl, rfl⟩ (by decide +kernel) ⟨Nat.le_of_ble_eq_true rfl, Nat.le_of_ble_eq_true rfl⟩ rfl rfl rfl rfl (Nat.le_of_ble_eq_true rfl) (fun r36 w36 hr36 => ?_)
  obtain ⟨rfl, rfl⟩ := hr36
  refine gz_aload_n E dX0_dot_39 rfl rfl ?_
  refine gz_iload_n E dX0_dot_40 rfl rfl ?_
  refine gz_call (n := 1) E 0 dX0_dot_41 gX0_dot_X0_yOf (mtX0_yOf SB (by assumption)) rfl rfl ⟨rfl, rfl⟩ (by decide +kernel) ⟨Nat.le_of_ble_eq_true rfl, Nat.le_of_ble_eq_true rfl⟩ rfl rfl rfl rfl (Nat.le_of_ble_eq_true rfl) (fun r41 w41 hr41 => ?_)
  obtain ⟨rfl, rfl⟩ := hr41
  refine gz_lsubL E dX0_dot_44 ?_
  refine gz_lmulL E dX0_dot_45 ?_
  refine gz_laddL E dX0_dot_46 ?_
  exact ret _ _ _ _ dX0_dot_47 ⟨rfl, rfl⟩
abbrev rmX0_isSite : Room := { frames := 0, cells := 0, slots := 0, locals := 0 }
theorem inwX0_isSite : ∀ w ∈ wsX00, w ∈ wsX0_isSite := fun _ h => List.mem_cons_of_mem _ (List.mem_append_right _ h)
set_option maxRecDepth 20000 in
theorem flX0_isSite_16 : Cond.fieldLink RX0 16 RX0 (TX0 2).2.1 (TX0 2).2.2.1 ∈ wsX0_isSite := by decide +kernel
set_option maxRecDepth 20000 in
set_option maxHeartbeats 4000000 in
theorem mtX0_isSite (hn : n ≤ 14) (x : Int32) : gz_Ki l yX0_isSite wsX0_isSite rmX0_isSite D [(cI, .int), (cJ, .long)] [.ref (ad 0), .int x] (wC ad cI n X Y tc TT NB RG rc KT kc tl GR) (fun r w1 => gz_B r (gz_Ix x n) ∧ w1 = (wC ad cI n X Y tc TT NB RG rc KT kc tl GR)) := by
  refine gz_ofi (cc := cX0_isSite) (maxL := 2) (own := RX0) (by decide +kernel) rfl rfl rfl (Nat.le_of_ble_eq_true rfl) ?_
  intro z E ret
  show gz_G z _ 0 [(0, .ref (ad 0)), (1, .int x)] []
  refine gz_iload_n E dX0_isSite_0 rfl rfl ?_
  refine gz_if_lt (tgt := 16) E dX0_isSite_1 (by decide) (fun q1 => ?_) (fun q1 => ?_)
  · skip
    refine gz_iconst (v := 0) E dX0_isSite_16 (by decide) ?_
    exact ret _ _ _ _ dX0_isSite_17 rfl ⟨by first | exact gz_B_t (gz_Ix_t (by omega) (by assumption) (by assumption)) | exact gz_B_f (gz_Ix_f1 (by omega) (by assumption)) | exact gz_B_f (gz_Ix_f2 (by omega) (by assumption)), rfl⟩
  · skip
    refine gz_iload_n E dX0_isSite_4 rfl rfl ?_
    refine gz_aload_n E dX0_isSite_5 rfl rfl ?_
    refine gz_get E inwX0_isSite 0 2 dX0_isSite_6 flX0_isSite_16 rfl rfl (by decide) rfl rfl ?_
    refine gz_icmp_ge (tgt := 16) E dX0_isSite_9 (by decide) (fun q9 => ?_) (fun q9 => ?_)
    · skip
      refine gz_iconst (v := 0) E dX0_isSite_16 (by decide) ?_
      exact ret _ _ _ _ dX0_isSite_17 rfl ⟨by first | exact gz_B_t (gz_Ix_t (by omega) (by assumption) (by assumption)) | exact gz_B_f (gz_Ix_f1 (by omega) (by assumption)) | exact gz_B_f (gz_Ix_f2 (by omega) (by assumption)), rfl⟩
    · skip
      refine gz_iconst (v := 1) E dX0_isSite_12 (by decide) ?_
      refine gz_goto (tgt := 17) E dX0_isSite_13 (by decide) ?_
      exact ret _ _ _ _ dX0_isSite_17 rfl ⟨by first | exact gz_B_t (gz_Ix_t (by omega) (by assumption) (by assumption)) | exact gz_B_f (gz_Ix_f1 (by omega) (by assumption)) | exact gz_B_f (gz_Ix_f2 (by omega) (by assumption)), rfl⟩
abbrev rmX0_isTriangle : Room := { frames := 0, cells := 0, slots := 0, locals := 0 }
theorem inwX0_isTriangle : ∀ w ∈ wsX00, w ∈ wsX0_isTriangle := fun _ h => List.mem_cons_of_mem _ (List.mem_append_right _ h)
set_option maxRecDepth 20000 in
theorem flX0_isTriangle_23 : Cond.fieldLink RX0 23 RX0 (TX0 4).2.1 (TX0 4).2.2.1 ∈ wsX0_isTriangle := by decide +kernel
set_option maxRecDepth 20000 in
set_option maxHeartbeats 4000000 in
theorem mtX0_isTriangle (hn : tc ≤ 23) (x : Int32) : gz_Ki l yX0_isTriangle wsX0_isTriangle rmX0_isTriangle D [(cI, .int), (cJ, .long)] [.ref (ad 0), .int x] (wC ad cI n X Y tc TT NB RG rc KT kc tl GR) (fun r w1 => gz_B r (gz_Ix x tc) ∧ w1 = (wC ad cI n X Y tc TT NB RG rc KT kc tl GR)) := by
  refine gz_ofi (cc := cX0_isTriangle) (maxL := 2) (own := RX0) (by decide +kernel) rfl rfl rfl (Nat.le_of_ble_eq_true rfl) ?_
  intro z E ret
  show gz_G z _ 0 [(0, .ref (ad 0)), (1, .int x)] []
  refine gz_iload_n E dX0_isTriangle_0 rfl rfl ?_
  refine gz_if_lt (tgt := 16) E dX0_isTriangle_1 (by decide) (fun q1 => ?_) (fun q1 => ?_)
  · skip
    refine gz_iconst (v := 0) E dX0_isTriangle_16 (by decide) ?_
    exact ret _ _ _ _ dX0_isTriangle_17 rfl ⟨by first | exact gz_B_t (gz_Ix_t (by omega) (by assumption) (by assumption)) | exact gz_B_f (gz_Ix_f1 (by omega) (by assumption)) | exact gz_B_f (gz_Ix_f2 (by omega) (by assumption)), rfl⟩
  · skip
    refine gz_iload_n E dX0_isTriangle_4 rfl rfl ?_
    refine gz_aload_n E dX0_isTriangle_5 rfl rfl ?_
    refine gz_get E inwX0_isTriangle 0 4 dX0_isTriangle_6 flX0_isTriangle_23 rfl rfl (by decide) rfl rfl ?_
    refine gz_icmp_ge (tgt := 16) E dX0_isTriangle_9 (by decide) (fun q9 => ?_) (fun q9 => ?_)
    · skip
      refine gz_iconst (v := 0) E dX0_isTriangle_16 (by decide) ?_
      exact ret _ _ _ _ dX0_isTriangle_17 rfl ⟨by first | exact gz_B_t (gz_Ix_t (by omega) (by assumption) (by assumption)) | exact gz_B_f (gz_Ix_f1 (by omega) (by assumption)) | exact gz_B_f (gz_Ix_f2 (by omega) (by assumption)), rfl⟩
    · skip
      refine gz_iconst (v := 1) E dX0_isTriangle_12 (by decide) ?_
      refine gz_goto (tgt := 17) E dX0_isTriangle_13 (by decide) ?_
      exact ret _ _ _ _ dX0_isTriangle_17 rfl ⟨by first | exact gz_B_t (gz_Ix_t (by omega) (by assumption) (by assumption)) | exact gz_B_f (gz_Ix_f1 (by omega) (by assumption)) | exact gz_B_f (gz_Ix_f2 (by omega) (by assumption)), rfl⟩
end CA
