/-! the reference over points -/
section DR
variable {l : Launch} {D : va_G} {bd : Nat → Nat} {cI cJ : ClassId} {n mc ec kc : Nat} {X Y : Nat → Int} {LE MI GE CO LS GT GP : Nat → Nat} {tl : Int}
abbrev rmX1_refused : Room := { frames := 0, cells := 0, slots := 0, locals := 0 }
set_option maxRecDepth 20000 in
theorem cwX1_refused_127 : Jvm.Cond.constantDouble RX1 127 (13899102408576860160) ∈ wsX1_refused := by decide +kernel
set_option maxRecDepth 20000 in
theorem cwX1_refused_129 : Jvm.Cond.constantDouble RX1 129 (4675730371722084352) ∈ wsX1_refused := by decide +kernel
set_option maxRecDepth 20000 in
set_option maxHeartbeats 4000000 in
theorem mtX1_refused {px py : Int} {x y : UInt64} (hx : fd_D 3 px x) (hy : fd_D 3 py y) : gz_Ki l yX1_refused wsX1_refused rmX1_refused D [(cI, .int), (cJ, .long)] [.ref (bd 0), .double x, .double y] (wM bd cI cJ n X Y mc LE MI GE ec CO kc LS GT tl GP) (fun r w1 => gz_B r (¬ pg_in px py) ∧ w1 = (wM bd cI cJ n X Y mc LE MI GE ec CO kc LS GT tl GP)) := by
  refine gz_ofi (cc := cX1_refused) (maxL := 5) (own := RX1) (by decide +kernel) rfl rfl rfl (Nat.le_of_ble_eq_true rfl) ?_
  intro z E ret
  show gz_G z _ 0 [(0, .ref (bd 0)), (1, .double x), (3, .double y)] []
  refine gz_dload_n E dX1_refused_0 rfl rfl ?_
  refine gz_ldc2d E dX1_refused_1 cwX1_refused_127 ?_
  refine gz_dc_lt (tgt := 32) E dX1_refused_4 dX1_refused_5 (by decide) hx fd_m40 (fun q4 => ?_) (fun q4 => ?_)
  · skip
    refine gz_iconst (v := 1) E dX1_refused_32 (by decide) ?_
    refine gz_goto (tgt := 37) E dX1_refused_33 (by decide) ?_
    exact ret _ _ _ _ dX1_refused_37 rfl ⟨by unfold pg_in; first | exact gz_B_t (by omega) | exact gz_B_f (by omega), rfl⟩
  · skip
    refine gz_dload_n E dX1_refused_8 rfl rfl ?_
    refine gz_ldc2d E dX1_refused_9 cwX1_refused_129 ?_
    refine gz_dc_gt (tgt := 32) E dX1_refused_12 dX1_refused_13 (by decide) hx fd_40 (fun q12 => ?_) (fun q12 => ?_)
    · skip
      refine gz_iconst (v := 1) E dX1_refused_32 (by decide) ?_
      refine gz_goto (tgt := 37) E dX1_refused_33 (by decide) ?_
      exact ret _ _ _ _ dX1_refused_37 rfl ⟨by unfold pg_in; first | exact gz_B_t (by omega) | exact gz_B_f (by omega), rfl⟩
    · skip
      refine gz_dload_n E dX1_refused_16 rfl rfl ?_
      refine gz_ldc2d E dX1_refused_17 cwX1_refused_127 ?_
      refine gz_dc_lt (tgt := 32) E dX1_refused_20 dX1_refused_21 (by decide) hy fd_m40 (fun q20 => ?_) (fun q20 => ?_)
      · skip
        refine gz_iconst (v := 1) E dX1_refused_32 (by decide) ?_
        refine gz_goto (tgt := 37) E dX1_refused_33 (by decide) ?_
        exact ret _ _ _ _ dX1_refused_37 rfl ⟨by unfold pg_in; first | exact gz_B_t (by omega) | exact gz_B_f (by omega), rfl⟩
      · skip
        refine gz_dload_n E dX1_refused_24 rfl rfl ?_
        refine gz_ldc2d E dX1_refused_25 cwX1_refused_129 ?_
        refine gz_dc_le (tgt := 36) E dX1_refused_28 dX1_refused_29 (by decide) hy fd_40 (fun q28 => ?_) (fun q28 => ?_)
        · skip
          refine gz_iconst (v := 0) E dX1_refused_36 (by decide) ?_
          exact ret _ _ _ _ dX1_refused_37 rfl ⟨by unfold pg_in; first | exact gz_B_t (by omega) | exact gz_B_f (by omega), rfl⟩
        · skip
          refine gz_iconst (v := 1) E dX1_refused_32 (by decide) ?_
          refine gz_goto (tgt := 37) E dX1_refused_33 (by decide) ?_
          exact ret _ _ _ _ dX1_refused_37 rfl ⟨by unfold pg_in; first | exact gz_B_t (by omega) | exact gz_B_f (by omega), rfl⟩
abbrev rmX1_far : Room := { frames := 0, cells := 0, slots := 0, locals := 0 }
theorem inwX1_far : ∀ w ∈ wsX10, w ∈ wsX1_far := fun _ h => List.mem_cons_of_mem _ (List.mem_append_right _ h)
set_option maxRecDepth 20000 in
theorem cwX1_far_131 : Jvm.Cond.constantLong RX1 131 (8) ∈ wsX1_far := by decide +kernel
set_option maxRecDepth 20000 in
theorem flX1_far_7 : Cond.fieldLink RX1 7 RX1 (TX1 1).2.1 (TX1 1).2.2.1 ∈ wsX1_far := by decide +kernel
set_option maxRecDepth 20000 in
theorem flX1_far_13 : Cond.fieldLink RX1 13 RX1 (TX1 2).2.1 (TX1 2).2.2.1 ∈ wsX1_far := by decide +kernel
set_option maxRecDepth 20000 in
set_option maxHeartbeats 4000000 in
theorem mtX1_far (SB : pg_ok n X Y) {a : Nat} (ha : a < n) {px py : Int} : gz_Kl l yX1_far wsX1_far rmX1_far D [(cI, .int), (cJ, .long)] [.ref (bd 0), .int (nI a), .long (lI px), .long (lI py)] (wM bd cI cJ n X Y mc LE MI GE ec CO kc LS GT tl GP) (fun r w1 => r = lI (pg_fa X Y a px py) ∧ w1 = (wM bd cI cJ n X Y mc LE MI GE ec CO kc LS GT tl GP)) := by
  refine gz_ofl (cc := cX1_far) (maxL := 6) (own := RX1) (by decide +kernel) rfl rfl rfl (Nat.le_of_ble_eq_true rfl) ?_
  intro z E ret
  have hn := SB.1
  show gz_G z _ 0 [(0, .ref (bd 0)), (1, .int (nI a)), (2, .long (lI px)), (4, .long (lI py))] []
  refine gz_lload_n E dX1_far_0 rfl rfl ?_
  refine gz_ldc2 (v := lI 8) E dX1_far_1 cwX1_far_131 ?_
  refine gz_aload_n E dX1_far_4 rfl rfl ?_
  refine gz_get E inwX1_far 0 1 dX1_far_5 flX1_far_7 rfl rfl (by decide) rfl rfl ?_
  refine gz_iload_n E dX1_far_8 rfl rfl ?_
  refine gz_laldN E 1 1 dX1_far_9 rfl rfl (by decide) rfl (by omega) ?_
  refine gz_lmulL E dX1_far_10 ?_
  refine gz_lsubL E dX1_far_11 ?_
  refine gz_lload_n E dX1_far_12 rfl rfl ?_
  refine gz_ldc2 (v := lI 8) E dX1_far_13 cwX1_far_131 ?_
  refine gz_aload_n E dX1_far_16 rfl rfl ?_
  refine gz_get E inwX1_far 0 1 dX1_far_17 flX1_far_7 rfl rfl (by decide) rfl rfl ?_
  refine gz_iload_n E dX1_far_20 rfl rfl ?_
  refine gz_laldN E 1 1 dX1_far_21 rfl rfl (by decide) rfl (by omega) ?_
  refine gz_lmulL E dX1_far_22 ?_
  refine gz_lsubL E dX1_far_23 ?_
  refine gz_lmulL E dX1_far_24 ?_
  refine gz_lload E dX1_far_25 rfl ?_
  refine gz_ldc2 (v := lI 8) E dX1_far_27 cwX1_far_131 ?_
  refine gz_aload_n E dX1_far_30 rfl rfl ?_
  refine gz_get E inwX1_far 0 2 dX1_far_31 flX1_far_13 rfl rfl (by decide) rfl rfl ?_
  refine gz_iload_n E dX1_far_34 rfl rfl ?_
  refine gz_laldN E 2 1 dX1_far_35 rfl rfl (by decide) rfl (by omega) ?_
  refine gz_lmulL E dX1_far_36 ?_
  refine gz_lsubL E dX1_far_37 ?_
  refine gz_lload E dX1_far_38 rfl ?_
  refine gz_ldc2 (v := lI 8) E dX1_far_40 cwX1_far_131 ?_
  refine gz_aload_n E dX1_far_43 rfl rfl ?_
  refine gz_get E inwX1_far 0 2 dX1_far_44 flX1_far_13 rfl rfl (by decide) rfl rfl ?_
  refine gz_iload_n E dX1_far_47 rfl rfl ?_
  refine gz_laldN E 2 1 dX1_far_48 rfl rfl (by decide) rfl (by omega) ?_
  refine gz_lmulL E dX1_far_49 ?_
  refine gz_lsubL E dX1_far_50 ?_
  refine gz_lmulL E dX1_far_51 ?_
  refine gz_laddL E dX1_far_52 ?_
  exact ret _ _ _ _ dX1_far_53 ⟨rfl, rfl⟩
abbrev rmX1_side : Room := { frames := 1, cells := 0, slots := 0, locals := 22 }
theorem inwX1_side : ∀ w ∈ wsX10, w ∈ wsX1_side := fun _ h => List.mem_cons_of_mem _ (List.mem_append_right _ h)
set_option maxRecDepth 20000 in
theorem flX1_side_7 : Cond.fieldLink RX1 7 RX1 (TX1 1).2.1 (TX1 1).2.2.1 ∈ wsX1_side := by decide +kernel
set_option maxRecDepth 20000 in
theorem cwX1_side_131 : Jvm.Cond.constantLong RX1 131 (8) ∈ wsX1_side := by decide +kernel
set_option maxRecDepth 20000 in
theorem flX1_side_13 : Cond.fieldLink RX1 13 RX1 (TX1 2).2.1 (TX1 2).2.2.1 ∈ wsX1_side := by decide +kernel
set_option maxRecDepth 20000 in
set_option maxHeartbeats 4000000 in
theorem mtX1_side (SB : pg_ok n X Y) {a b : Nat} (ha : a < n) (hb : b < n) {px py : Int} (hin : pg_in px py) : gz_Ki l yX1_side wsX1_side rmX1_side D [(cI, .int), (cJ, .long)] [.ref (bd 0), .int (nI a), .int (nI b), .long (lI px), .long (lI py)] (wM bd cI cJ n X Y mc LE MI GE ec CO kc LS GT tl GP) (fun r w1 => r = iI (pg_sg (pg_sd X Y a b px py)) ∧ w1 = (wM bd cI cJ n X Y mc LE MI GE ec CO kc LS GT tl GP)) := by
  refine gz_ofi (cc := cX1_side) (maxL := 7) (own := RX1) (by decide +kernel) rfl rfl rfl (Nat.le_of_ble_eq_true rfl) ?_
  intro z E ret
  have hn := SB.1
  have t := pg_sd_b SB ha hb hin
  unfold pg_sd at t
  show gz_G z _ 0 [(0, .ref (bd 0)), (1, .int (nI a)), (2, .int (nI b)), (3, .long (lI px)), (5, .long (lI py))] []
  refine gz_aload_n E dX1_side_0 rfl rfl ?_
  refine gz_aload_n E dX1_side_1 rfl rfl ?_
  refine gz_get E inwX1_side 0 1 dX1_side_2 flX1_side_7 rfl rfl (by decide) rfl rfl ?_
  refine gz_iload_n E dX1_side_5 rfl rfl ?_
  refine gz_laldN E 1 1 dX1_side_6 rfl rfl (by decide) rfl (by omega) ?_
  refine gz_aload_n E dX1_side_7 rfl rfl ?_
  refine gz_get E inwX1_side 0 1 dX1_side_8 flX1_side_7 rfl rfl (by decide) rfl rfl ?_
  refine gz_iload_n E dX1_side_11 rfl rfl ?_
  refine gz_laldN E 1 1 dX1_side_12 rfl rfl (by decide) rfl (by omega) ?_
  refine gz_lsubL E dX1_side_13 ?_
  refine gz_lload E dX1_side_14 rfl ?_
  refine gz_ldc2 (v := lI 8) E dX1_side_16 cwX1_side_131 ?_
  refine gz_aload_n E dX1_side_19 rfl rfl ?_
  refine gz_get E inwX1_side 0 2 dX1_side_20 flX1_side_13 rfl rfl (by decide) rfl rfl ?_
  refine gz_iload_n E dX1_side_23 rfl rfl ?_
  refine gz_laldN E 2 1 dX1_side_24 rfl rfl (by decide) rfl (by omega) ?_
  refine gz_lmulL E dX1_side_25 ?_
  refine gz_lsubL E dX1_side_26 ?_
  refine gz_lmulL E dX1_side_27 ?_
  refine gz_aload_n E dX1_side_28 rfl rfl ?_
  refine gz_get E inwX1_side 0 2 dX1_side_29 flX1_side_13 rfl rfl (by decide) rfl rfl ?_
  refine gz_iload_n E dX1_side_32 rfl rfl ?_
  refine gz_laldN E 2 1 dX1_side_33 rfl rfl (by decide) rfl (by omega) ?_
  refine gz_aload_n E dX1_side_34 rfl rfl ?_
  refine gz_get E inwX1_side 0 2 dX1_side_35 flX1_side_13 rfl rfl (by decide) rfl rfl ?_
  refine gz_iload_n E dX1_side_38 rfl rfl ?_
  refine gz_laldN E 2 1 dX1_side_39 rfl rfl (by decide) rfl (by omega) ?_
  refine gz_lsubL E dX1_side_40 ?_
  refine gz_lload_n E dX1_side_41 rfl rfl ?_
  refine gz_ldc2 (v := lI 8) E dX1_side_42 cwX1_side_131 ?_
  refine gz_aload_n E dX1_side_45 rfl rfl ?_
  refine gz_get E inwX1_side 0 1 dX1_side_46 flX1_side_7 rfl rfl (by decide) rfl rfl ?_
  refine gz_iload_n E dX1_side_49 rfl rfl ?_
  refine gz_laldN E 1 1 dX1_side_50 rfl rfl (by decide) rfl (by omega) ?_
  refine gz_lmulL E dX1_side_51 ?_
  refine gz_lsubL E dX1_side_52 ?_
  refine gz_lmulL E dX1_side_53 ?_
  refine gz_lsubL E dX1_side_54 ?_
  refine gz_cali (n := 1) E 0 dX1_side_55 gX1_side_X1_sign (mtX1_sign (by omega) (by omega)) rfl rfl ⟨rfl, rfl⟩ (by decide +kernel) ⟨Nat.le_of_ble_eq_true rfl, Nat.le_of_ble_eq_true rfl⟩ rfl rfl rfl rfl (Nat.le_of_ble_eq_true rfl) (fun r55 w55 hr55 => ?_)
  obtain ⟨rfl, rfl⟩ := hr55
  exact ret _ _ _ _ dX1_side_58 rfl ⟨rfl, rfl⟩
theorem fd_8x {p : Int} {a : UInt64} (h : fd_D 3 p a) (hp : -320000 ≤ p ∧ p ≤ 320000) : FP.d2l (FP.dmul a 4620693217682128896) = lI p := by
  have m := fd_mul h fd_8 (by decide) (by decide) (by rw [Int.mul_one]; omega)
  rw [Int.mul_one] at m
  exact fd_d2l m (by omega) (by omega)
theorem fd_8n {p : Int} {a : UInt64} (h : fd_D 3 p a) (hp : -320000 ≤ p ∧ p ≤ 320000) : vf_n64 (FP.dmul a 4620693217682128896) := fd_n64 (fd_mul h fd_8 (by decide) (by decide) (by rw [Int.mul_one]; omega))
abbrev rmX1_holder : Room := { frames := 2, cells := 0, slots := 0, locals := 48 }
theorem inwX1_holder : ∀ w ∈ wsX10, w ∈ wsX1_holder := fun _ h => List.mem_cons_of_mem _ (List.mem_append_right _ h)
set_option maxRecDepth 20000 in
theorem flX1_holder_64 : Cond.fieldLink RX1 64 RX1 (TX1 3).2.1 (TX1 3).2.2.1 ∈ wsX1_holder := by decide +kernel
set_option maxRecDepth 20000 in
theorem flX1_holder_16 : Cond.fieldLink RX1 16 RX1 (TX1 4).2.1 (TX1 4).2.2.1 ∈ wsX1_holder := by decide +kernel
set_option maxRecDepth 20000 in
theorem flX1_holder_20 : Cond.fieldLink RX1 20 RX1 (TX1 5).2.1 (TX1 5).2.2.1 ∈ wsX1_holder := by decide +kernel
set_option maxRecDepth 20000 in
theorem flX1_holder_23 : Cond.fieldLink RX1 23 RX1 (TX1 6).2.1 (TX1 6).2.2.1 ∈ wsX1_holder := by decide +kernel
set_option maxRecDepth 20000 in
theorem cwX1_holder_137 : Jvm.Cond.constantDouble RX1 137 (4620693217682128896) ∈ wsX1_holder := by decide +kernel
set_option maxRecDepth 20000 in
set_option maxHeartbeats 4000000 in
theorem mtX1_holder (SB : pg_ok n X Y) (hm : mc ≤ 23) (hTT : ∀ t, t < mc → LE t < MI t ∧ MI t < GE t ∧ GE t < n) (hnl : ∀ t, t < mc → pg_tn X Y (LE t) (MI t) (GE t) ≠ 0) {px py : Int} {x y : UInt64} (hx : fd_D 3 px x) (hy : fd_D 3 py y) : gz_Ki l yX1_holder wsX1_holder rmX1_holder D [(cI, .int), (cJ, .long)] [.ref (bd 0), .double x, .double y] (wM bd cI cJ n X Y mc LE MI GE ec CO kc LS GT tl GP) (fun r w1 => pg_HR n X Y mc LE MI GE px py r ∧ w1 = (wM bd cI cJ n X Y mc LE MI GE ec CO kc LS GT tl GP)) := by
  refine gz_ofi (cc := cX1_holder) (maxL := 14) (own := RX1) (by decide +kernel) rfl rfl rfl (Nat.le_of_ble_eq_true rfl) ?_
  intro z E ret
  have hn := SB.1
  show gz_G z _ 0 [(0, .ref (bd 0)), (1, .double x), (3, .double y)] []
  have loop : pg_in px py → ∀ (f k : Nat), mc < f + k → k ≤ mc → (∀ j, j < k → ¬ pg_HO X Y (LE j) (MI j) (GE j) px py) → gz_G z (wM bd cI cJ n X Y mc LE MI GE ec CO kc LS GT tl GP) 31 [(0, .ref (bd 0)), (5, .long (lI px)), (7, .long (lI py)), (9, .int (nI k))] [] := by
    intro hin f
    induction f with
    | zero => intro k h1 h2; exact absurd h1 (by omega)
    | succ f ih =>
      intro k h1 h2 h3
      refine gz_iload E dX1_holder_31 rfl ?_
      refine gz_aload_n E dX1_holder_33 rfl rfl ?_
      refine gz_get E inwX1_holder 0 3 dX1_holder_34 flX1_holder_64 rfl rfl (by decide) rfl rfl ?_
      refine gz_icN_ge (tgt := 172) E dX1_holder_37 (by decide) (by omega) (by omega) (fun q37 => ?_) (fun q37 => ?_)
      · skip
        refine gz_iconst (v := -1) E dX1_holder_172 (by decide) ?_
        first
          | exact ret _ _ _ _ dX1_holder_173 rfl ⟨Or.inr ⟨hin, Or.inl ⟨k, hk, by unfold pg_HO; omega, h3, rfl⟩⟩, rfl⟩
          | exact ret _ _ _ _ dX1_holder_173 rfl ⟨Or.inr ⟨hin, Or.inr ⟨rfl, fun j hj => h3 j (by omega)⟩⟩, rfl⟩
      · skip
        have hk : k < mc := by omega
        obtain ⟨t2, t3, t4⟩ := hTT k hk
        have hnz := hnl k hk
        have ha : LE k < n := by omega
        have hb : MI k < n := by omega
        have hc : GE k < n := by omega
        have p0 := pg_sgml (x := pg_sd X Y (LE k) (MI k) px py) (y := pg_tn X Y (LE k) (MI k) (GE k))
        have b0 := pg_sgmb (pg_sd X Y (LE k) (MI k) px py) (pg_tn X Y (LE k) (MI k) (GE k))
        have p1 := pg_sgml (x := pg_sd X Y (MI k) (GE k) px py) (y := pg_tn X Y (LE k) (MI k) (GE k))
        have b1 := pg_sgmb (pg_sd X Y (MI k) (GE k) px py) (pg_tn X Y (LE k) (MI k) (GE k))
        have p2 := pg_sgml (x := pg_sd X Y (GE k) (LE k) px py) (y := pg_tn X Y (LE k) (MI k) (GE k))
        have b2 := pg_sgmb (pg_sd X Y (GE k) (LE k) px py) (pg_tn X Y (LE k) (MI k) (GE k))
        refine gz_aload_n E dX1_holder_40 rfl rfl ?_
        refine gz_aload_n E dX1_holder_41 rfl rfl ?_
        refine gz_get E inwX1_holder 0 4 dX1_holder_42 flX1_holder_16 rfl rfl (by decide) rfl rfl ?_
        refine gz_iload E dX1_holder_45 rfl ?_
        refine gz_ialdN E 3 0 dX1_holder_47 rfl rfl (by decide) rfl (by omega) ?_
        refine gz_aload_n E dX1_holder_48 rfl rfl ?_
        refine gz_get E inwX1_holder 0 5 dX1_holder_49 flX1_holder_20 rfl rfl (by decide) rfl rfl ?_
        refine gz_iload E dX1_holder_52 rfl ?_
        refine gz_ialdN E 4 0 dX1_holder_54 rfl rfl (by decide) rfl (by omega) ?_
        refine gz_aload_n E dX1_holder_55 rfl rfl ?_
        refine gz_get E inwX1_holder 0 6 dX1_holder_56 flX1_holder_23 rfl rfl (by decide) rfl rfl ?_
        refine gz_iload E dX1_holder_59 rfl ?_
        refine gz_ialdN E 5 0 dX1_holder_61 rfl rfl (by decide) rfl (by omega) ?_
        refine gz_cali (n := 3) E 0 dX1_holder_62 gX1_holder_X1_turn (mtX1_turn SB (by assumption) (by assumption) (by assumption)) rfl rfl ⟨rfl, rfl⟩ (by decide +kernel) ⟨Nat.le_of_ble_eq_true rfl, Nat.le_of_ble_eq_true rfl⟩ rfl rfl rfl rfl (Nat.le_of_ble_eq_true rfl) (fun r62 w62 hr62 => ?_)
        obtain ⟨rfl, rfl⟩ := hr62
        refine gz_istore (lv' := [(0, _), (5, _), (7, _), (9, _), (10, _)]) E dX1_holder_65 (by decide) rfl ?_
        refine gz_aload_n E dX1_holder_67 rfl rfl ?_
        refine gz_aload_n E dX1_holder_68 rfl rfl ?_
        refine gz_get E inwX1_holder 0 4 dX1_holder_69 flX1_holder_16 rfl rfl (by decide) rfl rfl ?_
        refine gz_iload E dX1_holder_72 rfl ?_
        refine gz_ialdN E 3 0 dX1_holder_74 rfl rfl (by decide) rfl (by omega) ?_
        refine gz_aload_n E dX1_holder_75 rfl rfl ?_
        refine gz_get E inwX1_holder 0 5 dX1_holder_76 flX1_holder_20 rfl rfl (by decide) rfl rfl ?_
        refine gz_iload E dX1_holder_79 rfl ?_
        refine gz_ialdN E 4 0 dX1_holder_81 rfl rfl (by decide) rfl (by omega) ?_
        refine gz_lload E dX1_holder_82 rfl ?_
        refine gz_lload E dX1_holder_84 rfl ?_
        refine gz_cali (n := 4) E 0 dX1_holder_86 gX1_holder_X1_side (mtX1_side SB (by assumption) (by assumption) hin) rfl rfl ⟨rfl, rfl⟩ (by decide +kernel) ⟨Nat.le_of_ble_eq_true rfl, Nat.le_of_ble_eq_true rfl⟩ rfl rfl rfl rfl (Nat.le_of_ble_eq_true rfl) (fun r86 w86 hr86 => ?_)
        obtain ⟨rfl, rfl⟩ := hr86
        refine gz_iload E dX1_holder_89 rfl ?_
        refine gz_imulI E dX1_holder_91 ?_
        refine gz_istore (lv' := [(0, _), (5, _), (7, _), (9, _), (10, _), (11, _)]) E dX1_holder_92 (by decide) rfl ?_
        refine gz_aload_n E dX1_holder_94 rfl rfl ?_
        refine gz_aload_n E dX1_holder_95 rfl rfl ?_
        refine gz_get E inwX1_holder 0 5 dX1_holder_96 flX1_holder_20 rfl rfl (by decide) rfl rfl ?_
        refine gz_iload E dX1_holder_99 rfl ?_
        refine gz_ialdN E 4 0 dX1_holder_101 rfl rfl (by decide) rfl (by omega) ?_
        refine gz_aload_n E dX1_holder_102 rfl rfl ?_
        refine gz_get E inwX1_holder 0 6 dX1_holder_103 flX1_holder_23 rfl rfl (by decide) rfl rfl ?_
        refine gz_iload E dX1_holder_106 rfl ?_
        refine gz_ialdN E 5 0 dX1_holder_108 rfl rfl (by decide) rfl (by omega) ?_
        refine gz_lload E dX1_holder_109 rfl ?_
        refine gz_lload E dX1_holder_111 rfl ?_
        refine gz_cali (n := 4) E 0 dX1_holder_113 gX1_holder_X1_side (mtX1_side SB (by assumption) (by assumption) hin) rfl rfl ⟨rfl, rfl⟩ (by decide +kernel) ⟨Nat.le_of_ble_eq_true rfl, Nat.le_of_ble_eq_true rfl⟩ rfl rfl rfl rfl (Nat.le_of_ble_eq_true rfl) (fun r113 w113 hr113 => ?_)
        obtain ⟨rfl, rfl⟩ := hr113
        refine gz_iload E dX1_holder_116 rfl ?_
        refine gz_imulI E dX1_holder_118 ?_
        refine gz_istore (lv' := [(0, _), (5, _), (7, _), (9, _), (10, _), (11, _), (12, _)]) E dX1_holder_119 (by decide) rfl ?_
        refine gz_aload_n E dX1_holder_121 rfl rfl ?_
        refine gz_aload_n E dX1_holder_122 rfl rfl ?_
        refine gz_get E inwX1_holder 0 6 dX1_holder_123 flX1_holder_23 rfl rfl (by decide) rfl rfl ?_
        refine gz_iload E dX1_holder_126 rfl ?_
        refine gz_ialdN E 5 0 dX1_holder_128 rfl rfl (by decide) rfl (by omega) ?_
        refine gz_aload_n E dX1_holder_129 rfl rfl ?_
        refine gz_get E inwX1_holder 0 4 dX1_holder_130 flX1_holder_16 rfl rfl (by decide) rfl rfl ?_
        refine gz_iload E dX1_holder_133 rfl ?_
        refine gz_ialdN E 3 0 dX1_holder_135 rfl rfl (by decide) rfl (by omega) ?_
        refine gz_lload E dX1_holder_136 rfl ?_
        refine gz_lload E dX1_holder_138 rfl ?_
        refine gz_cali (n := 4) E 0 dX1_holder_140 gX1_holder_X1_side (mtX1_side SB (by assumption) (by assumption) hin) rfl rfl ⟨rfl, rfl⟩ (by decide +kernel) ⟨Nat.le_of_ble_eq_true rfl, Nat.le_of_ble_eq_true rfl⟩ rfl rfl rfl rfl (Nat.le_of_ble_eq_true rfl) (fun r140 w140 hr140 => ?_)
        obtain ⟨rfl, rfl⟩ := hr140
        refine gz_iload E dX1_holder_143 rfl ?_
        refine gz_imulI E dX1_holder_145 ?_
        refine gz_istore (lv' := [(0, _), (5, _), (7, _), (9, _), (10, _), (11, _), (12, _), (13, _)]) E dX1_holder_146 (by decide) rfl ?_
        refine gz_iload E dX1_holder_148 rfl ?_
        refine gz_ifI_lt (tgt := 166) E dX1_holder_150 (by decide) (by omega) (by omega) (fun q150 => ?_) (fun q150 => ?_)
        · skip
          refine gz_iinc (lv' := [(0, _), (5, _), (7, _), (9, _), (10, _), (11, _), (12, _), (13, _)]) E dX1_holder_166 rfl (gz_nI1 _) (by decide) rfl ?_
          refine gz_goto (tgt := 31) E dX1_holder_169 (by decide) ?_
          refine gz_sub (lv' := [(0, _), (5, _), (7, _), (9, _)]) [0, 1, 2, 3] rfl ?_
          exact ih (k + 1) (by omega) (by omega) (pg_lt_s h3 (by unfold pg_HO; omega))
        · skip
          refine gz_iload E dX1_holder_153 rfl ?_
          refine gz_ifI_lt (tgt := 166) E dX1_holder_155 (by decide) (by omega) (by omega) (fun q155 => ?_) (fun q155 => ?_)
          · skip
            refine gz_iinc (lv' := [(0, _), (5, _), (7, _), (9, _), (10, _), (11, _), (12, _), (13, _)]) E dX1_holder_166 rfl (gz_nI1 _) (by decide) rfl ?_
            refine gz_goto (tgt := 31) E dX1_holder_169 (by decide) ?_
            refine gz_sub (lv' := [(0, _), (5, _), (7, _), (9, _)]) [0, 1, 2, 3] rfl ?_
            exact ih (k + 1) (by omega) (by omega) (pg_lt_s h3 (by unfold pg_HO; omega))
          · skip
            refine gz_iload E dX1_holder_158 rfl ?_
            refine gz_ifI_lt (tgt := 166) E dX1_holder_160 (by decide) (by omega) (by omega) (fun q160 => ?_) (fun q160 => ?_)
            · skip
              refine gz_iinc (lv' := [(0, _), (5, _), (7, _), (9, _), (10, _), (11, _), (12, _), (13, _)]) E dX1_holder_166 rfl (gz_nI1 _) (by decide) rfl ?_
              refine gz_goto (tgt := 31) E dX1_holder_169 (by decide) ?_
              refine gz_sub (lv' := [(0, _), (5, _), (7, _), (9, _)]) [0, 1, 2, 3] rfl ?_
              exact ih (k + 1) (by omega) (by omega) (pg_lt_s h3 (by unfold pg_HO; omega))
            · skip
              refine gz_iload E dX1_holder_163 rfl ?_
              first
                | exact ret _ _ _ _ dX1_holder_165 rfl ⟨Or.inr ⟨hin, Or.inl ⟨k, hk, by unfold pg_HO; omega, h3, rfl⟩⟩, rfl⟩
                | exact ret _ _ _ _ dX1_holder_165 rfl ⟨Or.inr ⟨hin, Or.inr ⟨rfl, fun j hj => h3 j (by omega)⟩⟩, rfl⟩
  refine gz_aload_n E dX1_holder_0 rfl rfl ?_
  refine gz_dload_n E dX1_holder_1 rfl rfl ?_
  refine gz_dload_n E dX1_holder_2 rfl rfl ?_
  refine gz_cali (n := 2) E 0 dX1_holder_3 gX1_holder_X1_refused (mtX1_refused hx hy) rfl rfl ⟨rfl, rfl⟩ (by decide +kernel) ⟨Nat.le_of_ble_eq_true rfl, Nat.le_of_ble_eq_true rfl⟩ rfl rfl rfl rfl (Nat.le_of_ble_eq_true rfl) (fun r3 w3 hr3 => ?_)
  obtain ⟨hr3, rfl⟩ := hr3
  refine gz_ifB_eq (tgt := 12) E hr3 dX1_holder_6 (by decide) (fun q6 => ?_) (fun q6 => ?_)
  · skip
    have hin := Classical.not_not.mp q6
    have hin1 : -320000 ≤ px ∧ px ≤ 320000 := ⟨hin.1, hin.2.1⟩
    have hin2 : -320000 ≤ py ∧ py ≤ 320000 := ⟨hin.2.2.1, hin.2.2.2⟩
    refine gz_dload_n E dX1_holder_12 rfl rfl ?_
    refine gz_ldc2d E dX1_holder_13 cwX1_holder_137 ?_
    refine gz_dmul E dX1_holder_16 rfl (fd_8n hx hin1) ?_
    refine gz_d2l E dX1_holder_17 ?_
    rw [fd_8x hx hin1]
    refine gz_lstore (lv' := [(0, _), (1, _), (3, _), (5, _)]) E dX1_holder_18 (by decide) rfl ?_
    refine gz_dload_n E dX1_holder_20 rfl rfl ?_
    refine gz_ldc2d E dX1_holder_21 cwX1_holder_137 ?_
    refine gz_dmul E dX1_holder_24 rfl (fd_8n hy hin2) ?_
    refine gz_d2l E dX1_holder_25 ?_
    rw [fd_8x hy hin2]
    refine gz_lstore (lv' := [(0, _), (1, _), (3, _), (5, _), (7, _)]) E dX1_holder_26 (by decide) rfl ?_
    refine gz_iconst (v := nI 0) E dX1_holder_28 (by decide) ?_
    refine gz_istore (lv' := [(0, _), (1, _), (3, _), (5, _), (7, _), (9, _)]) E dX1_holder_29 (by decide) rfl ?_
    refine gz_sub (lv' := [(0, _), (5, _), (7, _), (9, _)]) [0, 3, 4, 5] rfl ?_
    exact loop hin (mc + 1) 0 (by omega) (by omega) (fun j hj => absurd hj (by omega))
  · skip
    refine gz_bipush (v := -2) E dX1_holder_9 (by decide) ?_
    exact ret _ _ _ _ dX1_holder_11 rfl ⟨Or.inl ⟨q6, rfl⟩, rfl⟩
abbrev rmX1_nearest : Room := { frames := 1, cells := 0, slots := 0, locals := 25 }
theorem inwX1_nearest : ∀ w ∈ wsX10, w ∈ wsX1_nearest := fun _ h => List.mem_cons_of_mem _ (List.mem_append_right _ h)
set_option maxRecDepth 20000 in
theorem flX1_nearest_56 : Cond.fieldLink RX1 56 RX1 (TX1 0).2.1 (TX1 0).2.2.1 ∈ wsX1_nearest := by decide +kernel
set_option maxRecDepth 20000 in
theorem cwX1_nearest_137 : Jvm.Cond.constantDouble RX1 137 (4620693217682128896) ∈ wsX1_nearest := by decide +kernel
set_option maxRecDepth 20000 in
set_option maxHeartbeats 4000000 in
theorem mtX1_nearest (SB : pg_ok n X Y) {px py : Int} {x y : UInt64} (hx : fd_D 3 px x) (hy : fd_D 3 py y) : gz_Ki l yX1_nearest wsX1_nearest rmX1_nearest D [(cI, .int), (cJ, .long)] [.ref (bd 0), .double x, .double y] (wM bd cI cJ n X Y mc LE MI GE ec CO kc LS GT tl GP) (fun r w1 => pg_NE n X Y px py r ∧ w1 = (wM bd cI cJ n X Y mc LE MI GE ec CO kc LS GT tl GP)) := by
  refine gz_ofi (cc := cX1_nearest) (maxL := 11) (own := RX1) (by decide +kernel) rfl rfl rfl (Nat.le_of_ble_eq_true rfl) ?_
  intro z E ret
  have hn := SB.1
  show gz_G z _ 0 [(0, .ref (bd 0)), (1, .double x), (3, .double y)] []
  have loop : pg_in px py → ∀ (f k v : Nat), n < f + k → k ≤ n → pg_NS X Y px py k v → gz_G z (wM bd cI cJ n X Y mc LE MI GE ec CO kc LS GT tl GP) 45 [(0, .ref (bd 0)), (5, .long (lI px)), (7, .long (lI py)), (9, .int (nI v)), (10, .int (nI k))] [] := by
    intro hin f
    induction f with
    | zero => intro k v h1 h2; exact absurd h1 (by omega)
    | succ f ih =>
      intro k v h1 h2 h3
      refine gz_iload E dX1_nearest_45 rfl ?_
      refine gz_aload_n E dX1_nearest_47 rfl rfl ?_
      refine gz_get E inwX1_nearest 0 0 dX1_nearest_48 flX1_nearest_56 rfl rfl (by decide) rfl rfl ?_
      refine gz_icN_ge (tgt := 93) E dX1_nearest_51 (by decide) (by omega) (by omega) (fun q51 => ?_) (fun q51 => ?_)
      · skip
        refine gz_iload E dX1_nearest_93 rfl ?_
        have e : k = n := by omega
        subst e
        exact ret _ _ _ _ dX1_nearest_95 rfl ⟨Or.inr ⟨hin, Or.inr ⟨v, h3, rfl⟩⟩, rfl⟩
      · skip
        have hk : k < n := by omega
        have hv : v < n := by have := h3.1; omega
        have f1 := pg_fa_b SB hk hin
        have f2 := pg_fa_b SB hv hin
        refine gz_aload_n E dX1_nearest_54 rfl rfl ?_
        refine gz_iload E dX1_nearest_55 rfl ?_
        refine gz_lload E dX1_nearest_57 rfl ?_
        refine gz_lload E dX1_nearest_59 rfl ?_
        refine gz_call (n := 3) E 0 dX1_nearest_61 gX1_nearest_X1_far (mtX1_far SB (by assumption)) rfl rfl ⟨rfl, rfl⟩ (by decide +kernel) ⟨Nat.le_of_ble_eq_true rfl, Nat.le_of_ble_eq_true rfl⟩ rfl rfl rfl rfl (Nat.le_of_ble_eq_true rfl) (fun r61 w61 hr61 => ?_)
        obtain ⟨rfl, rfl⟩ := hr61
        refine gz_aload_n E dX1_nearest_64 rfl rfl ?_
        refine gz_iload E dX1_nearest_65 rfl ?_
        refine gz_lload E dX1_nearest_67 rfl ?_
        refine gz_lload E dX1_nearest_69 rfl ?_
        refine gz_call (n := 3) E 0 dX1_nearest_71 gX1_nearest_X1_far (mtX1_far SB (by assumption)) rfl rfl ⟨rfl, rfl⟩ (by decide +kernel) ⟨Nat.le_of_ble_eq_true rfl, Nat.le_of_ble_eq_true rfl⟩ rfl rfl rfl rfl (Nat.le_of_ble_eq_true rfl) (fun r71 w71 hr71 => ?_)
        obtain ⟨rfl, rfl⟩ := hr71
        refine gz_lcL_ge (tgt := 83) E dX1_nearest_74 dX1_nearest_75 (by decide) (by omega) (by omega) (by omega) (by omega) (fun q74 => ?_) (fun q74 => ?_)
        · skip
          refine gz_iload E dX1_nearest_83 rfl ?_
          refine gz_istore (lv' := [(0, _), (5, _), (7, _), (9, _), (10, _)]) E dX1_nearest_85 (by decide) rfl ?_
          refine gz_iinc (lv' := [(0, _), (5, _), (7, _), (9, _), (10, _)]) E dX1_nearest_87 rfl (gz_nI1 _) (by decide) rfl ?_
          refine gz_goto (tgt := 45) E dX1_nearest_90 (by decide) ?_
          first
            | exact ih (k + 1) _ (by omega) (by omega) (pg_NS_keep h3 q74)
            | exact ih (k + 1) _ (by omega) (by omega) (pg_NS_new h3 q74)
        · skip
          refine gz_iload E dX1_nearest_78 rfl ?_
          refine gz_goto (tgt := 85) E dX1_nearest_80 (by decide) ?_
          refine gz_istore (lv' := [(0, _), (5, _), (7, _), (9, _), (10, _)]) E dX1_nearest_85 (by decide) rfl ?_
          refine gz_iinc (lv' := [(0, _), (5, _), (7, _), (9, _), (10, _)]) E dX1_nearest_87 rfl (gz_nI1 _) (by decide) rfl ?_
          refine gz_goto (tgt := 45) E dX1_nearest_90 (by decide) ?_
          first
            | exact ih (k + 1) _ (by omega) (by omega) (pg_NS_keep h3 q74)
            | exact ih (k + 1) _ (by omega) (by omega) (pg_NS_new h3 q74)
  have off : pg_in px py → n = 0 → gz_G z (wM bd cI cJ n X Y mc LE MI GE ec CO kc LS GT tl GP) 45 [(0, .ref (bd 0)), (5, .long (lI px)), (7, .long (lI py)), (9, .int (-1)), (10, .int (nI 1))] [] := by
    intro hin hn0
    refine gz_iload E dX1_nearest_45 rfl ?_
    refine gz_aload_n E dX1_nearest_47 rfl rfl ?_
    refine gz_get E inwX1_nearest 0 0 dX1_nearest_48 flX1_nearest_56 rfl rfl (by decide) rfl rfl ?_
    refine gz_icN_ge (tgt := 93) E dX1_nearest_51 (by decide) (by omega) (by omega) (fun q51 => ?_) (fun q51 => ?_)
    · skip
      refine gz_iload E dX1_nearest_93 rfl ?_
      exact ret _ _ _ _ dX1_nearest_95 rfl ⟨Or.inr ⟨hin, Or.inl ⟨hn0, rfl⟩⟩, rfl⟩
    · exact absurd q51 (by omega)
  refine gz_aload_n E dX1_nearest_0 rfl rfl ?_
  refine gz_dload_n E dX1_nearest_1 rfl rfl ?_
  refine gz_dload_n E dX1_nearest_2 rfl rfl ?_
  refine gz_cali (n := 2) E 0 dX1_nearest_3 gX1_nearest_X1_refused (mtX1_refused hx hy) rfl rfl ⟨rfl, rfl⟩ (by decide +kernel) ⟨Nat.le_of_ble_eq_true rfl, Nat.le_of_ble_eq_true rfl⟩ rfl rfl rfl rfl (Nat.le_of_ble_eq_true rfl) (fun r3 w3 hr3 => ?_)
  obtain ⟨hr3, rfl⟩ := hr3
  refine gz_ifB_eq (tgt := 12) E hr3 dX1_nearest_6 (by decide) (fun q6 => ?_) (fun q6 => ?_)
  · skip
    have hin := Classical.not_not.mp q6
    have hin1 : -320000 ≤ px ∧ px ≤ 320000 := ⟨hin.1, hin.2.1⟩
    have hin2 : -320000 ≤ py ∧ py ≤ 320000 := ⟨hin.2.2.1, hin.2.2.2⟩
    refine gz_dload_n E dX1_nearest_12 rfl rfl ?_
    refine gz_ldc2d E dX1_nearest_13 cwX1_nearest_137 ?_
    refine gz_dmul E dX1_nearest_16 rfl (fd_8n hx hin1) ?_
    refine gz_d2l E dX1_nearest_17 ?_
    rw [fd_8x hx hin1]
    refine gz_lstore (lv' := [(0, _), (1, _), (3, _), (5, _)]) E dX1_nearest_18 (by decide) rfl ?_
    refine gz_dload_n E dX1_nearest_20 rfl rfl ?_
    refine gz_ldc2d E dX1_nearest_21 cwX1_nearest_137 ?_
    refine gz_dmul E dX1_nearest_24 rfl (fd_8n hy hin2) ?_
    refine gz_d2l E dX1_nearest_25 ?_
    rw [fd_8x hy hin2]
    refine gz_lstore (lv' := [(0, _), (1, _), (3, _), (5, _), (7, _)]) E dX1_nearest_26 (by decide) rfl ?_
    refine gz_aload_n E dX1_nearest_28 rfl rfl ?_
    refine gz_get E inwX1_nearest 0 0 dX1_nearest_29 flX1_nearest_56 rfl rfl (by decide) rfl rfl ?_
    refine gz_ifN_le (tgt := 39) E dX1_nearest_32 (by decide) (by omega) (fun q32 => ?_) (fun q32 => ?_)
    · skip
      refine gz_iconst (v := -1) E dX1_nearest_39 (by decide) ?_
      refine gz_istore (lv' := [(0, _), (1, _), (3, _), (5, _), (7, _), (9, _)]) E dX1_nearest_40 (by decide) rfl ?_
      refine gz_iconst (v := nI 1) E dX1_nearest_42 (by decide) ?_
      refine gz_istore (lv' := [(0, _), (1, _), (3, _), (5, _), (7, _), (9, _), (10, _)]) E dX1_nearest_43 (by decide) rfl ?_
      refine gz_sub (lv' := [(0, _), (5, _), (7, _), (9, _), (10, _)]) [0, 3, 4, 5, 6] rfl ?_
      first
        | exact loop hin (n + 1) 1 0 (by omega) (by omega) pg_NS_1
        | exact off hin (by omega)
    · skip
      refine gz_iconst (v := nI 0) E dX1_nearest_35 (by decide) ?_
      refine gz_goto (tgt := 40) E dX1_nearest_36 (by decide) ?_
      refine gz_istore (lv' := [(0, _), (1, _), (3, _), (5, _), (7, _), (9, _)]) E dX1_nearest_40 (by decide) rfl ?_
      refine gz_iconst (v := nI 1) E dX1_nearest_42 (by decide) ?_
      refine gz_istore (lv' := [(0, _), (1, _), (3, _), (5, _), (7, _), (9, _), (10, _)]) E dX1_nearest_43 (by decide) rfl ?_
      refine gz_sub (lv' := [(0, _), (5, _), (7, _), (9, _), (10, _)]) [0, 3, 4, 5, 6] rfl ?_
      first
        | exact loop hin (n + 1) 1 0 (by omega) (by omega) pg_NS_1
        | exact off hin (by omega)
  · skip
    refine gz_bipush (v := -2) E dX1_nearest_9 (by decide) ?_
    exact ret _ _ _ _ dX1_nearest_11 rfl ⟨Or.inl ⟨q6, rfl⟩, rfl⟩
abbrev rmX1_square : Room := { frames := 1, cells := 0, slots := 0, locals := 25 }
set_option maxRecDepth 20000 in
theorem cwX1_square_137 : Jvm.Cond.constantDouble RX1 137 (4620693217682128896) ∈ wsX1_square := by decide +kernel
set_option maxRecDepth 20000 in
theorem cwX1_square_151 : Jvm.Cond.constantDouble RX1 151 (4634204016564240384) ∈ wsX1_square := by decide +kernel
set_option maxRecDepth 20000 in
theorem cwX1_square_149 : Jvm.Cond.constantDouble RX1 149 (13830554455654793216) ∈ wsX1_square := by decide +kernel
set_option maxRecDepth 20000 in
theorem cwX1_square_147 : Jvm.Cond.constantDouble RX1 147 (13835058055282163712) ∈ wsX1_square := by decide +kernel
set_option maxRecDepth 20000 in
set_option maxHeartbeats 4000000 in
theorem mtX1_square (SB : pg_ok n X Y) (i : Int32) {px py : Int} {x y : UInt64} (hx : fd_D 3 px x) (hy : fd_D 3 py y) : gz_Kd l yX1_square wsX1_square rmX1_square D [(cI, .int), (cJ, .long)] [.ref (bd 0), .int i, .double x, .double y] (wM bd cI cJ n X Y mc LE MI GE ec CO kc LS GT tl GP) (fun r w1 => pg_SQ n X Y i px py r ∧ w1 = (wM bd cI cJ n X Y mc LE MI GE ec CO kc LS GT tl GP)) := by
  refine gz_ofd (cc := cX1_square) (maxL := 6) (own := RX1) (by decide +kernel) rfl rfl rfl (Nat.le_of_ble_eq_true rfl) ?_
  intro z E ret
  have hn := SB.1
  show gz_G z _ 0 [(0, .ref (bd 0)), (1, .int i), (2, .double x), (4, .double y)] []
  refine gz_aload_n E dX1_square_0 rfl rfl ?_
  refine gz_dload_n E dX1_square_1 rfl rfl ?_
  refine gz_dload E dX1_square_2 rfl ?_
  refine gz_cali (n := 2) E 0 dX1_square_4 gX1_square_X1_refused (mtX1_refused hx hy) rfl rfl ⟨rfl, rfl⟩ (by decide +kernel) ⟨Nat.le_of_ble_eq_true rfl, Nat.le_of_ble_eq_true rfl⟩ rfl rfl rfl rfl (Nat.le_of_ble_eq_true rfl) (fun r4 w4 hr4 => ?_)
  obtain ⟨hr4, rfl⟩ := hr4
  refine gz_ifB_eq (tgt := 14) E hr4 dX1_square_7 (by decide) (fun q7 => ?_) (fun q7 => ?_)
  · skip
    refine gz_aload_n E dX1_square_14 rfl rfl ?_
    refine gz_iload_n E dX1_square_15 rfl rfl ?_
    refine gz_cali (n := 1) E 0 dX1_square_16 gX1_square_X1_noSite (mtX1_noSite (by omega) _) rfl rfl ⟨rfl, rfl⟩ (by decide +kernel) ⟨Nat.le_of_ble_eq_true rfl, Nat.le_of_ble_eq_true rfl⟩ rfl rfl rfl rfl (Nat.le_of_ble_eq_true rfl) (fun r16 w16 hr16 => ?_)
    obtain ⟨hr16, rfl⟩ := hr16
    refine gz_ifB_eq (tgt := 28) E hr16 dX1_square_19 (by decide) (fun q19 => ?_) (fun q19 => ?_)
    · skip
      have hin := Classical.not_not.mp q7
      have hin1 : -320000 ≤ px ∧ px ≤ 320000 := ⟨hin.1, hin.2.1⟩
      have hin2 : -320000 ≤ py ∧ py ≤ 320000 := ⟨hin.2.2.1, hin.2.2.2⟩
      obtain ⟨k, hk, rfl⟩ := Classical.not_not.mp q19
      have f1 := pg_fa_b SB hk hin
      have dv := fd_div64 (fd_l2d (v := pg_fa X Y k px py) (by omega)) (by omega)
      refine gz_aload_n E dX1_square_28 rfl rfl ?_
      refine gz_iload_n E dX1_square_29 rfl rfl ?_
      refine gz_dload_n E dX1_square_30 rfl rfl ?_
      refine gz_ldc2d E dX1_square_31 cwX1_square_137 ?_
      refine gz_dmul E dX1_square_34 rfl (fd_8n hx hin1) ?_
      refine gz_d2l E dX1_square_35 ?_
      rw [fd_8x hx hin1]
      refine gz_dload E dX1_square_36 rfl ?_
      refine gz_ldc2d E dX1_square_38 cwX1_square_137 ?_
      refine gz_dmul E dX1_square_41 rfl (fd_8n hy hin2) ?_
      refine gz_d2l E dX1_square_42 ?_
      rw [fd_8x hy hin2]
      refine gz_call (n := 3) E 0 dX1_square_43 gX1_square_X1_far (mtX1_far SB hk) rfl rfl ⟨rfl, rfl⟩ (by decide +kernel) ⟨Nat.le_of_ble_eq_true rfl, Nat.le_of_ble_eq_true rfl⟩ rfl rfl rfl rfl (Nat.le_of_ble_eq_true rfl) (fun r43 w43 hr43 => ?_)
      obtain ⟨rfl, rfl⟩ := hr43
      refine gz_l2d E dX1_square_46 ?_
      refine gz_ldc2d E dX1_square_47 cwX1_square_151 ?_
      refine gz_ddiv E dX1_square_50 rfl (fd_n64 dv) ?_
      first
        | exact ret _ _ _ _ dX1_square_51 ⟨⟨_, fd_m2, Or.inl ⟨q7, rfl⟩⟩, rfl⟩
        | exact ret _ _ _ _ dX1_square_51 ⟨⟨_, fd_m1, Or.inr ⟨Classical.not_not.mp q7, Or.inr ⟨q19, rfl⟩⟩⟩, rfl⟩
        | exact ret _ _ _ _ dX1_square_51 ⟨⟨_, dv, Or.inr ⟨hin, Or.inl ⟨k, hk, rfl, rfl⟩⟩⟩, rfl⟩
    · skip
      refine gz_ldc2d E dX1_square_22 cwX1_square_149 ?_
      refine gz_goto (tgt := 51) E dX1_square_25 (by decide) ?_
      first
        | exact ret _ _ _ _ dX1_square_51 ⟨⟨_, fd_m2, Or.inl ⟨q7, rfl⟩⟩, rfl⟩
        | exact ret _ _ _ _ dX1_square_51 ⟨⟨_, fd_m1, Or.inr ⟨Classical.not_not.mp q7, Or.inr ⟨q19, rfl⟩⟩⟩, rfl⟩
        | exact ret _ _ _ _ dX1_square_51 ⟨⟨_, dv, Or.inr ⟨hin, Or.inl ⟨k, hk, rfl, rfl⟩⟩⟩, rfl⟩
  · skip
    refine gz_ldc2d E dX1_square_10 cwX1_square_147 ?_
    first
      | exact ret _ _ _ _ dX1_square_13 ⟨⟨_, fd_m2, Or.inl ⟨q7, rfl⟩⟩, rfl⟩
      | exact ret _ _ _ _ dX1_square_13 ⟨⟨_, fd_m1, Or.inr ⟨Classical.not_not.mp q7, Or.inr ⟨q19, rfl⟩⟩⟩, rfl⟩
      | exact ret _ _ _ _ dX1_square_13 ⟨⟨_, dv, Or.inr ⟨hin, Or.inl ⟨k, hk, rfl, rfl⟩⟩⟩, rfl⟩
end DR
