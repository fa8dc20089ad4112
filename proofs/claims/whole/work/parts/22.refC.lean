/-! the reference: ring, tree, add -/
section RC
variable {l : Launch} {D : va_G} {bd : Nat → Nat} {cI cJ : ClassId} {n mc ec kc : Nat} {X Y : Nat → Int} {LE MI GE CO LS GT GP : Nat → Nat} {tl : Int}
/-- what the plane gives the reference -/
def pg_PM (n : Nat) (X Y : Nat → Int) : Prop := (∃ p, p < n ∧ pg_IC n X Y p) ∧ (∀ a, a < n → pg_IC n X Y a → ∀ b, b < n → (pg_FO n X Y a b ↔ (b ≠ a ∧ pg_RS n X Y a b))) ∧ (∀ a b, a < n → pg_NX n X Y a b → pg_IC n X Y b) ∧ ∀ f k RG, f < n → pg_CH n X Y f k RG → k ≤ n
theorem pg_FS_NX {n a : Nat} {X Y : Nat → Int} {u : Int32} (h : pg_FS n X Y a n u) (hF : ∀ b, b < n → (pg_FO n X Y a b ↔ (b ≠ a ∧ pg_RS n X Y a b))) : (u = -1 ∧ pg_NN n X Y a) ∨ ∃ y, u = nI y ∧ pg_NX n X Y a y := by
  rcases h with ⟨h1, h2⟩ | ⟨y, h1, h2, h3, h4⟩
  · exact Or.inl ⟨h1, fun b hb hne hr => h2 b hb ((hF b hb).mpr ⟨hne, hr⟩)⟩
  · exact Or.inr ⟨y, h2, h1, ((hF y h1).mp h3).1, ((hF y h1).mp h3).2, fun c hc hne hr => h4 c hc ((hF c (by omega)).mpr ⟨hne, hr⟩)⟩
/-- the reference's ring -/
def pg_RJ (n : Nat) (X Y : Nat → Int) (ec : Nat) (CO : Nat → Nat) : Prop := ∃ f, f < n ∧ pg_IC n X Y f ∧ (∀ c, c < f → ¬ pg_IC n X Y c) ∧ 0 < ec ∧ ec ≤ 14 ∧ pg_CH n X Y f ec CO ∧ (pg_NX n X Y (CO (ec - 1)) f ∨ pg_NN n X Y (CO (ec - 1)))
abbrev rmX1_makeCorners : Room := { frames := 5, cells := 0, slots := 0, locals := 120 }
theorem inwX1_makeCorners : ∀ w ∈ wsX10, w ∈ wsX1_makeCorners := fun _ h => List.mem_cons_of_mem _ (List.mem_append_right _ h)
set_option maxRecDepth 20000 in
theorem flX1_makeCorners_86 : Cond.fieldLink RX1 86 RX1 (TX1 7).2.1 (TX1 7).2.2.1 ∈ wsX1_makeCorners := by decide +kernel
set_option maxRecDepth 20000 in
theorem flX1_makeCorners_26 : Cond.fieldLink RX1 26 RX1 (TX1 8).2.1 (TX1 8).2.2.1 ∈ wsX1_makeCorners := by decide +kernel
set_option maxRecDepth 20000 in
set_option maxHeartbeats 4000000 in
theorem mtX1_makeCorners (SB : pg_ok n X Y) (hPM : pg_PM n X Y) : gz_Kv l yX1_makeCorners wsX1_makeCorners rmX1_makeCorners D [(cI, .int), (cJ, .long)] [.ref (bd 0)] (wM bd cI cJ n X Y mc LE MI GE ec CO kc LS GT tl GP) (fun w1 => ∃ ec CO, w1 = (wM bd cI cJ n X Y mc LE MI GE ec CO kc LS GT tl GP) ∧ pg_RJ n X Y ec CO) := by
  refine gz_ofv (cc := cX1_makeCorners) (maxL := 3) (own := RX1) (by decide +kernel) rfl rfl rfl (Nat.le_of_ble_eq_true rfl) ?_
  intro z E ret
  have hn := SB.1
  show gz_G z _ 0 [(0, .ref (bd 0))] []
  have loop2 : ∀ (f0 : Nat), f0 < n → pg_IC n X Y f0 → (∀ c, c < f0 → ¬ pg_IC n X Y c) → ∀ (g k : Nat) (CO : Nat → Nat) (at0 : Int32), n + 1 < g + k → k ≤ n → pg_CH n X Y f0 k CO → ((∃ p, p < n ∧ at0 = nI p ∧ pg_IC n X Y p ∧ ((k = 0 ∧ p = f0) ∨ (0 < k ∧ pg_NX n X Y (CO (k - 1)) p))) ∨ (at0 = -1 ∧ 0 < k ∧ pg_NN n X Y (CO (k - 1)))) → gz_G z (wM bd cI cJ n X Y mc LE MI GE k CO kc LS GT tl GP) 23 [(0, .ref (bd 0)), (1, .int (nI f0)), (2, .int at0)] [] := by
    intro f0 hf hI hI2 g
    induction g with
    | zero => intro k CO at0 h1 h2; exact absurd h1 (by omega)
    | succ g ih =>
      intro k CO at0 h1 h2 hC hat
      rcases hat with ⟨p, hp, rfl, hIp, hp2⟩ | ⟨rfl, hk0, hz⟩
      · skip
        refine gz_aload_n E dX1_makeCorners_23 rfl rfl ?_
        refine gz_get E inwX1_makeCorners 0 7 dX1_makeCorners_24 flX1_makeCorners_86 rfl rfl (by decide) rfl rfl ?_
        refine gz_ifN_eq (tgt := 39) E dX1_makeCorners_27 (by decide) (by omega) (fun q27 => ?_) (fun q27 => ?_)
        · skip
          have hp3 : (k = 0 ∧ p = f0) ∨ (0 < k ∧ pg_NX n X Y (CO (k - 1)) p ∧ p ≠ f0) := by
            rcases hp2 with h | h
            · exact Or.inl h
            · exact Or.inr ⟨h.1, h.2, by omega⟩
          have hC2 := pg_CH_add hC hp hp3
          have hk1 := hPM.2.2.2 f0 (k + 1) _ hf hC2
          refine gz_aload_n E dX1_makeCorners_39 rfl rfl ?_
          refine gz_get E inwX1_makeCorners 0 8 dX1_makeCorners_40 flX1_makeCorners_26 rfl rfl (by decide) rfl rfl ?_
          refine gz_aload_n E dX1_makeCorners_43 rfl rfl ?_
          refine gz_get E inwX1_makeCorners 0 7 dX1_makeCorners_44 flX1_makeCorners_86 rfl rfl (by decide) rfl rfl ?_
          refine gz_iload_n E dX1_makeCorners_47 rfl rfl ?_
          refine gz_iastN E 6 0 dX1_makeCorners_48 rfl rfl (by decide) (by omega) ?_
          refine gz_w (ws' := (wM bd cI cJ n X Y mc LE MI GE k (fun i => if i = k then p else CO i) kc LS GT tl GP)) (by rw [gz_upN]; rfl) ?_
          refine gz_aload_n E dX1_makeCorners_49 rfl rfl ?_
          refine gz_dup E dX1_makeCorners_50 rfl ?_
          refine gz_get E inwX1_makeCorners 0 7 dX1_makeCorners_51 flX1_makeCorners_86 rfl rfl (by decide) rfl rfl ?_
          refine gz_iconst (v := nI 1) E dX1_makeCorners_54 (by decide) ?_
          refine gz_iaddN E dX1_makeCorners_55 ?_
          refine gz_put E inwX1_makeCorners 0 7 dX1_makeCorners_56 flX1_makeCorners_86 rfl rfl (by decide) rfl tyX1 tyX1_ok nmX1 rfl rfl rfl (Nat.le_of_ble_eq_true rfl) ?_
          refine gz_w (ws' := (wM bd cI cJ n X Y mc LE MI GE (k + 1) (fun i => if i = k then p else CO i) kc LS GT tl GP)) (by rfl) ?_
          refine gz_aload_n E dX1_makeCorners_59 rfl rfl ?_
          refine gz_iload_n E dX1_makeCorners_60 rfl rfl ?_
          refine gz_cali (n := 1) E 0 dX1_makeCorners_61 gX1_makeCorners_X1_following (mtX1_following SB (by assumption)) rfl rfl ⟨rfl, rfl⟩ (by decide +kernel) ⟨Nat.le_of_ble_eq_true rfl, Nat.le_of_ble_eq_true rfl⟩ rfl rfl rfl rfl (Nat.le_of_ble_eq_true rfl) (fun r61 w61 hr61 => ?_)
          obtain ⟨hr61, rfl⟩ := hr61
          refine gz_istore_n (lv' := [(0, _), (1, _), (2, _)]) E dX1_makeCorners_64 rfl (by decide) rfl ?_
          refine gz_goto (tgt := 23) E dX1_makeCorners_65 (by decide) ?_
          refine ih (k + 1) _ _ (by omega) (by omega) hC2 ?_
          rcases pg_FS_NX hr61 (hPM.2.1 p hp hIp) with ⟨e1, e2⟩ | ⟨y, e1, e2⟩
          · exact Or.inr ⟨e1, by omega, by simpa using e2⟩
          · exact Or.inl ⟨y, e2.1, e1, hPM.2.2.1 p y hp e2, Or.inr ⟨by omega, by simpa using e2⟩⟩
        · skip
          refine gz_iload_n E dX1_makeCorners_30 rfl rfl ?_
          refine gz_iload_n E dX1_makeCorners_31 rfl rfl ?_
          refine gz_icN_eq (tgt := 68) E dX1_makeCorners_32 (by decide) (by omega) (by omega) (fun q32 => ?_) (fun q32 => ?_)
          · skip
            rcases hp2 with h | h
            · exact absurd h.1 (by omega)
            · exact ret _ _ _ dX1_makeCorners_68 ⟨k, CO, rfl, f0, hf, hI, hI2, by omega, by omega, hC, Or.inl (by rw [← q32]; exact h.2)⟩
          · skip
            refine gz_iload_n E dX1_makeCorners_35 rfl rfl ?_
            refine gz_ifN_lt E dX1_makeCorners_36 68 (by decide) (by omega) ?_
            have hp3 : (k = 0 ∧ p = f0) ∨ (0 < k ∧ pg_NX n X Y (CO (k - 1)) p ∧ p ≠ f0) := by
              rcases hp2 with h | h
              · exact Or.inl h
              · exact Or.inr ⟨h.1, h.2, by omega⟩
            have hC2 := pg_CH_add hC hp hp3
            have hk1 := hPM.2.2.2 f0 (k + 1) _ hf hC2
            refine gz_aload_n E dX1_makeCorners_39 rfl rfl ?_
            refine gz_get E inwX1_makeCorners 0 8 dX1_makeCorners_40 flX1_makeCorners_26 rfl rfl (by decide) rfl rfl ?_
            refine gz_aload_n E dX1_makeCorners_43 rfl rfl ?_
            refine gz_get E inwX1_makeCorners 0 7 dX1_makeCorners_44 flX1_makeCorners_86 rfl rfl (by decide) rfl rfl ?_
            refine gz_iload_n E dX1_makeCorners_47 rfl rfl ?_
            refine gz_iastN E 6 0 dX1_makeCorners_48 rfl rfl (by decide) (by omega) ?_
            refine gz_w (ws' := (wM bd cI cJ n X Y mc LE MI GE k (fun i => if i = k then p else CO i) kc LS GT tl GP)) (by rw [gz_upN]; rfl) ?_
            refine gz_aload_n E dX1_makeCorners_49 rfl rfl ?_
            refine gz_dup E dX1_makeCorners_50 rfl ?_
            refine gz_get E inwX1_makeCorners 0 7 dX1_makeCorners_51 flX1_makeCorners_86 rfl rfl (by decide) rfl rfl ?_
            refine gz_iconst (v := nI 1) E dX1_makeCorners_54 (by decide) ?_
            refine gz_iaddN E dX1_makeCorners_55 ?_
            refine gz_put E inwX1_makeCorners 0 7 dX1_makeCorners_56 flX1_makeCorners_86 rfl rfl (by decide) rfl tyX1 tyX1_ok nmX1 rfl rfl rfl (Nat.le_of_ble_eq_true rfl) ?_
            refine gz_w (ws' := (wM bd cI cJ n X Y mc LE MI GE (k + 1) (fun i => if i = k then p else CO i) kc LS GT tl GP)) (by rfl) ?_
            refine gz_aload_n E dX1_makeCorners_59 rfl rfl ?_
            refine gz_iload_n E dX1_makeCorners_60 rfl rfl ?_
            refine gz_cali (n := 1) E 0 dX1_makeCorners_61 gX1_makeCorners_X1_following (mtX1_following SB (by assumption)) rfl rfl ⟨rfl, rfl⟩ (by decide +kernel) ⟨Nat.le_of_ble_eq_true rfl, Nat.le_of_ble_eq_true rfl⟩ rfl rfl rfl rfl (Nat.le_of_ble_eq_true rfl) (fun r61 w61 hr61 => ?_)
            obtain ⟨hr61, rfl⟩ := hr61
            refine gz_istore_n (lv' := [(0, _), (1, _), (2, _)]) E dX1_makeCorners_64 rfl (by decide) rfl ?_
            refine gz_goto (tgt := 23) E dX1_makeCorners_65 (by decide) ?_
            refine ih (k + 1) _ _ (by omega) (by omega) hC2 ?_
            rcases pg_FS_NX hr61 (hPM.2.1 p hp hIp) with ⟨e1, e2⟩ | ⟨y, e1, e2⟩
            · exact Or.inr ⟨e1, by omega, by simpa using e2⟩
            · exact Or.inl ⟨y, e2.1, e1, hPM.2.2.1 p y hp e2, Or.inr ⟨by omega, by simpa using e2⟩⟩
      · skip
        refine gz_aload_n E dX1_makeCorners_23 rfl rfl ?_
        refine gz_get E inwX1_makeCorners 0 7 dX1_makeCorners_24 flX1_makeCorners_86 rfl rfl (by decide) rfl rfl ?_
        refine gz_ifN_eq (tgt := 39) E dX1_makeCorners_27 (by decide) (by omega) (fun q27 => ?_) (fun q27 => ?_)
        · exact absurd q27 (by omega)
        · skip
          refine gz_iload_n E dX1_makeCorners_30 rfl rfl ?_
          refine gz_iload_n E dX1_makeCorners_31 rfl rfl ?_
          refine gz_icmp_eq (tgt := 68) E dX1_makeCorners_32 (by decide) (fun q32 => ?_) (fun q32 => ?_)
          · exact absurd q32 (fun e => nI_pos (n := f0) (by omega) (e ▸ by decide))
          · skip
            refine gz_iload_n E dX1_makeCorners_35 rfl rfl ?_
            refine gz_if_lt (tgt := 68) E dX1_makeCorners_36 (by decide) (fun q36 => ?_) (fun q36 => ?_)
            · skip
              exact ret _ _ _ dX1_makeCorners_68 ⟨k, CO, rfl, f0, hf, hI, hI2, hk0, by omega, hC, Or.inr hz⟩
            · exact absurd (by decide) q36
  obtain ⟨p0, hp0, hI0⟩ := hPM.1
  have loop1 : ∀ (g k : Nat), n < g + k → k ≤ p0 → (∀ i, i < k → ¬ pg_IC n X Y i) → gz_G z (wM bd cI cJ n X Y mc LE MI GE 0 CO kc LS GT tl GP) 7 [(0, .ref (bd 0)), (1, .int (nI k))] [] := by
    intro g
    induction g with
    | zero => intro k h1 h2; exact absurd h1 (by omega)
    | succ g ih =>
      intro k h1 h2 h3
      have hk : k < n := by omega
      refine gz_aload_n E dX1_makeCorners_7 rfl rfl ?_
      refine gz_iload_n E dX1_makeCorners_8 rfl rfl ?_
      refine gz_cali (n := 1) E 0 dX1_makeCorners_9 gX1_makeCorners_X1_isCorner (mtX1_isCorner SB (by assumption)) rfl rfl ⟨rfl, rfl⟩ (by decide +kernel) ⟨Nat.le_of_ble_eq_true rfl, Nat.le_of_ble_eq_true rfl⟩ rfl rfl rfl rfl (Nat.le_of_ble_eq_true rfl) (fun r9 w9 hr9 => ?_)
      obtain ⟨hr9, rfl⟩ := hr9
      refine gz_ifB_ne (tgt := 21) E hr9 dX1_makeCorners_12 (by decide) (fun q12 => ?_) (fun q12 => ?_)
      · skip
        refine gz_iload_n E dX1_makeCorners_21 rfl rfl ?_
        refine gz_istore_n (lv' := [(0, _), (1, _), (2, _)]) E dX1_makeCorners_22 rfl (by decide) rfl ?_
        exact loop2 k hk q12 h3 (n + 2) 0 _ _ (by omega) (by omega) pg_CH_0 (Or.inl ⟨k, hk, rfl, q12, Or.inl ⟨rfl, rfl⟩⟩)
      · skip
        refine gz_iinc (lv' := [(0, _), (1, _)]) E dX1_makeCorners_15 rfl (gz_nI1 _) (by decide) rfl ?_
        refine gz_goto (tgt := 7) E dX1_makeCorners_18 (by decide) ?_
        exact ih (k + 1) (by omega) (by have e : k ≠ p0 := (fun e => q12 (e ▸ hI0)); omega) (pg_lt_s h3 q12)
  refine gz_aload_n E dX1_makeCorners_0 rfl rfl ?_
  refine gz_iconst (v := nI 0) E dX1_makeCorners_1 (by decide) ?_
  refine gz_put E inwX1_makeCorners 0 7 dX1_makeCorners_2 flX1_makeCorners_86 rfl rfl (by decide) rfl tyX1 tyX1_ok nmX1 rfl rfl rfl (Nat.le_of_ble_eq_true rfl) ?_
  refine gz_w (ws' := (wM bd cI cJ n X Y mc LE MI GE 0 CO kc LS GT tl GP)) (by rfl) ?_
  refine gz_iconst (v := nI 0) E dX1_makeCorners_5 (by decide) ?_
  refine gz_istore_n (lv' := [(0, _), (1, _)]) E dX1_makeCorners_6 rfl (by decide) rfl ?_
  exact loop1 (n + 1) 0 (by omega) (by omega) (fun i hi => absurd hi (by omega))
abbrev rmX1_before : Room := { frames := 1, cells := 0, slots := 0, locals := 22 }
set_option maxRecDepth 20000 in
set_option maxHeartbeats 4000000 in
theorem mtX1_before (SB : pg_ok n X Y) {a b c d : Nat} (ha : a < n) (hb : b < n) (hc : c < n) (hd : d < n) : gz_Ki l yX1_before wsX1_before rmX1_before D [(cI, .int), (cJ, .long)] [.ref (bd 0), .int (nI a), .int (nI b), .int (nI c), .int (nI d)] (wM bd cI cJ n X Y mc LE MI GE ec CO kc LS GT tl GP) (fun r w1 => gz_B r (pg_gp X Y a b < pg_gp X Y c d ∨ (pg_gp X Y a b = pg_gp X Y c d ∧ (a < c ∨ (a = c ∧ b < d)))) ∧ w1 = (wM bd cI cJ n X Y mc LE MI GE ec CO kc LS GT tl GP)) := by
  refine gz_ofi (cc := cX1_before) (maxL := 9) (own := RX1) (by decide +kernel) rfl rfl rfl (Nat.le_of_ble_eq_true rfl) ?_
  intro z E ret
  have hn := SB.1
  have g1 := pg_gp_b SB ha hb
  have g2 := pg_gp_b SB hc hd
  have s1 := pg_gp_s (X := X) (Y := Y) a b
  have s2 := pg_gp_s (X := X) (Y := Y) c d
  show gz_G z _ 0 [(0, .ref (bd 0)), (1, .int (nI a)), (2, .int (nI b)), (3, .int (nI c)), (4, .int (nI d))] []
  refine gz_aload_n E dX1_before_0 rfl rfl ?_
  refine gz_iload_n E dX1_before_1 rfl rfl ?_
  refine gz_iload_n E dX1_before_2 rfl rfl ?_
  refine gz_call (n := 2) E 0 dX1_before_3 gX1_before_X1_apart (mtX1_apart SB (by assumption) (by assumption)) rfl rfl ⟨rfl, rfl⟩ (by decide +kernel) ⟨Nat.le_of_ble_eq_true rfl, Nat.le_of_ble_eq_true rfl⟩ rfl rfl rfl rfl (Nat.le_of_ble_eq_true rfl) (fun r3 w3 hr3 => ?_)
  obtain ⟨rfl, rfl⟩ := hr3
  refine gz_lstore (lv' := [(0, _), (1, _), (2, _), (3, _), (4, _), (5, _)]) E dX1_before_6 (by decide) rfl ?_
  refine gz_aload_n E dX1_before_8 rfl rfl ?_
  refine gz_iload_n E dX1_before_9 rfl rfl ?_
  refine gz_iload E dX1_before_10 rfl ?_
  refine gz_call (n := 2) E 0 dX1_before_12 gX1_before_X1_apart (mtX1_apart SB (by assumption) (by assumption)) rfl rfl ⟨rfl, rfl⟩ (by decide +kernel) ⟨Nat.le_of_ble_eq_true rfl, Nat.le_of_ble_eq_true rfl⟩ rfl rfl rfl rfl (Nat.le_of_ble_eq_true rfl) (fun r12 w12 hr12 => ?_)
  obtain ⟨rfl, rfl⟩ := hr12
  refine gz_lstore (lv' := [(0, _), (1, _), (2, _), (3, _), (4, _), (5, _), (7, _)]) E dX1_before_15 (by decide) rfl ?_
  refine gz_lload E dX1_before_17 rfl ?_
  refine gz_lload E dX1_before_19 rfl ?_
  refine gz_lcL_lt (tgt := 49) E dX1_before_21 dX1_before_22 (by decide) (by omega) (by omega) (by omega) (by omega) (fun q21 => ?_) (fun q21 => ?_)
  · skip
    refine gz_iconst (v := 1) E dX1_before_49 (by decide) ?_
    refine gz_goto (tgt := 54) E dX1_before_50 (by decide) ?_
    exact ret _ _ _ _ dX1_before_54 rfl ⟨by first | exact gz_B_t (by omega) | exact gz_B_f (by omega), rfl⟩
  · skip
    refine gz_lload E dX1_before_25 rfl ?_
    refine gz_lload E dX1_before_27 rfl ?_
    refine gz_lcL_ne (tgt := 53) E dX1_before_29 dX1_before_30 (by decide) (by omega) (by omega) (by omega) (by omega) (fun q29 => ?_) (fun q29 => ?_)
    · skip
      refine gz_iconst (v := 0) E dX1_before_53 (by decide) ?_
      exact ret _ _ _ _ dX1_before_54 rfl ⟨by first | exact gz_B_t (by omega) | exact gz_B_f (by omega), rfl⟩
    · skip
      refine gz_iload_n E dX1_before_33 rfl rfl ?_
      refine gz_iload_n E dX1_before_34 rfl rfl ?_
      refine gz_icN_lt (tgt := 49) E dX1_before_35 (by decide) (by omega) (by omega) (fun q35 => ?_) (fun q35 => ?_)
      · skip
        refine gz_iconst (v := 1) E dX1_before_49 (by decide) ?_
        refine gz_goto (tgt := 54) E dX1_before_50 (by decide) ?_
        exact ret _ _ _ _ dX1_before_54 rfl ⟨by first | exact gz_B_t (by omega) | exact gz_B_f (by omega), rfl⟩
      · skip
        refine gz_iload_n E dX1_before_38 rfl rfl ?_
        refine gz_iload_n E dX1_before_39 rfl rfl ?_
        refine gz_icN_ne (tgt := 53) E dX1_before_40 (by decide) (by omega) (by omega) (fun q40 => ?_) (fun q40 => ?_)
        · skip
          refine gz_iconst (v := 0) E dX1_before_53 (by decide) ?_
          exact ret _ _ _ _ dX1_before_54 rfl ⟨by first | exact gz_B_t (by omega) | exact gz_B_f (by omega), rfl⟩
        · skip
          refine gz_iload_n E dX1_before_43 rfl rfl ?_
          refine gz_iload E dX1_before_44 rfl ?_
          refine gz_icN_ge (tgt := 53) E dX1_before_46 (by decide) (by omega) (by omega) (fun q46 => ?_) (fun q46 => ?_)
          · skip
            refine gz_iconst (v := 0) E dX1_before_53 (by decide) ?_
            exact ret _ _ _ _ dX1_before_54 rfl ⟨by first | exact gz_B_t (by omega) | exact gz_B_f (by omega), rfl⟩
          · skip
            refine gz_iconst (v := 1) E dX1_before_49 (by decide) ?_
            refine gz_goto (tgt := 54) E dX1_before_50 (by decide) ?_
            exact ret _ _ _ _ dX1_before_54 rfl ⟨by first | exact gz_B_t (by omega) | exact gz_B_f (by omega), rfl⟩
theorem gz_grp_no2 {GR : Nat → Nat} {k x y : Nat} (h : GR k ≠ GR y) : (fun i => if i = k then GR k else (if i < k ∧ GR i = GR y then GR x else GR i)) = fun i => if i < k + 1 ∧ GR i = GR y then GR x else GR i := by
  funext i
  by_cases e : i = k
  · subst e
    simp [h]
  · have : (i < k + 1) ↔ i < k := by omega
    simp only [if_neg e, this]
/-- the reference's tree after s edges -/
def pg_TJ (n : Nat) (X Y : Nat → Int) (E : Nat → Nat → Prop) (s : Nat) (LS GT : Nat → Nat) (tl : Int) (GP : Nat → Nat) : Prop := pg_TS n X Y E LS GT s ∧ tl = pg_tot X Y LS GT s ∧ ∀ i, i < n → GP i = pg_gr n LS GT s i
theorem pg_TJ_0 {n : Nat} {X Y : Nat → Int} {E : Nat → Nat → Prop} {LS GT GP : Nat → Nat} (h : ∀ i, i < n → GP i = i) : pg_TJ n X Y E 0 LS GT 0 GP := ⟨fun t ht => absurd ht (by omega), rfl, fun i hi => by rw [h i hi]; rfl⟩
theorem pg_TJ_step {n : Nat} {X Y : Nat → Int} {E : Nat → Nat → Prop} {s x y : Nat} {LS GT GP : Nat → Nat} {tl : Int} (h : pg_TJ n X Y E s LS GT tl GP) (hs : pg_SEL n X Y E GP x y) : pg_TJ n X Y E (s + 1) (fun i => if i = s then x else LS i) (fun i => if i = s then y else GT i) (tl + pg_gp X Y y x) (fun i => if i < n ∧ GP i = GP y then GP x else GP i) := by
  obtain ⟨h1, h2, h4⟩ := h
  have hxy := hs.1.1
  have hy := hs.1.2.1
  have c : ∀ t, t < s → LS t = (fun i => if i = s then x else LS i) t ∧ GT t = (fun i => if i = s then y else GT i) t := fun v hv => by
    have : v ≠ s := by omega
    simp [this]
  refine ⟨pg_TS_add h1 (pg_SEL_c (fun _ _ _ _ => Iff.rfl) h4 hs), ?_, fun i hi => ?_⟩
  · show tl + pg_gp X Y y x = pg_tot X Y _ _ s + pg_gp X Y ((fun i => if i = s then x else LS i) s) ((fun i => if i = s then y else GT i) s)
    rw [← pg_tot_c s c, ← h2, pg_gp_s y x]
    simp
  · have e1 : (fun i => if i = s then x else LS i) s = x := by simp
    have e2 : (fun i => if i = s then y else GT i) s = y := by simp
    show (if i < n ∧ GP i = GP y then GP x else GP i) = if i < n ∧ pg_gr n _ _ s i = pg_gr n _ _ s ((fun i => if i = s then y else GT i) s) then pg_gr n _ _ s ((fun i => if i = s then x else LS i) s) else pg_gr n _ _ s i
    rw [e1, e2, ← pg_gr_c s c i, ← pg_gr_c s c y, ← pg_gr_c s c x, h4 i hi, h4 y hy, h4 x (by omega)]
theorem pg_TJ_more {n s : Nat} {X Y : Nat → Int} {E : Nat → Nat → Prop} {LS GT GP : Nat → Nat} {tl : Int} (h : pg_TJ n X Y E s LS GT tl GP) (hs : s + 1 < n) : ∃ i j, i < n ∧ j < n ∧ GP i ≠ GP j := by
  obtain ⟨i, j, hi, hj, e⟩ := pg_TS_more hs h.1
  exact ⟨i, j, hi, hj, by rw [h.2.2 i hi, h.2.2 j hj]; exact e⟩
theorem pg_TJ_lt {n s : Nat} {X Y : Nat → Int} {E : Nat → Nat → Prop} {LS GT GP : Nat → Nat} {tl : Int} (h : pg_TJ n X Y E s LS GT tl GP) : ∀ i, i < n → GP i < n := fun i hi => by
  rw [h.2.2 i hi]
  exact pg_gr_lt s h.1 i hi
theorem pg_EN_14 {n q mc : Nat} {X Y : Nat → Int} {LE MI GE : Nat → Nat} (hn : n ≤ 14) (h : pg_EN n X Y q mc LE MI GE) : ∀ t, t < mc → LE t < 14 ∧ MI t < 14 ∧ GE t < 14 := fun t ht => by
  have := pg_TR_lt (h.1 t ht).1
  omega
abbrev rmX1_makeTree : Room := { frames := 4, cells := 0, slots := 0, locals := 93 }
theorem inwX1_makeTree : ∀ w ∈ wsX10, w ∈ wsX1_makeTree := fun _ h => List.mem_cons_of_mem _ (List.mem_append_right _ h)
set_option maxRecDepth 20000 in
theorem flX1_makeTree_56 : Cond.fieldLink RX1 56 RX1 (TX1 0).2.1 (TX1 0).2.2.1 ∈ wsX1_makeTree := by decide +kernel
set_option maxRecDepth 20000 in
theorem flX1_makeTree_35 : Cond.fieldLink RX1 35 RX1 (TX1 13).2.1 (TX1 13).2.2.1 ∈ wsX1_makeTree := by decide +kernel
set_option maxRecDepth 20000 in
theorem flX1_makeTree_29 : Cond.fieldLink RX1 29 RX1 (TX1 10).2.1 (TX1 10).2.2.1 ∈ wsX1_makeTree := by decide +kernel
set_option maxRecDepth 20000 in
theorem flX1_makeTree_93 : Cond.fieldLink RX1 93 RX1 (TX1 9).2.1 (TX1 9).2.2.1 ∈ wsX1_makeTree := by decide +kernel
set_option maxRecDepth 20000 in
theorem flX1_makeTree_32 : Cond.fieldLink RX1 32 RX1 (TX1 11).2.1 (TX1 11).2.2.1 ∈ wsX1_makeTree := by decide +kernel
set_option maxRecDepth 20000 in
theorem flX1_makeTree_96 : Cond.fieldLink RX1 96 RX1 (TX1 12).2.1 (TX1 12).2.2.1 ∈ wsX1_makeTree := by decide +kernel
set_option maxRecDepth 20000 in
set_option maxHeartbeats 4000000 in
theorem mtX1_makeTree (SB : pg_ok n X Y) (hn0 : 0 < n) (hm : mc ≤ 23) (hT : ∀ t, t < mc → LE t < 14 ∧ MI t < 14 ∧ GE t < 14) (hcon : ∀ GR : Nat → Nat, (∃ i j, i < n ∧ j < n ∧ GR i ≠ GR j) → ∃ a b, pg_CA n (pg_ER n X Y mc LE MI GE) GR a b) : gz_Kv l yX1_makeTree wsX1_makeTree rmX1_makeTree D [(cI, .int), (cJ, .long)] [.ref (bd 0)] (wM bd cI cJ n X Y mc LE MI GE ec CO kc LS GT tl GP) (fun w1 => ∃ LS GT tl GP, w1 = (wM bd cI cJ n X Y mc LE MI GE ec CO (n - 1) LS GT tl GP) ∧ pg_TJ n X Y (pg_ER n X Y mc LE MI GE) (n - 1) LS GT tl GP) := by
  refine gz_ofv (cc := cX1_makeTree) (maxL := 6) (own := RX1) (by decide +kernel) rfl rfl rfl (Nat.le_of_ble_eq_true rfl) ?_
  intro z E ret
  have hn := SB.1
  show gz_G z _ 0 [(0, .ref (bd 0))] []
  have loopB : ∀ (f s : Nat) (LS GT : Nat → Nat) (tl : Int) (GP : Nat → Nat), n < f + s → s + 1 ≤ n → pg_TJ n X Y (pg_ER n X Y mc LE MI GE) s LS GT tl GP → gz_G z (wM bd cI cJ n X Y mc LE MI GE ec CO s LS GT tl GP) 35 [(0, .ref (bd 0)), (1, .int (nI (s + 1)))] [] := by
    intro f
    induction f with
    | zero => intro s LS GT tl GP h1 h2; exact absurd h1 (by omega)
    | succ f ihS =>
      intro s LS GT tl GP h1 h2 hJ
      have hG := pg_TJ_lt hJ
      have loopG : s + 1 < n → ∀ (x y : Nat), x < y → y < n → pg_SEL n X Y (pg_ER n X Y mc LE MI GE) GP x y → ∀ (g k : Nat), n < g + k → k ≤ n → gz_G z (wM bd cI cJ n X Y mc LE MI GE ec CO (s + 1) (fun i => if i = s then x else LS i) (fun i => if i = s then y else GT i) (tl + pg_gp X Y y x) (fun i => if i < k ∧ GP i = GP y then GP x else GP i)) 193 [(0, .ref (bd 0)), (1, .int (nI (s + 1))), (2, .int (nI x)), (3, .int (nI y)), (4, .int (nI (GP y))), (5, .int (nI k))] [] := by
        intro hs1 x y hxy hy hsel g
        induction g with
        | zero => intro k g1 g2; exact absurd g1 (by omega)
        | succ g ihG =>
          intro k g1 g2
          refine gz_iload E dX1_makeTree_193 rfl ?_
          refine gz_aload_n E dX1_makeTree_195 rfl rfl ?_
          refine gz_get E inwX1_makeTree 0 0 dX1_makeTree_196 flX1_makeTree_56 rfl rfl (by decide) rfl rfl ?_
          refine gz_icN_ge (tgt := 243) E dX1_makeTree_199 (by decide) (by omega) (by omega) (fun q199 => ?_) (fun q199 => ?_)
          · skip
            refine gz_iinc (lv' := [(0, _), (1, _), (2, _), (3, _), (4, _), (5, _)]) E dX1_makeTree_243 rfl (gz_nI1 _) (by decide) rfl ?_
            refine gz_goto (tgt := 35) E dX1_makeTree_246 (by decide) ?_
            refine gz_sub (lv' := [(0, _), (1, _)]) [0, 1] rfl ?_
            have e : k = n := by omega
            subst e
            exact ihS (s + 1) _ _ _ _ (by omega) (by omega) (pg_TJ_step hJ hsel)
          · skip
            have hGk := hG k (by omega)
            have hGy := hG y hy
            have hGx := hG x (by omega)
            refine gz_aload_n E dX1_makeTree_202 rfl rfl ?_
            refine gz_get E inwX1_makeTree 0 13 dX1_makeTree_203 flX1_makeTree_35 rfl rfl (by decide) rfl rfl ?_
            refine gz_iload E dX1_makeTree_206 rfl ?_
            refine gz_aload_n E dX1_makeTree_208 rfl rfl ?_
            refine gz_get E inwX1_makeTree 0 13 dX1_makeTree_209 flX1_makeTree_35 rfl rfl (by decide) rfl rfl ?_
            refine gz_iload E dX1_makeTree_212 rfl ?_
            refine gz_ialdN (v := nI (GP k)) E 9 0 dX1_makeTree_214 rfl rfl (by decide) (by simp) (by omega) ?_
            refine gz_iload E dX1_makeTree_215 rfl ?_
            refine gz_icN_ne (tgt := 229) E dX1_makeTree_217 (by decide) (by omega) (by omega) (fun q217 => ?_) (fun q217 => ?_)
            · skip
              refine gz_aload_n E dX1_makeTree_229 rfl rfl ?_
              refine gz_get E inwX1_makeTree 0 13 dX1_makeTree_230 flX1_makeTree_35 rfl rfl (by decide) rfl rfl ?_
              refine gz_iload E dX1_makeTree_233 rfl ?_
              refine gz_ialdN (v := nI (GP k)) E 9 0 dX1_makeTree_235 rfl rfl (by decide) (by simp) (by omega) ?_
              refine gz_iastN E 9 0 dX1_makeTree_236 rfl rfl (by decide) (by omega) ?_
              refine gz_w (ws' := (wM bd cI cJ n X Y mc LE MI GE ec CO (s + 1) (fun i => if i = s then x else LS i) (fun i => if i = s then y else GT i) (tl + pg_gp X Y y x) (fun i => if i < (k + 1) ∧ GP i = GP y then GP x else GP i))) (by rw [gz_upN]; first | exact congrArg (wM bd cI cJ n X Y mc LE MI GE ec CO (s + 1) (fun i => if i = s then x else LS i) (fun i => if i = s then y else GT i) (tl + pg_gp X Y y x)) (gz_grp_yes q217) | exact congrArg (wM bd cI cJ n X Y mc LE MI GE ec CO (s + 1) (fun i => if i = s then x else LS i) (fun i => if i = s then y else GT i) (tl + pg_gp X Y y x)) (gz_grp_no2 q217)) ?_
              refine gz_iinc (lv' := [(0, _), (1, _), (2, _), (3, _), (4, _), (5, _)]) E dX1_makeTree_237 rfl (gz_nI1 _) (by decide) rfl ?_
              refine gz_goto (tgt := 193) E dX1_makeTree_240 (by decide) ?_
              exact ihG (k + 1) (by omega) (by omega)
            · skip
              refine gz_aload_n E dX1_makeTree_220 rfl rfl ?_
              refine gz_get E inwX1_makeTree 0 13 dX1_makeTree_221 flX1_makeTree_35 rfl rfl (by decide) rfl rfl ?_
              refine gz_iload_n E dX1_makeTree_224 rfl rfl ?_
              refine gz_ialdN (v := nI (GP x)) E 9 0 dX1_makeTree_225 rfl rfl (by decide) (by simp) (by omega) ?_
              refine gz_goto (tgt := 236) E dX1_makeTree_226 (by decide) ?_
              refine gz_iastN E 9 0 dX1_makeTree_236 rfl rfl (by decide) (by omega) ?_
              refine gz_w (ws' := (wM bd cI cJ n X Y mc LE MI GE ec CO (s + 1) (fun i => if i = s then x else LS i) (fun i => if i = s then y else GT i) (tl + pg_gp X Y y x) (fun i => if i < (k + 1) ∧ GP i = GP y then GP x else GP i))) (by rw [gz_upN]; first | exact congrArg (wM bd cI cJ n X Y mc LE MI GE ec CO (s + 1) (fun i => if i = s then x else LS i) (fun i => if i = s then y else GT i) (tl + pg_gp X Y y x)) (gz_grp_yes q217) | exact congrArg (wM bd cI cJ n X Y mc LE MI GE ec CO (s + 1) (fun i => if i = s then x else LS i) (fun i => if i = s then y else GT i) (tl + pg_gp X Y y x)) (gz_grp_no2 q217)) ?_
              refine gz_iinc (lv' := [(0, _), (1, _), (2, _), (3, _), (4, _), (5, _)]) E dX1_makeTree_237 rfl (gz_nI1 _) (by decide) rfl ?_
              refine gz_goto (tgt := 193) E dX1_makeTree_240 (by decide) ?_
              exact ihG (k + 1) (by omega) (by omega)
      have loopA : s + 1 < n → ∀ (g a : Nat) (u v : Int32) (d : Int64), n < g + a → a ≤ n → pg_ST n X Y (pg_ER n X Y mc LE MI GE) GP (a * 16) u v d → gz_G z (wM bd cI cJ n X Y mc LE MI GE ec CO s LS GT tl GP) 50 [(0, .ref (bd 0)), (1, .int (nI (s + 1))), (2, .int u), (3, .int v), (4, .int (nI a))] [] := by
        intro hs1 g
        induction g with
        | zero => intro a u v d g1 g2; exact absurd g1 (by omega)
        | succ g ihA =>
          intro a u v d g1 g2 hE
          have loopC : a < n → ∀ (h b : Nat) (u v : Int32) (d : Int64), n < h + b → a < b → b ≤ n → pg_ST n X Y (pg_ER n X Y mc LE MI GE) GP (a * 16 + b) u v d → gz_G z (wM bd cI cJ n X Y mc LE MI GE ec CO s LS GT tl GP) 65 [(0, .ref (bd 0)), (1, .int (nI (s + 1))), (2, .int u), (3, .int v), (4, .int (nI a)), (5, .int (nI b))] [] := by
            intro han h
            induction h with
            | zero => intro b u v d j1 j2 j3; exact absurd j1 (by omega)
            | succ h ihC =>
              intro b u v d j1 j2 j3 hE
              refine gz_iload E dX1_makeTree_65 rfl ?_
              refine gz_aload_n E dX1_makeTree_67 rfl rfl ?_
              refine gz_get E inwX1_makeTree 0 0 dX1_makeTree_68 flX1_makeTree_56 rfl rfl (by decide) rfl rfl ?_
              refine gz_icN_ge (tgt := 131) E dX1_makeTree_71 (by decide) (by omega) (by omega) (fun q71 => ?_) (fun q71 => ?_)
              · skip
                refine gz_iinc (lv' := [(0, _), (1, _), (2, _), (3, _), (4, _), (5, _)]) E dX1_makeTree_131 rfl (gz_nI1 _) (by decide) rfl ?_
                refine gz_goto (tgt := 50) E dX1_makeTree_134 (by decide) ?_
                refine gz_sub (lv' := [(0, _), (1, _), (2, _), (3, _), (4, _)]) [0, 1, 2, 3, 4] rfl ?_
                have e : b = n := by omega
                subst e
                exact ihA (a + 1) _ _ _ (by omega) (by omega) (pg_ST_jump hE (by omega) (fun i j _ _ _ => by omega))
              · skip
                have ha : a < n := by omega
                have hb : b < n := by omega
                have hGa := hG a ha
                have hGb := hG b hb
                refine gz_aload_n E dX1_makeTree_74 rfl rfl ?_
                refine gz_get E inwX1_makeTree 0 13 dX1_makeTree_75 flX1_makeTree_35 rfl rfl (by decide) rfl rfl ?_
                refine gz_iload E dX1_makeTree_78 rfl ?_
                refine gz_ialdN E 9 0 dX1_makeTree_80 rfl rfl (by decide) rfl (by omega) ?_
                refine gz_aload_n E dX1_makeTree_81 rfl rfl ?_
                refine gz_get E inwX1_makeTree 0 13 dX1_makeTree_82 flX1_makeTree_35 rfl rfl (by decide) rfl rfl ?_
                refine gz_iload E dX1_makeTree_85 rfl ?_
                refine gz_ialdN E 9 0 dX1_makeTree_87 rfl rfl (by decide) rfl (by omega) ?_
                refine gz_icN_eq (tgt := 125) E dX1_makeTree_88 (by decide) (by omega) (by omega) (fun q88 => ?_) (fun q88 => ?_)
                · skip
                  refine gz_iinc (lv' := [(0, _), (1, _), (2, _), (3, _), (4, _), (5, _)]) E dX1_makeTree_125 rfl (gz_nI1 _) (by decide) rfl ?_
                  refine gz_goto (tgt := 65) E dX1_makeTree_128 (by decide) ?_
                  first
                    | exact ihC (b + 1) _ _ _ (by omega) (by omega) (by omega) (pg_ST_skip hn hb hE (fun q => q.2.2.2 q88))
                    | exact ihC (b + 1) _ _ _ (by omega) (by omega) (by omega) (pg_ST_skip hn hb hE (fun q => q116 q.2.2.1))
                    | exact ihC (b + 1) _ _ _ (by omega) (by omega) (by omega) (pg_ST_keep SB ha hb hE q92 (hle.mpr (by omega)))
                    | exact ihC (b + 1) _ _ _ (by omega) (by omega) (by omega) (pg_ST_new SB hE ⟨j2, hb, q116, q88⟩ (Or.inl q92))
                    | exact ihC (b + 1) _ _ _ (by omega) (by omega) (by omega) (pg_ST_new SB hE ⟨j2, hb, q116, q88⟩ (Or.inr (fun q => absurd (hle.mp q) (by omega))))
                · skip
                  refine gz_iload_n E dX1_makeTree_91 rfl rfl ?_
                  refine gz_if_lt (tgt := 108) E dX1_makeTree_92 (by decide) (fun q92 => ?_) (fun q92 => ?_)
                  · skip
                    refine gz_aload_n E dX1_makeTree_108 rfl rfl ?_
                    refine gz_iload E dX1_makeTree_109 rfl ?_
                    refine gz_iload E dX1_makeTree_111 rfl ?_
                    refine gz_cali (n := 2) E 0 dX1_makeTree_113 gX1_makeTree_X1_edge (mtX1_edge SB hm hT ha hb) rfl rfl ⟨rfl, rfl⟩ (by decide +kernel) ⟨Nat.le_of_ble_eq_true rfl, Nat.le_of_ble_eq_true rfl⟩ rfl rfl rfl rfl (Nat.le_of_ble_eq_true rfl) (fun r113 w113 hr113 => ?_)
                    obtain ⟨hr113, rfl⟩ := hr113
                    refine gz_ifB_eq (tgt := 125) E hr113 dX1_makeTree_116 (by decide) (fun q116 => ?_) (fun q116 => ?_)
                    · skip
                      refine gz_iinc (lv' := [(0, _), (1, _), (2, _), (3, _), (4, _), (5, _)]) E dX1_makeTree_125 rfl (gz_nI1 _) (by decide) rfl ?_
                      refine gz_goto (tgt := 65) E dX1_makeTree_128 (by decide) ?_
                      first
                        | exact ihC (b + 1) _ _ _ (by omega) (by omega) (by omega) (pg_ST_skip hn hb hE (fun q => q.2.2.2 q88))
                        | exact ihC (b + 1) _ _ _ (by omega) (by omega) (by omega) (pg_ST_skip hn hb hE (fun q => q116 q.2.2.1))
                        | exact ihC (b + 1) _ _ _ (by omega) (by omega) (by omega) (pg_ST_keep SB ha hb hE q92 (hle.mpr (by omega)))
                        | exact ihC (b + 1) _ _ _ (by omega) (by omega) (by omega) (pg_ST_new SB hE ⟨j2, hb, q116, q88⟩ (Or.inl q92))
                        | exact ihC (b + 1) _ _ _ (by omega) (by omega) (by omega) (pg_ST_new SB hE ⟨j2, hb, q116, q88⟩ (Or.inr (fun q => absurd (hle.mp q) (by omega))))
                    · skip
                      refine gz_iload E dX1_makeTree_119 rfl ?_
                      refine gz_istore_n (lv' := [(0, _), (1, _), (2, _), (3, _), (4, _), (5, _)]) E dX1_makeTree_121 rfl (by decide) rfl ?_
                      refine gz_iload E dX1_makeTree_122 rfl ?_
                      refine gz_istore_n (lv' := [(0, _), (1, _), (2, _), (3, _), (4, _), (5, _)]) E dX1_makeTree_124 rfl (by decide) rfl ?_
                      refine gz_iinc (lv' := [(0, _), (1, _), (2, _), (3, _), (4, _), (5, _)]) E dX1_makeTree_125 rfl (gz_nI1 _) (by decide) rfl ?_
                      refine gz_goto (tgt := 65) E dX1_makeTree_128 (by decide) ?_
                      first
                        | exact ihC (b + 1) _ _ _ (by omega) (by omega) (by omega) (pg_ST_skip hn hb hE (fun q => q.2.2.2 q88))
                        | exact ihC (b + 1) _ _ _ (by omega) (by omega) (by omega) (pg_ST_skip hn hb hE (fun q => q116 q.2.2.1))
                        | exact ihC (b + 1) _ _ _ (by omega) (by omega) (by omega) (pg_ST_keep SB ha hb hE q92 (hle.mpr (by omega)))
                        | exact ihC (b + 1) _ _ _ (by omega) (by omega) (by omega) (pg_ST_new SB hE ⟨j2, hb, q116, q88⟩ (Or.inl q92))
                        | exact ihC (b + 1) _ _ _ (by omega) (by omega) (by omega) (pg_ST_new SB hE ⟨j2, hb, q116, q88⟩ (Or.inr (fun q => absurd (hle.mp q) (by omega))))
                  · skip
                    rcases id hE with ⟨h1, -, -⟩ | ⟨x, y, rfl, rfl, rfl, hca, hlt, hbest⟩
                    · exact absurd (by rw [h1]; decide) q92
                    have hxy := hca.1
                    have hy := hca.2.1
                    have hx : x < n := by omega
                    have gxy := pg_gp_b SB hx hy
                    have gab := pg_gp_b SB ha hb
                    have hle : lI (pg_gp X Y x y) ≤ lI (pg_gp X Y a b) ↔ pg_gp X Y x y ≤ pg_gp X Y a b := lI_le (by omega) (by omega) (by omega) (by omega)
                    refine gz_aload_n E dX1_makeTree_95 rfl rfl ?_
                    refine gz_iload E dX1_makeTree_96 rfl ?_
                    refine gz_iload E dX1_makeTree_98 rfl ?_
                    refine gz_iload_n E dX1_makeTree_100 rfl rfl ?_
                    refine gz_iload_n E dX1_makeTree_101 rfl rfl ?_
                    refine gz_cali (n := 4) E 0 dX1_makeTree_102 gX1_makeTree_X1_before (mtX1_before SB ha hb hx hy) rfl rfl ⟨rfl, rfl⟩ (by decide +kernel) ⟨Nat.le_of_ble_eq_true rfl, Nat.le_of_ble_eq_true rfl⟩ rfl rfl rfl rfl (Nat.le_of_ble_eq_true rfl) (fun r102 w102 hr102 => ?_)
                    obtain ⟨hr102, rfl⟩ := hr102
                    refine gz_ifB_eq (tgt := 125) E hr102 dX1_makeTree_105 (by decide) (fun q105 => ?_) (fun q105 => ?_)
                    · skip
                      refine gz_iinc (lv' := [(0, _), (1, _), (2, _), (3, _), (4, _), (5, _)]) E dX1_makeTree_125 rfl (gz_nI1 _) (by decide) rfl ?_
                      refine gz_goto (tgt := 65) E dX1_makeTree_128 (by decide) ?_
                      first
                        | exact ihC (b + 1) _ _ _ (by omega) (by omega) (by omega) (pg_ST_skip hn hb hE (fun q => q.2.2.2 q88))
                        | exact ihC (b + 1) _ _ _ (by omega) (by omega) (by omega) (pg_ST_skip hn hb hE (fun q => q116 q.2.2.1))
                        | exact ihC (b + 1) _ _ _ (by omega) (by omega) (by omega) (pg_ST_keep SB ha hb hE q92 (hle.mpr (by omega)))
                        | exact ihC (b + 1) _ _ _ (by omega) (by omega) (by omega) (pg_ST_new SB hE ⟨j2, hb, q116, q88⟩ (Or.inl q92))
                        | exact ihC (b + 1) _ _ _ (by omega) (by omega) (by omega) (pg_ST_new SB hE ⟨j2, hb, q116, q88⟩ (Or.inr (fun q => absurd (hle.mp q) (by omega))))
                    · skip
                      refine gz_aload_n E dX1_makeTree_108 rfl rfl ?_
                      refine gz_iload E dX1_makeTree_109 rfl ?_
                      refine gz_iload E dX1_makeTree_111 rfl ?_
                      refine gz_cali (n := 2) E 0 dX1_makeTree_113 gX1_makeTree_X1_edge (mtX1_edge SB hm hT ha hb) rfl rfl ⟨rfl, rfl⟩ (by decide +kernel) ⟨Nat.le_of_ble_eq_true rfl, Nat.le_of_ble_eq_true rfl⟩ rfl rfl rfl rfl (Nat.le_of_ble_eq_true rfl) (fun r113 w113 hr113 => ?_)
                      obtain ⟨hr113, rfl⟩ := hr113
                      refine gz_ifB_eq (tgt := 125) E hr113 dX1_makeTree_116 (by decide) (fun q116 => ?_) (fun q116 => ?_)
                      · skip
                        refine gz_iinc (lv' := [(0, _), (1, _), (2, _), (3, _), (4, _), (5, _)]) E dX1_makeTree_125 rfl (gz_nI1 _) (by decide) rfl ?_
                        refine gz_goto (tgt := 65) E dX1_makeTree_128 (by decide) ?_
                        first
                          | exact ihC (b + 1) _ _ _ (by omega) (by omega) (by omega) (pg_ST_skip hn hb hE (fun q => q.2.2.2 q88))
                          | exact ihC (b + 1) _ _ _ (by omega) (by omega) (by omega) (pg_ST_skip hn hb hE (fun q => q116 q.2.2.1))
                          | exact ihC (b + 1) _ _ _ (by omega) (by omega) (by omega) (pg_ST_keep SB ha hb hE q92 (hle.mpr (by omega)))
                          | exact ihC (b + 1) _ _ _ (by omega) (by omega) (by omega) (pg_ST_new SB hE ⟨j2, hb, q116, q88⟩ (Or.inl q92))
                          | exact ihC (b + 1) _ _ _ (by omega) (by omega) (by omega) (pg_ST_new SB hE ⟨j2, hb, q116, q88⟩ (Or.inr (fun q => absurd (hle.mp q) (by omega))))
                      · skip
                        refine gz_iload E dX1_makeTree_119 rfl ?_
                        refine gz_istore_n (lv' := [(0, _), (1, _), (2, _), (3, _), (4, _), (5, _)]) E dX1_makeTree_121 rfl (by decide) rfl ?_
                        refine gz_iload E dX1_makeTree_122 rfl ?_
                        refine gz_istore_n (lv' := [(0, _), (1, _), (2, _), (3, _), (4, _), (5, _)]) E dX1_makeTree_124 rfl (by decide) rfl ?_
                        refine gz_iinc (lv' := [(0, _), (1, _), (2, _), (3, _), (4, _), (5, _)]) E dX1_makeTree_125 rfl (gz_nI1 _) (by decide) rfl ?_
                        refine gz_goto (tgt := 65) E dX1_makeTree_128 (by decide) ?_
                        first
                          | exact ihC (b + 1) _ _ _ (by omega) (by omega) (by omega) (pg_ST_skip hn hb hE (fun q => q.2.2.2 q88))
                          | exact ihC (b + 1) _ _ _ (by omega) (by omega) (by omega) (pg_ST_skip hn hb hE (fun q => q116 q.2.2.1))
                          | exact ihC (b + 1) _ _ _ (by omega) (by omega) (by omega) (pg_ST_keep SB ha hb hE q92 (hle.mpr (by omega)))
                          | exact ihC (b + 1) _ _ _ (by omega) (by omega) (by omega) (pg_ST_new SB hE ⟨j2, hb, q116, q88⟩ (Or.inl q92))
                          | exact ihC (b + 1) _ _ _ (by omega) (by omega) (by omega) (pg_ST_new SB hE ⟨j2, hb, q116, q88⟩ (Or.inr (fun q => absurd (hle.mp q) (by omega))))
          refine gz_iload E dX1_makeTree_50 rfl ?_
          refine gz_aload_n E dX1_makeTree_52 rfl rfl ?_
          refine gz_get E inwX1_makeTree 0 0 dX1_makeTree_53 flX1_makeTree_56 rfl rfl (by decide) rfl rfl ?_
          refine gz_icN_ge (tgt := 137) E dX1_makeTree_56 (by decide) (by omega) (by omega) (fun q56 => ?_) (fun q56 => ?_)
          · skip
            have e : a = n := by omega
            rw [e] at hE
            rcases pg_ST_fin hn hE with ⟨-, hno⟩ | ⟨x, y, rfl, rfl, hsel⟩
            · obtain ⟨a1, b1, hab⟩ := hcon GP (pg_TJ_more hJ hs1); exact absurd hab (hno a1 b1)
            have hsx := hsel.1.1
            have hsy := hsel.1.2.1
            have hxn : x < n := by omega
            refine gz_aload_n E dX1_makeTree_137 rfl rfl ?_
            refine gz_get E inwX1_makeTree 0 10 dX1_makeTree_138 flX1_makeTree_29 rfl rfl (by decide) rfl rfl ?_
            refine gz_aload_n E dX1_makeTree_141 rfl rfl ?_
            refine gz_get E inwX1_makeTree 0 9 dX1_makeTree_142 flX1_makeTree_93 rfl rfl (by decide) rfl rfl ?_
            refine gz_iload_n E dX1_makeTree_145 rfl rfl ?_
            refine gz_iastN E 7 0 dX1_makeTree_146 rfl rfl (by decide) (by omega) ?_
            refine gz_w (ws' := (wM bd cI cJ n X Y mc LE MI GE ec CO s (fun i => if i = s then x else LS i) GT tl GP)) (by rw [gz_upN]; rfl) ?_
            refine gz_aload_n E dX1_makeTree_147 rfl rfl ?_
            refine gz_get E inwX1_makeTree 0 11 dX1_makeTree_148 flX1_makeTree_32 rfl rfl (by decide) rfl rfl ?_
            refine gz_aload_n E dX1_makeTree_151 rfl rfl ?_
            refine gz_get E inwX1_makeTree 0 9 dX1_makeTree_152 flX1_makeTree_93 rfl rfl (by decide) rfl rfl ?_
            refine gz_iload_n E dX1_makeTree_155 rfl rfl ?_
            refine gz_iastN E 8 0 dX1_makeTree_156 rfl rfl (by decide) (by omega) ?_
            refine gz_w (ws' := (wM bd cI cJ n X Y mc LE MI GE ec CO s (fun i => if i = s then x else LS i) (fun i => if i = s then y else GT i) tl GP)) (by rw [gz_upN]; rfl) ?_
            refine gz_aload_n E dX1_makeTree_157 rfl rfl ?_
            refine gz_dup E dX1_makeTree_158 rfl ?_
            refine gz_get E inwX1_makeTree 0 9 dX1_makeTree_159 flX1_makeTree_93 rfl rfl (by decide) rfl rfl ?_
            refine gz_iconst (v := nI 1) E dX1_makeTree_162 (by decide) ?_
            refine gz_iaddN E dX1_makeTree_163 ?_
            refine gz_put E inwX1_makeTree 0 9 dX1_makeTree_164 flX1_makeTree_93 rfl rfl (by decide) rfl tyX1 tyX1_ok nmX1 rfl rfl rfl (Nat.le_of_ble_eq_true rfl) ?_
            refine gz_w (ws' := (wM bd cI cJ n X Y mc LE MI GE ec CO (s + 1) (fun i => if i = s then x else LS i) (fun i => if i = s then y else GT i) tl GP)) (by rfl) ?_
            refine gz_aload_n E dX1_makeTree_167 rfl rfl ?_
            refine gz_aload_n E dX1_makeTree_168 rfl rfl ?_
            refine gz_get E inwX1_makeTree 0 12 dX1_makeTree_169 flX1_makeTree_96 rfl rfl (by decide) rfl rfl ?_
            refine gz_aload_n E dX1_makeTree_172 rfl rfl ?_
            refine gz_iload_n E dX1_makeTree_173 rfl rfl ?_
            refine gz_iload_n E dX1_makeTree_174 rfl rfl ?_
            refine gz_call (n := 2) E 0 dX1_makeTree_175 gX1_makeTree_X1_apart (mtX1_apart SB hxn hsy) rfl rfl ⟨rfl, rfl⟩ (by decide +kernel) ⟨Nat.le_of_ble_eq_true rfl, Nat.le_of_ble_eq_true rfl⟩ rfl rfl rfl rfl (Nat.le_of_ble_eq_true rfl) (fun r175 w175 hr175 => ?_)
            obtain ⟨rfl, rfl⟩ := hr175
            refine gz_laddL E dX1_makeTree_178 ?_
            refine gz_put E inwX1_makeTree 0 12 dX1_makeTree_179 flX1_makeTree_96 rfl rfl (by decide) rfl tyX1 tyX1_ok nmX1 rfl rfl rfl (Nat.le_of_ble_eq_true rfl) ?_
            refine gz_w (ws' := (wM bd cI cJ n X Y mc LE MI GE ec CO (s + 1) (fun i => if i = s then x else LS i) (fun i => if i = s then y else GT i) (tl + pg_gp X Y y x) GP)) (by rfl) ?_
            refine gz_aload_n E dX1_makeTree_182 rfl rfl ?_
            refine gz_get E inwX1_makeTree 0 13 dX1_makeTree_183 flX1_makeTree_35 rfl rfl (by decide) rfl rfl ?_
            refine gz_iload_n E dX1_makeTree_186 rfl rfl ?_
            refine gz_ialdN E 9 0 dX1_makeTree_187 rfl rfl (by decide) rfl (by omega) ?_
            refine gz_istore (lv' := [(0, _), (1, _), (2, _), (3, _), (4, _)]) E dX1_makeTree_188 (by decide) rfl ?_
            refine gz_iconst (v := nI 0) E dX1_makeTree_190 (by decide) ?_
            refine gz_istore (lv' := [(0, _), (1, _), (2, _), (3, _), (4, _), (5, _)]) E dX1_makeTree_191 (by decide) rfl ?_
            refine gz_w (ws' := (wM bd cI cJ n X Y mc LE MI GE ec CO (s + 1) (fun i => if i = s then x else LS i) (fun i => if i = s then y else GT i) (tl + pg_gp X Y y x) (fun i => if i < 0 ∧ GP i = GP y then GP x else GP i))) (congrArg (wM bd cI cJ n X Y mc LE MI GE ec CO (s + 1) (fun i => if i = s then x else LS i) (fun i => if i = s then y else GT i) (tl + pg_gp X Y y x)) (by funext i; simp)) ?_
            exact loopG hs1 x y hsel.1.1 hsel.1.2.1 hsel (n + 1) 0 (by omega) (by omega)
          · skip
            refine gz_iload E dX1_makeTree_59 rfl ?_
            refine gz_iconst (v := nI 1) E dX1_makeTree_61 (by decide) ?_
            refine gz_iaddN E dX1_makeTree_62 ?_
            refine gz_istore (lv' := [(0, _), (1, _), (2, _), (3, _), (4, _), (5, _)]) E dX1_makeTree_63 (by decide) rfl ?_
            exact loopC (by omega) (n + 1) (a + 1) _ _ d (by omega) (by omega) (by omega) (pg_ST_jump hE (by omega) (fun i j _ _ _ => by omega))
      refine gz_iload_n E dX1_makeTree_35 rfl rfl ?_
      refine gz_aload_n E dX1_makeTree_36 rfl rfl ?_
      refine gz_get E inwX1_makeTree 0 0 dX1_makeTree_37 flX1_makeTree_56 rfl rfl (by decide) rfl rfl ?_
      refine gz_icN_ge (tgt := 249) E dX1_makeTree_40 (by decide) (by omega) (by omega) (fun q40 => ?_) (fun q40 => ?_)
      · skip
        have e : s = n - 1 := by omega
        subst e
        exact ret _ _ _ dX1_makeTree_249 ⟨LS, GT, tl, GP, rfl, hJ⟩
      · skip
        refine gz_iconst (v := -1) E dX1_makeTree_43 (by decide) ?_
        refine gz_istore_n (lv' := [(0, _), (1, _), (2, _)]) E dX1_makeTree_44 rfl (by decide) rfl ?_
        refine gz_iconst (v := -1) E dX1_makeTree_45 (by decide) ?_
        refine gz_istore_n (lv' := [(0, _), (1, _), (2, _), (3, _)]) E dX1_makeTree_46 rfl (by decide) rfl ?_
        refine gz_iconst (v := nI 0) E dX1_makeTree_47 (by decide) ?_
        refine gz_istore (lv' := [(0, _), (1, _), (2, _), (3, _), (4, _)]) E dX1_makeTree_48 (by decide) rfl ?_
        exact loopA (by omega) (n + 1) 0 _ _ 0 (by omega) (by omega) (by rw [Nat.zero_mul]; exact pg_ST_0)
  have loop0 : ∀ (f a : Nat) (GP : Nat → Nat), n < f + a → a ≤ n → (∀ i, i < a → GP i = i) → gz_G z (wM bd cI cJ n X Y mc LE MI GE ec CO 0 LS GT 0 GP) 12 [(0, .ref (bd 0)), (1, .int (nI a))] [] := by
    intro f
    induction f with
    | zero => intro a GP h1 h2; exact absurd h1 (by omega)
    | succ f ih0 =>
      intro a GP h1 h2 hE
      refine gz_iload_n E dX1_makeTree_12 rfl rfl ?_
      refine gz_aload_n E dX1_makeTree_13 rfl rfl ?_
      refine gz_get E inwX1_makeTree 0 0 dX1_makeTree_14 flX1_makeTree_56 rfl rfl (by decide) rfl rfl ?_
      refine gz_icN_ge (tgt := 33) E dX1_makeTree_17 (by decide) (by omega) (by omega) (fun q17 => ?_) (fun q17 => ?_)
      · skip
        refine gz_iconst (v := nI 1) E dX1_makeTree_33 (by decide) ?_
        refine gz_istore_n (lv' := [(0, _), (1, _)]) E dX1_makeTree_34 rfl (by decide) rfl ?_
        exact loopB (n + 1) 0 _ _ _ _ (by omega) (by omega) (pg_TJ_0 (fun i hi => hE i (by omega)))
      · skip
        refine gz_aload_n E dX1_makeTree_20 rfl rfl ?_
        refine gz_get E inwX1_makeTree 0 13 dX1_makeTree_21 flX1_makeTree_35 rfl rfl (by decide) rfl rfl ?_
        refine gz_iload_n E dX1_makeTree_24 rfl rfl ?_
        refine gz_iload_n E dX1_makeTree_25 rfl rfl ?_
        refine gz_iastN E 9 0 dX1_makeTree_26 rfl rfl (by decide) (by omega) ?_
        refine gz_w (ws' := (wM bd cI cJ n X Y mc LE MI GE ec CO 0 LS GT 0 (fun i => if i = a then a else GP i))) (by rw [gz_upN]; rfl) ?_
        refine gz_iinc (lv' := [(0, _), (1, _)]) E dX1_makeTree_27 rfl (gz_nI1 _) (by decide) rfl ?_
        refine gz_goto (tgt := 12) E dX1_makeTree_30 (by decide) ?_
        exact ih0 (a + 1) _ (by omega) (by omega) (fun i hi => by
          by_cases e : i = a
          · simp [e]
          · simp only [if_neg e]; exact hE i (by omega))
  refine gz_aload_n E dX1_makeTree_0 rfl rfl ?_
  refine gz_iconst (v := nI 0) E dX1_makeTree_1 (by decide) ?_
  refine gz_put E inwX1_makeTree 0 9 dX1_makeTree_2 flX1_makeTree_93 rfl rfl (by decide) rfl tyX1 tyX1_ok nmX1 rfl rfl rfl (Nat.le_of_ble_eq_true rfl) ?_
  refine gz_w (ws' := (wM bd cI cJ n X Y mc LE MI GE ec CO 0 LS GT tl GP)) (by rfl) ?_
  refine gz_aload_n E dX1_makeTree_5 rfl rfl ?_
  refine gz_lconst (v := lI 0) E dX1_makeTree_6 (by decide) ?_
  refine gz_put E inwX1_makeTree 0 12 dX1_makeTree_7 flX1_makeTree_96 rfl rfl (by decide) rfl tyX1 tyX1_ok nmX1 rfl rfl rfl (Nat.le_of_ble_eq_true rfl) ?_
  refine gz_w (ws' := (wM bd cI cJ n X Y mc LE MI GE ec CO 0 LS GT 0 GP)) (by rfl) ?_
  refine gz_iconst (v := nI 0) E dX1_makeTree_10 (by decide) ?_
  refine gz_istore_n (lv' := [(0, _), (1, _)]) E dX1_makeTree_11 rfl (by decide) rfl ?_
  exact loop0 (n + 1) 0 _ (by omega) (by omega) (fun i hi => absurd hi (by omega))
end RC
