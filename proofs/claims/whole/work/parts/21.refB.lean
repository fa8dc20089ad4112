/-! the reference: edges, corners -/
section RB
variable {l : Launch} {D : va_G} {bd : Nat → Nat} {cI cJ : ClassId} {n mc ec kc : Nat} {X Y : Nat → Int} {LE MI GE CO LS GT GP : Nat → Nat} {tl : Int}
abbrev rmX1_isOf : Room := { frames := 0, cells := 0, slots := 0, locals := 0 }
theorem inwX1_isOf : ∀ w ∈ wsX10, w ∈ wsX1_isOf := fun _ h => List.mem_cons_of_mem _ (List.mem_append_right _ h)
set_option maxRecDepth 20000 in
theorem flX1_isOf_16 : Cond.fieldLink RX1 16 RX1 (TX1 4).2.1 (TX1 4).2.2.1 ∈ wsX1_isOf := by decide +kernel
set_option maxRecDepth 20000 in
theorem flX1_isOf_20 : Cond.fieldLink RX1 20 RX1 (TX1 5).2.1 (TX1 5).2.2.1 ∈ wsX1_isOf := by decide +kernel
set_option maxRecDepth 20000 in
theorem flX1_isOf_23 : Cond.fieldLink RX1 23 RX1 (TX1 6).2.1 (TX1 6).2.2.1 ∈ wsX1_isOf := by decide +kernel
set_option maxRecDepth 20000 in
set_option maxHeartbeats 4000000 in
theorem mtX1_isOf (hm : mc ≤ 23) {i a : Nat} (hi : i < mc) (h1 : LE i < 14) (h2 : MI i < 14) (h3 : GE i < 14) (ha : a < 2 ^ 31) : gz_Ki l yX1_isOf wsX1_isOf rmX1_isOf D [(cI, .int), (cJ, .long)] [.ref (bd 0), .int (nI i), .int (nI a)] (wM bd cI cJ n X Y mc LE MI GE ec CO kc LS GT tl GP) (fun r w1 => gz_B r (LE i = a ∨ MI i = a ∨ GE i = a) ∧ w1 = (wM bd cI cJ n X Y mc LE MI GE ec CO kc LS GT tl GP)) := by
  refine gz_ofi (cc := cX1_isOf) (maxL := 3) (own := RX1) (by decide +kernel) rfl rfl rfl (Nat.le_of_ble_eq_true rfl) ?_
  intro z E ret
  show gz_G z _ 0 [(0, .ref (bd 0)), (1, .int (nI i)), (2, .int (nI a))] []
  refine gz_aload_n E dX1_isOf_0 rfl rfl ?_
  refine gz_get E inwX1_isOf 0 4 dX1_isOf_1 flX1_isOf_16 rfl rfl (by decide) rfl rfl ?_
  refine gz_iload_n E dX1_isOf_4 rfl rfl ?_
  refine gz_ialdN E 3 0 dX1_isOf_5 rfl rfl (by decide) rfl (by omega) ?_
  refine gz_iload_n E dX1_isOf_6 rfl rfl ?_
  refine gz_icN_eq (tgt := 30) E dX1_isOf_7 (by decide) (by omega) (by omega) (fun q7 => ?_) (fun q7 => ?_)
  · skip
    refine gz_iconst (v := 1) E dX1_isOf_30 (by decide) ?_
    refine gz_goto (tgt := 35) E dX1_isOf_31 (by decide) ?_
    exact ret _ _ _ _ dX1_isOf_35 rfl ⟨by first | exact gz_B_t (by omega) | exact gz_B_f (by omega), rfl⟩
  · skip
    refine gz_aload_n E dX1_isOf_10 rfl rfl ?_
    refine gz_get E inwX1_isOf 0 5 dX1_isOf_11 flX1_isOf_20 rfl rfl (by decide) rfl rfl ?_
    refine gz_iload_n E dX1_isOf_14 rfl rfl ?_
    refine gz_ialdN E 4 0 dX1_isOf_15 rfl rfl (by decide) rfl (by omega) ?_
    refine gz_iload_n E dX1_isOf_16 rfl rfl ?_
    refine gz_icN_eq (tgt := 30) E dX1_isOf_17 (by decide) (by omega) (by omega) (fun q17 => ?_) (fun q17 => ?_)
    · skip
      refine gz_iconst (v := 1) E dX1_isOf_30 (by decide) ?_
      refine gz_goto (tgt := 35) E dX1_isOf_31 (by decide) ?_
      exact ret _ _ _ _ dX1_isOf_35 rfl ⟨by first | exact gz_B_t (by omega) | exact gz_B_f (by omega), rfl⟩
    · skip
      refine gz_aload_n E dX1_isOf_20 rfl rfl ?_
      refine gz_get E inwX1_isOf 0 6 dX1_isOf_21 flX1_isOf_23 rfl rfl (by decide) rfl rfl ?_
      refine gz_iload_n E dX1_isOf_24 rfl rfl ?_
      refine gz_ialdN E 5 0 dX1_isOf_25 rfl rfl (by decide) rfl (by omega) ?_
      refine gz_iload_n E dX1_isOf_26 rfl rfl ?_
      refine gz_icN_ne (tgt := 34) E dX1_isOf_27 (by decide) (by omega) (by omega) (fun q27 => ?_) (fun q27 => ?_)
      · skip
        refine gz_iconst (v := 0) E dX1_isOf_34 (by decide) ?_
        exact ret _ _ _ _ dX1_isOf_35 rfl ⟨by first | exact gz_B_t (by omega) | exact gz_B_f (by omega), rfl⟩
      · skip
        refine gz_iconst (v := 1) E dX1_isOf_30 (by decide) ?_
        refine gz_goto (tgt := 35) E dX1_isOf_31 (by decide) ?_
        exact ret _ _ _ _ dX1_isOf_35 rfl ⟨by first | exact gz_B_t (by omega) | exact gz_B_f (by omega), rfl⟩
def pg_Of (LE MI GE : Nat → Nat) (t a : Nat) : Prop := LE t = a ∨ MI t = a ∨ GE t = a
def pg_ER (n : Nat) (X Y : Nat → Int) (mc : Nat) (LE MI GE : Nat → Nat) (a b : Nat) : Prop := a ≠ b ∧ ((0 < mc ∧ ∃ t, t < mc ∧ pg_Of LE MI GE t a ∧ pg_Of LE MI GE t b) ∨ (mc = 0 ∧ ∀ p, p < n → ¬ pg_BT X Y p a b))
theorem gz_ex_s {k : Nat} {P : Nat → Prop} (h : ∃ t, t < k ∧ P t) : ∃ t, t < k + 1 ∧ P t := by
  obtain ⟨t, h1, h2⟩ := h
  exact ⟨t, by omega, h2⟩
theorem gz_ex_n {k : Nat} {P : Nat → Prop} (h : ¬ ∃ t, t < k ∧ P t) (hk : ¬ P k) : ¬ ∃ t, t < k + 1 ∧ P t := fun ⟨t, h1, h2⟩ => by
  rcases (show t < k ∨ t = k by omega) with e | e
  · exact h ⟨t, e, h2⟩
  · exact hk (e ▸ h2)
abbrev rmX1_edge : Room := { frames := 3, cells := 0, slots := 0, locals := 68 }
theorem inwX1_edge : ∀ w ∈ wsX10, w ∈ wsX1_edge := fun _ h => List.mem_cons_of_mem _ (List.mem_append_right _ h)
set_option maxRecDepth 20000 in
theorem flX1_edge_56 : Cond.fieldLink RX1 56 RX1 (TX1 0).2.1 (TX1 0).2.2.1 ∈ wsX1_edge := by decide +kernel
set_option maxRecDepth 20000 in
theorem flX1_edge_64 : Cond.fieldLink RX1 64 RX1 (TX1 3).2.1 (TX1 3).2.2.1 ∈ wsX1_edge := by decide +kernel
set_option maxRecDepth 20000 in
set_option maxHeartbeats 4000000 in
theorem mtX1_edge (SB : pg_ok n X Y) (hm : mc ≤ 23) (hT : ∀ t, t < mc → LE t < 14 ∧ MI t < 14 ∧ GE t < 14) {a b : Nat} (ha : a < n) (hb : b < n) : gz_Ki l yX1_edge wsX1_edge rmX1_edge D [(cI, .int), (cJ, .long)] [.ref (bd 0), .int (nI a), .int (nI b)] (wM bd cI cJ n X Y mc LE MI GE ec CO kc LS GT tl GP) (fun r w1 => gz_B r (pg_ER n X Y mc LE MI GE a b) ∧ w1 = (wM bd cI cJ n X Y mc LE MI GE ec CO kc LS GT tl GP)) := by
  refine gz_ofi (cc := cX1_edge) (maxL := 6) (own := RX1) (by decide +kernel) rfl rfl rfl (Nat.le_of_ble_eq_true rfl) ?_
  intro z E ret
  have hn := SB.1
  show gz_G z _ 0 [(0, .ref (bd 0)), (1, .int (nI a)), (2, .int (nI b))] []
  have loopF : mc = 0 → a ≠ b → ∀ (f k : Nat) (r : Int32), n < f + k → k ≤ n → gz_B r (∀ p, p < k → ¬ pg_BT X Y p a b) → gz_G z (wM bd cI cJ n X Y mc LE MI GE ec CO kc LS GT tl GP) 72 [(0, .ref (bd 0)), (1, .int (nI a)), (2, .int (nI b)), (4, .int r), (5, .int (nI k))] [] := by
    intro hm0 hab f
    induction f with
    | zero => intro k r h1 h2; exact absurd h1 (by omega)
    | succ f ih =>
      intro k r h1 h2 hB
      refine gz_iload E dX1_edge_72 rfl ?_
      refine gz_aload_n E dX1_edge_74 rfl rfl ?_
      refine gz_get E inwX1_edge 0 0 dX1_edge_75 flX1_edge_56 rfl rfl (by decide) rfl rfl ?_
      refine gz_icN_ge (tgt := 110) E dX1_edge_78 (by decide) (by omega) (by omega) (fun q78 => ?_) (fun q78 => ?_)
      · skip
        refine gz_iload E dX1_edge_110 rfl ?_
        exact ret _ _ _ _ dX1_edge_112 (gz_bnar hB) ⟨gz_B_c hB ⟨fun q => ⟨hab, Or.inr ⟨hm0, fun p hp => q p (by omega)⟩⟩, fun q p hp => by
          rcases q.2 with ⟨q1, -⟩ | ⟨-, q2⟩
          · omega
          · exact q2 p (by omega)⟩, rfl⟩
      · skip
        refine gz_iload E dX1_edge_81 rfl ?_
        refine gz_ifB_eq (tgt := 101) E hB dX1_edge_83 (by decide) (fun q83 => ?_) (fun q83 => ?_)
        · skip
          refine gz_iconst (v := nI 0) E dX1_edge_101 (by decide) ?_
          refine gz_istore (lv' := [(0, _), (1, _), (2, _), (4, _), (5, _)]) E dX1_edge_102 (by decide) rfl ?_
          refine gz_iinc (lv' := [(0, _), (1, _), (2, _), (4, _), (5, _)]) E dX1_edge_104 rfl (gz_nI1 _) (by decide) rfl ?_
          refine gz_goto (tgt := 72) E dX1_edge_107 (by decide) ?_
          first
            | exact ih (k + 1) _ (by omega) (by omega) (gz_B_t (pg_lt_s q83 q94))
            | exact ih (k + 1) _ (by omega) (by omega) (gz_B_f (fun q => q83 (fun d hd => q d (by omega))))
            | exact ih (k + 1) _ (by omega) (by omega) (gz_B_f (fun q => q k (by omega) q94))
        · skip
          have hk : k < n := by omega
          refine gz_aload_n E dX1_edge_86 rfl rfl ?_
          refine gz_iload E dX1_edge_87 rfl ?_
          refine gz_iload_n E dX1_edge_89 rfl rfl ?_
          refine gz_iload_n E dX1_edge_90 rfl rfl ?_
          refine gz_cali (n := 3) E 0 dX1_edge_91 gX1_edge_X1_between (mtX1_between SB (by assumption) (by assumption) (by assumption)) rfl rfl ⟨rfl, rfl⟩ (by decide +kernel) ⟨Nat.le_of_ble_eq_true rfl, Nat.le_of_ble_eq_true rfl⟩ rfl rfl rfl rfl (Nat.le_of_ble_eq_true rfl) (fun r91 w91 hr91 => ?_)
          obtain ⟨hr91, rfl⟩ := hr91
          refine gz_ifB_ne (tgt := 101) E hr91 dX1_edge_94 (by decide) (fun q94 => ?_) (fun q94 => ?_)
          · skip
            refine gz_iconst (v := nI 0) E dX1_edge_101 (by decide) ?_
            refine gz_istore (lv' := [(0, _), (1, _), (2, _), (4, _), (5, _)]) E dX1_edge_102 (by decide) rfl ?_
            refine gz_iinc (lv' := [(0, _), (1, _), (2, _), (4, _), (5, _)]) E dX1_edge_104 rfl (gz_nI1 _) (by decide) rfl ?_
            refine gz_goto (tgt := 72) E dX1_edge_107 (by decide) ?_
            first
              | exact ih (k + 1) _ (by omega) (by omega) (gz_B_t (pg_lt_s q83 q94))
              | exact ih (k + 1) _ (by omega) (by omega) (gz_B_f (fun q => q83 (fun d hd => q d (by omega))))
              | exact ih (k + 1) _ (by omega) (by omega) (gz_B_f (fun q => q k (by omega) q94))
          · skip
            refine gz_iconst (v := nI 1) E dX1_edge_97 (by decide) ?_
            refine gz_goto (tgt := 102) E dX1_edge_98 (by decide) ?_
            refine gz_istore (lv' := [(0, _), (1, _), (2, _), (4, _), (5, _)]) E dX1_edge_102 (by decide) rfl ?_
            refine gz_iinc (lv' := [(0, _), (1, _), (2, _), (4, _), (5, _)]) E dX1_edge_104 rfl (gz_nI1 _) (by decide) rfl ?_
            refine gz_goto (tgt := 72) E dX1_edge_107 (by decide) ?_
            first
              | exact ih (k + 1) _ (by omega) (by omega) (gz_B_t (pg_lt_s q83 q94))
              | exact ih (k + 1) _ (by omega) (by omega) (gz_B_f (fun q => q83 (fun d hd => q d (by omega))))
              | exact ih (k + 1) _ (by omega) (by omega) (gz_B_f (fun q => q k (by omega) q94))
  have loopS : a ≠ b → ∀ (f k : Nat) (r : Int32), mc < f + k → k ≤ mc → gz_B r (∃ t, t < k ∧ (pg_Of LE MI GE t a ∧ pg_Of LE MI GE t b)) → gz_G z (wM bd cI cJ n X Y mc LE MI GE ec CO kc LS GT tl GP) 12 [(0, .ref (bd 0)), (1, .int (nI a)), (2, .int (nI b)), (3, .int r), (4, .int (nI k))] [] := by
    intro hab f
    induction f with
    | zero => intro k r h1 h2; exact absurd h1 (by omega)
    | succ f ih =>
      intro k r h1 h2 hB
      refine gz_iload E dX1_edge_12 rfl ?_
      refine gz_aload_n E dX1_edge_14 rfl rfl ?_
      refine gz_get E inwX1_edge 0 3 dX1_edge_15 flX1_edge_64 rfl rfl (by decide) rfl rfl ?_
      refine gz_icN_ge (tgt := 57) E dX1_edge_18 (by decide) (by omega) (by omega) (fun q18 => ?_) (fun q18 => ?_)
      · skip
        refine gz_aload_n E dX1_edge_57 rfl rfl ?_
        refine gz_get E inwX1_edge 0 3 dX1_edge_58 flX1_edge_64 rfl rfl (by decide) rfl rfl ?_
        refine gz_ifN_le (tgt := 66) E dX1_edge_61 (by decide) (by omega) (fun q61 => ?_) (fun q61 => ?_)
        · skip
          refine gz_iconst (v := nI 1) E dX1_edge_66 (by decide) ?_
          refine gz_istore (lv' := [(0, _), (1, _), (2, _), (3, _), (4, _)]) E dX1_edge_67 (by decide) rfl ?_
          refine gz_iconst (v := nI 0) E dX1_edge_69 (by decide) ?_
          refine gz_istore (lv' := [(0, _), (1, _), (2, _), (3, _), (4, _), (5, _)]) E dX1_edge_70 (by decide) rfl ?_
          refine gz_sub (lv' := [(0, _), (1, _), (2, _), (4, _), (5, _)]) [0, 1, 2, 4, 5] rfl ?_
          exact loopF (by omega) hab (n + 1) 0 _ (by omega) (by omega) (gz_B_t (fun p hp => absurd hp (by omega)))
        · skip
          refine gz_iload_n E dX1_edge_64 rfl rfl ?_
          have e : k = mc := by omega
          subst e
          exact ret _ _ _ _ dX1_edge_65 (gz_bnar hB) ⟨gz_B_c hB ⟨fun q => ⟨hab, Or.inl ⟨by omega, q⟩⟩, fun q => by
            rcases q.2 with ⟨-, q1⟩ | ⟨q2, -⟩
            · exact q1
            · omega⟩, rfl⟩
      · skip
        have hk : k < mc := by omega
        obtain ⟨t1, t2, t3⟩ := hT k hk
        refine gz_iload_n E dX1_edge_21 rfl rfl ?_
        refine gz_ifB_ne (tgt := 45) E hB dX1_edge_22 (by decide) (fun q22 => ?_) (fun q22 => ?_)
        · skip
          refine gz_iconst (v := nI 1) E dX1_edge_45 (by decide) ?_
          refine gz_goto (tgt := 50) E dX1_edge_46 (by decide) ?_
          refine gz_istore_n (lv' := [(0, _), (1, _), (2, _), (3, _), (4, _)]) E dX1_edge_50 rfl (by decide) rfl ?_
          refine gz_iinc (lv' := [(0, _), (1, _), (2, _), (3, _), (4, _)]) E dX1_edge_51 rfl (gz_nI1 _) (by decide) rfl ?_
          refine gz_goto (tgt := 12) E dX1_edge_54 (by decide) ?_
          first
            | exact ih (k + 1) _ (by omega) (by omega) (gz_B_t (gz_ex_s q22))
            | exact ih (k + 1) _ (by omega) (by omega) (gz_B_t ⟨k, by omega, q32, q42⟩)
            | exact ih (k + 1) _ (by omega) (by omega) (gz_B_f (gz_ex_n q22 (fun q => q32 q.1)))
            | exact ih (k + 1) _ (by omega) (by omega) (gz_B_f (gz_ex_n q22 (fun q => q42 q.2)))
        · skip
          refine gz_aload_n E dX1_edge_25 rfl rfl ?_
          refine gz_iload E dX1_edge_26 rfl ?_
          refine gz_iload_n E dX1_edge_28 rfl rfl ?_
          refine gz_cali (n := 2) E 0 dX1_edge_29 gX1_edge_X1_isOf (mtX1_isOf hm (by assumption) (by assumption) (by assumption) (by assumption) (by omega)) rfl rfl ⟨rfl, rfl⟩ (by decide +kernel) ⟨Nat.le_of_ble_eq_true rfl, Nat.le_of_ble_eq_true rfl⟩ rfl rfl rfl rfl (Nat.le_of_ble_eq_true rfl) (fun r29 w29 hr29 => ?_)
          obtain ⟨hr29, rfl⟩ := hr29
          refine gz_ifB_eq (tgt := 49) E hr29 dX1_edge_32 (by decide) (fun q32 => ?_) (fun q32 => ?_)
          · skip
            refine gz_iconst (v := nI 0) E dX1_edge_49 (by decide) ?_
            refine gz_istore_n (lv' := [(0, _), (1, _), (2, _), (3, _), (4, _)]) E dX1_edge_50 rfl (by decide) rfl ?_
            refine gz_iinc (lv' := [(0, _), (1, _), (2, _), (3, _), (4, _)]) E dX1_edge_51 rfl (gz_nI1 _) (by decide) rfl ?_
            refine gz_goto (tgt := 12) E dX1_edge_54 (by decide) ?_
            first
              | exact ih (k + 1) _ (by omega) (by omega) (gz_B_t (gz_ex_s q22))
              | exact ih (k + 1) _ (by omega) (by omega) (gz_B_t ⟨k, by omega, q32, q42⟩)
              | exact ih (k + 1) _ (by omega) (by omega) (gz_B_f (gz_ex_n q22 (fun q => q32 q.1)))
              | exact ih (k + 1) _ (by omega) (by omega) (gz_B_f (gz_ex_n q22 (fun q => q42 q.2)))
          · skip
            refine gz_aload_n E dX1_edge_35 rfl rfl ?_
            refine gz_iload E dX1_edge_36 rfl ?_
            refine gz_iload_n E dX1_edge_38 rfl rfl ?_
            refine gz_cali (n := 2) E 0 dX1_edge_39 gX1_edge_X1_isOf (mtX1_isOf hm (by assumption) (by assumption) (by assumption) (by assumption) (by omega)) rfl rfl ⟨rfl, rfl⟩ (by decide +kernel) ⟨Nat.le_of_ble_eq_true rfl, Nat.le_of_ble_eq_true rfl⟩ rfl rfl rfl rfl (Nat.le_of_ble_eq_true rfl) (fun r39 w39 hr39 => ?_)
            obtain ⟨hr39, rfl⟩ := hr39
            refine gz_ifB_eq (tgt := 49) E hr39 dX1_edge_42 (by decide) (fun q42 => ?_) (fun q42 => ?_)
            · skip
              refine gz_iconst (v := nI 0) E dX1_edge_49 (by decide) ?_
              refine gz_istore_n (lv' := [(0, _), (1, _), (2, _), (3, _), (4, _)]) E dX1_edge_50 rfl (by decide) rfl ?_
              refine gz_iinc (lv' := [(0, _), (1, _), (2, _), (3, _), (4, _)]) E dX1_edge_51 rfl (gz_nI1 _) (by decide) rfl ?_
              refine gz_goto (tgt := 12) E dX1_edge_54 (by decide) ?_
              first
                | exact ih (k + 1) _ (by omega) (by omega) (gz_B_t (gz_ex_s q22))
                | exact ih (k + 1) _ (by omega) (by omega) (gz_B_t ⟨k, by omega, q32, q42⟩)
                | exact ih (k + 1) _ (by omega) (by omega) (gz_B_f (gz_ex_n q22 (fun q => q32 q.1)))
                | exact ih (k + 1) _ (by omega) (by omega) (gz_B_f (gz_ex_n q22 (fun q => q42 q.2)))
            · skip
              refine gz_iconst (v := nI 1) E dX1_edge_45 (by decide) ?_
              refine gz_goto (tgt := 50) E dX1_edge_46 (by decide) ?_
              refine gz_istore_n (lv' := [(0, _), (1, _), (2, _), (3, _), (4, _)]) E dX1_edge_50 rfl (by decide) rfl ?_
              refine gz_iinc (lv' := [(0, _), (1, _), (2, _), (3, _), (4, _)]) E dX1_edge_51 rfl (gz_nI1 _) (by decide) rfl ?_
              refine gz_goto (tgt := 12) E dX1_edge_54 (by decide) ?_
              first
                | exact ih (k + 1) _ (by omega) (by omega) (gz_B_t (gz_ex_s q22))
                | exact ih (k + 1) _ (by omega) (by omega) (gz_B_t ⟨k, by omega, q32, q42⟩)
                | exact ih (k + 1) _ (by omega) (by omega) (gz_B_f (gz_ex_n q22 (fun q => q32 q.1)))
                | exact ih (k + 1) _ (by omega) (by omega) (gz_B_f (gz_ex_n q22 (fun q => q42 q.2)))
  refine gz_iload_n E dX1_edge_0 rfl rfl ?_
  refine gz_iload_n E dX1_edge_1 rfl rfl ?_
  refine gz_icN_ne (tgt := 7) E dX1_edge_2 (by decide) (by omega) (by omega) (fun q2 => ?_) (fun q2 => ?_)
  · skip
    refine gz_iconst (v := nI 0) E dX1_edge_7 (by decide) ?_
    refine gz_istore_n (lv' := [(0, _), (1, _), (2, _), (3, _)]) E dX1_edge_8 rfl (by decide) rfl ?_
    refine gz_iconst (v := nI 0) E dX1_edge_9 (by decide) ?_
    refine gz_istore (lv' := [(0, _), (1, _), (2, _), (3, _), (4, _)]) E dX1_edge_10 (by decide) rfl ?_
    exact loopS q2 (mc + 1) 0 _ (by omega) (by omega) (gz_B_f (fun ⟨t, ht, _⟩ => absurd ht (by omega)))
  · skip
    refine gz_iconst (v := 0) E dX1_edge_5 (by decide) ?_
    exact ret _ _ _ _ dX1_edge_6 rfl ⟨gz_B_f (fun q => q.1 q2), rfl⟩
/-- the pair a, b speaks not against p being a corner -/
def pg_CK (n : Nat) (X Y : Nat → Int) (p a b : Nat) : Prop := ¬ pg_BT X Y p a b ∧ ∀ c, b < c → c < n → p ≠ a → p ≠ b → p ≠ c → ¬ pg_WI X Y p a b c
def pg_IC (n : Nat) (X Y : Nat → Int) (p : Nat) : Prop := ∀ a b, a < b → b < n → pg_CK n X Y p a b
def pg_IA (n : Nat) (X Y : Nat → Int) (p a : Nat) : Prop := ∀ a' b', a' < a → a' < b' → b' < n → pg_CK n X Y p a' b'
def pg_IB (n : Nat) (X Y : Nat → Int) (p a b : Nat) : Prop := pg_IA n X Y p a ∧ ∀ b', a < b' → b' < b → pg_CK n X Y p a b'
def pg_IG (n : Nat) (X Y : Nat → Int) (p a b c : Nat) : Prop := pg_IB n X Y p a b ∧ ¬ pg_BT X Y p a b ∧ ∀ c', b < c' → c' < c → p ≠ a → p ≠ b → p ≠ c' → ¬ pg_WI X Y p a b c'
theorem pg_IB_s {n p a b : Nat} {X Y : Nat → Int} (hab : a < b) : (pg_IB n X Y p a b ∧ pg_CK n X Y p a b) ↔ pg_IB n X Y p a (b + 1) := by
  constructor
  · rintro ⟨⟨h1, h2⟩, h3⟩
    exact ⟨h1, fun b' k1 k2 => by
      rcases (show b' < b ∨ b' = b by omega) with e | e
      · exact h2 b' k1 e
      · rw [e]; exact h3⟩
  · rintro ⟨h1, h2⟩
    exact ⟨⟨h1, fun b' k1 k2 => h2 b' k1 (by omega)⟩, h2 b hab (by omega)⟩
theorem pg_IA_s {n p a : Nat} {X Y : Nat → Int} : pg_IB n X Y p a n ↔ pg_IA n X Y p (a + 1) := by
  constructor
  · rintro ⟨h1, h2⟩
    intro a' b' k1 k2 k3
    rcases (show a' < a ∨ a' = a by omega) with e | e
    · exact h1 a' b' e k2 k3
    · rw [e]; exact h2 b' (by omega) k3
  · intro h
    exact ⟨fun a' b' k1 k2 k3 => h a' b' (by omega) k2 k3, fun b' k1 k2 => h a b' (by omega) k1 k2⟩
theorem pg_IG_s {n p a b c : Nat} {X Y : Nat → Int} (hbc : b < c) : pg_IG n X Y p a b (c + 1) ↔ (pg_IG n X Y p a b c ∧ (p ≠ a → p ≠ b → p ≠ c → ¬ pg_WI X Y p a b c)) := by
  constructor
  · rintro ⟨h1, h2, h3⟩
    exact ⟨⟨h1, h2, fun c' k1 k2 => h3 c' k1 (by omega)⟩, h3 c hbc (by omega)⟩
  · rintro ⟨⟨h1, h2, h3⟩, h4⟩
    exact ⟨h1, h2, fun c' k1 k2 => by
      rcases (show c' < c ∨ c' = c by omega) with e | e
      · exact h3 c' k1 e
      · rw [e]; exact h4⟩
theorem pg_IG_e {n p a b c : Nat} {X Y : Nat → Int} (h : n ≤ c ∨ p = a ∨ p = b) (hc : c ≤ n) : pg_IG n X Y p a b c ↔ (pg_IB n X Y p a b ∧ pg_CK n X Y p a b) := by
  constructor
  · rintro ⟨h1, h2, h3⟩
    refine ⟨h1, h2, fun c' k1 k2 k3 k4 k5 => ?_⟩
    rcases h with h | h | h
    · exact h3 c' k1 (by omega) k3 k4 k5
    · exact absurd h k3
    · exact absurd h k4
  · rintro ⟨h1, h2, h3⟩
    exact ⟨h1, h2, fun c' k1 k2 => h3 c' k1 (by omega)⟩
theorem pg_IG_0 {n p a b : Nat} {X Y : Nat → Int} : pg_IG n X Y p a b (b + 1) ↔ (pg_IB n X Y p a b ∧ ¬ pg_BT X Y p a b) := by
  constructor
  · rintro ⟨h1, h2, h3⟩
    exact ⟨h1, h2⟩
  · rintro ⟨h1, h2⟩
    exact ⟨h1, h2, fun c' k1 k2 => absurd k1 (by omega)⟩
theorem pg_IA_0 {n p : Nat} {X Y : Nat → Int} : pg_IA n X Y p 0 := fun a' b' k1 => absurd k1 (by omega)
theorem pg_IB_0 {n p a : Nat} {X Y : Nat → Int} : pg_IB n X Y p a (a + 1) ↔ pg_IA n X Y p a := ⟨fun h => h.1, fun h => ⟨h, fun b' k1 k2 => absurd k1 (by omega)⟩⟩
theorem pg_IA_n {n p : Nat} {X Y : Nat → Int} : pg_IA n X Y p n ↔ pg_IC n X Y p := ⟨fun h a b k1 k2 => h a b (by omega) k1 k2, fun h a b _ k1 k2 => h a b k1 k2⟩
theorem pg_IG_m {n p a b c : Nat} {X Y : Nat → Int} (h : pg_IB n X Y p a b ∧ pg_CK n X Y p a b) (hc : c ≤ n) : pg_IG n X Y p a b c := ⟨h.1, h.2.1, fun c' k1 k2 => h.2.2 c' k1 (by omega)⟩
abbrev rmX1_isCorner : Room := { frames := 3, cells := 0, slots := 0, locals := 70 }
theorem inwX1_isCorner : ∀ w ∈ wsX10, w ∈ wsX1_isCorner := fun _ h => List.mem_cons_of_mem _ (List.mem_append_right _ h)
set_option maxRecDepth 20000 in
theorem flX1_isCorner_56 : Cond.fieldLink RX1 56 RX1 (TX1 0).2.1 (TX1 0).2.2.1 ∈ wsX1_isCorner := by decide +kernel
set_option maxRecDepth 20000 in
set_option maxHeartbeats 4000000 in
theorem mtX1_isCorner (SB : pg_ok n X Y) {p : Nat} (hp : p < n) : gz_Ki l yX1_isCorner wsX1_isCorner rmX1_isCorner D [(cI, .int), (cJ, .long)] [.ref (bd 0), .int (nI p)] (wM bd cI cJ n X Y mc LE MI GE ec CO kc LS GT tl GP) (fun r w1 => gz_B r (pg_IC n X Y p) ∧ w1 = (wM bd cI cJ n X Y mc LE MI GE ec CO kc LS GT tl GP)) := by
  refine gz_ofi (cc := cX1_isCorner) (maxL := 6) (own := RX1) (by decide +kernel) rfl rfl rfl (Nat.le_of_ble_eq_true rfl) ?_
  intro z E ret
  have hn := SB.1
  show gz_G z _ 0 [(0, .ref (bd 0)), (1, .int (nI p))] []
  have loopA : ∀ (f a : Nat) (r : Int32), n < f + a → a ≤ n → gz_B r (pg_IA n X Y p a) → gz_G z (wM bd cI cJ n X Y mc LE MI GE ec CO kc LS GT tl GP) 4 [(0, .ref (bd 0)), (1, .int (nI p)), (2, .int r), (3, .int (nI a))] [] := by
    intro f
    induction f with
    | zero => intro a r h1 h2; exact absurd h1 (by omega)
    | succ f ihA =>
      intro a r h1 h2 hB
      have loopB : a < n → ∀ (g b : Nat) (r : Int32), n < g + b → a < b → b ≤ n → gz_B r (pg_IB n X Y p a b) → gz_G z (wM bd cI cJ n X Y mc LE MI GE ec CO kc LS GT tl GP) 17 [(0, .ref (bd 0)), (1, .int (nI p)), (2, .int r), (3, .int (nI a)), (4, .int (nI b))] [] := by
        intro han g
        induction g with
        | zero => intro b r g1 g2 g3; exact absurd g1 (by omega)
        | succ g ihB =>
          intro b r g1 g2 g3 hB
          have loopC : b < n → ∀ (h c : Nat) (r : Int32), n < h + c → b < c → c ≤ n → gz_B r (pg_IG n X Y p a b c) → gz_G z (wM bd cI cJ n X Y mc LE MI GE ec CO kc LS GT tl GP) 53 [(0, .ref (bd 0)), (1, .int (nI p)), (2, .int r), (3, .int (nI a)), (4, .int (nI b)), (5, .int (nI c))] [] := by
            intro hbn h
            induction h with
            | zero => intro c r j1 j2 j3; exact absurd j1 (by omega)
            | succ h ihC =>
              intro c r j1 j2 j3 hB
              refine gz_iload E dX1_isCorner_53 rfl ?_
              refine gz_aload_n E dX1_isCorner_55 rfl rfl ?_
              refine gz_get E inwX1_isCorner 0 0 dX1_isCorner_56 flX1_isCorner_56 rfl rfl (by decide) rfl rfl ?_
              refine gz_icN_ge (tgt := 108) E dX1_isCorner_59 (by decide) (by omega) (by omega) (fun q59 => ?_) (fun q59 => ?_)
              · skip
                refine gz_iinc (lv' := [(0, _), (1, _), (2, _), (3, _), (4, _), (5, _)]) E dX1_isCorner_108 rfl (gz_nI1 _) (by decide) rfl ?_
                refine gz_goto (tgt := 17) E dX1_isCorner_111 (by decide) ?_
                refine gz_sub (lv' := [(0, _), (1, _), (2, _), (3, _), (4, _)]) [0, 1, 2, 3, 4] rfl ?_
                first
                  | exact ihB (b + 1) _ (by omega) (by omega) (by omega) (gz_B_c hB ((pg_IG_e (Or.inl (by omega)) j3).trans (pg_IB_s g2)))
                  | exact ihB (b + 1) _ (by omega) (by omega) (by omega) (gz_B_c hB ((pg_IG_e (Or.inr (Or.inl q68.symm)) j3).trans (pg_IB_s g2)))
                  | exact ihB (b + 1) _ (by omega) (by omega) (by omega) (gz_B_c hB ((pg_IG_e (Or.inr (Or.inr q74.symm)) j3).trans (pg_IB_s g2)))
                  | exact ihB (b + 1) _ (by omega) (by omega) (by omega) (gz_B_c hB ⟨fun q => absurd q q63, fun q => absurd (pg_IG_m ((pg_IB_s g2).mpr q) j3) q63⟩)
              · skip
                have hc : c < n := by omega
                have ha : a < n := by omega
                have hb : b < n := by omega
                refine gz_iload_n E dX1_isCorner_62 rfl rfl ?_
                refine gz_ifB_eq (tgt := 108) E hB dX1_isCorner_63 (by decide) (fun q63 => ?_) (fun q63 => ?_)
                · skip
                  refine gz_iinc (lv' := [(0, _), (1, _), (2, _), (3, _), (4, _), (5, _)]) E dX1_isCorner_108 rfl (gz_nI1 _) (by decide) rfl ?_
                  refine gz_goto (tgt := 17) E dX1_isCorner_111 (by decide) ?_
                  refine gz_sub (lv' := [(0, _), (1, _), (2, _), (3, _), (4, _)]) [0, 1, 2, 3, 4] rfl ?_
                  first
                    | exact ihB (b + 1) _ (by omega) (by omega) (by omega) (gz_B_c hB ((pg_IG_e (Or.inl (by omega)) j3).trans (pg_IB_s g2)))
                    | exact ihB (b + 1) _ (by omega) (by omega) (by omega) (gz_B_c hB ((pg_IG_e (Or.inr (Or.inl q68.symm)) j3).trans (pg_IB_s g2)))
                    | exact ihB (b + 1) _ (by omega) (by omega) (by omega) (gz_B_c hB ((pg_IG_e (Or.inr (Or.inr q74.symm)) j3).trans (pg_IB_s g2)))
                    | exact ihB (b + 1) _ (by omega) (by omega) (by omega) (gz_B_c hB ⟨fun q => absurd q q63, fun q => absurd (pg_IG_m ((pg_IB_s g2).mpr q) j3) q63⟩)
                · skip
                  refine gz_iload_n E dX1_isCorner_66 rfl rfl ?_
                  refine gz_iload_n E dX1_isCorner_67 rfl rfl ?_
                  refine gz_icN_eq (tgt := 108) E dX1_isCorner_68 (by decide) (by omega) (by omega) (fun q68 => ?_) (fun q68 => ?_)
                  · skip
                    refine gz_iinc (lv' := [(0, _), (1, _), (2, _), (3, _), (4, _), (5, _)]) E dX1_isCorner_108 rfl (gz_nI1 _) (by decide) rfl ?_
                    refine gz_goto (tgt := 17) E dX1_isCorner_111 (by decide) ?_
                    refine gz_sub (lv' := [(0, _), (1, _), (2, _), (3, _), (4, _)]) [0, 1, 2, 3, 4] rfl ?_
                    first
                      | exact ihB (b + 1) _ (by omega) (by omega) (by omega) (gz_B_c hB ((pg_IG_e (Or.inl (by omega)) j3).trans (pg_IB_s g2)))
                      | exact ihB (b + 1) _ (by omega) (by omega) (by omega) (gz_B_c hB ((pg_IG_e (Or.inr (Or.inl q68.symm)) j3).trans (pg_IB_s g2)))
                      | exact ihB (b + 1) _ (by omega) (by omega) (by omega) (gz_B_c hB ((pg_IG_e (Or.inr (Or.inr q74.symm)) j3).trans (pg_IB_s g2)))
                      | exact ihB (b + 1) _ (by omega) (by omega) (by omega) (gz_B_c hB ⟨fun q => absurd q q63, fun q => absurd (pg_IG_m ((pg_IB_s g2).mpr q) j3) q63⟩)
                  · skip
                    refine gz_iload E dX1_isCorner_71 rfl ?_
                    refine gz_iload_n E dX1_isCorner_73 rfl rfl ?_
                    refine gz_icN_eq (tgt := 108) E dX1_isCorner_74 (by decide) (by omega) (by omega) (fun q74 => ?_) (fun q74 => ?_)
                    · skip
                      refine gz_iinc (lv' := [(0, _), (1, _), (2, _), (3, _), (4, _), (5, _)]) E dX1_isCorner_108 rfl (gz_nI1 _) (by decide) rfl ?_
                      refine gz_goto (tgt := 17) E dX1_isCorner_111 (by decide) ?_
                      refine gz_sub (lv' := [(0, _), (1, _), (2, _), (3, _), (4, _)]) [0, 1, 2, 3, 4] rfl ?_
                      first
                        | exact ihB (b + 1) _ (by omega) (by omega) (by omega) (gz_B_c hB ((pg_IG_e (Or.inl (by omega)) j3).trans (pg_IB_s g2)))
                        | exact ihB (b + 1) _ (by omega) (by omega) (by omega) (gz_B_c hB ((pg_IG_e (Or.inr (Or.inl q68.symm)) j3).trans (pg_IB_s g2)))
                        | exact ihB (b + 1) _ (by omega) (by omega) (by omega) (gz_B_c hB ((pg_IG_e (Or.inr (Or.inr q74.symm)) j3).trans (pg_IB_s g2)))
                        | exact ihB (b + 1) _ (by omega) (by omega) (by omega) (gz_B_c hB ⟨fun q => absurd q q63, fun q => absurd (pg_IG_m ((pg_IB_s g2).mpr q) j3) q63⟩)
                    · skip
                      refine gz_iload E dX1_isCorner_77 rfl ?_
                      refine gz_iload_n E dX1_isCorner_79 rfl rfl ?_
                      refine gz_icN_eq (tgt := 96) E dX1_isCorner_80 (by decide) (by omega) (by omega) (fun q80 => ?_) (fun q80 => ?_)
                      · skip
                        refine gz_iconst (v := nI 1) E dX1_isCorner_96 (by decide) ?_
                        refine gz_goto (tgt := 101) E dX1_isCorner_97 (by decide) ?_
                        refine gz_istore_n (lv' := [(0, _), (1, _), (2, _), (3, _), (4, _), (5, _)]) E dX1_isCorner_101 rfl (by decide) rfl ?_
                        refine gz_iinc (lv' := [(0, _), (1, _), (2, _), (3, _), (4, _), (5, _)]) E dX1_isCorner_102 rfl (gz_nI1 _) (by decide) rfl ?_
                        refine gz_goto (tgt := 53) E dX1_isCorner_105 (by decide) ?_
                        first
                          | exact ihC (c + 1) _ (by omega) (by omega) (by omega) (gz_B_t ((pg_IG_s j2).mpr ⟨q63, fun _ _ k => absurd q80.symm k⟩))
                          | exact ihC (c + 1) _ (by omega) (by omega) (by omega) (gz_B_t ((pg_IG_s j2).mpr ⟨q63, fun _ _ _ => q93⟩))
                          | exact ihC (c + 1) _ (by omega) (by omega) (by omega) (gz_B_f (fun q => ((pg_IG_s j2).mp q).2 (fun e => q68 e.symm) (fun e => q74 e.symm) (fun e => q80 e.symm) q93))
                      · skip
                        refine gz_aload_n E dX1_isCorner_83 rfl rfl ?_
                        refine gz_iload_n E dX1_isCorner_84 rfl rfl ?_
                        refine gz_iload_n E dX1_isCorner_85 rfl rfl ?_
                        refine gz_iload E dX1_isCorner_86 rfl ?_
                        refine gz_iload E dX1_isCorner_88 rfl ?_
                        refine gz_cali (n := 4) E 0 dX1_isCorner_90 gX1_isCorner_X1_within (mtX1_within SB (by assumption) (by assumption) (by assumption) (by assumption)) rfl rfl ⟨rfl, rfl⟩ (by decide +kernel) ⟨Nat.le_of_ble_eq_true rfl, Nat.le_of_ble_eq_true rfl⟩ rfl rfl rfl rfl (Nat.le_of_ble_eq_true rfl) (fun r90 w90 hr90 => ?_)
                        obtain ⟨hr90, rfl⟩ := hr90
                        refine gz_ifB_ne (tgt := 100) E hr90 dX1_isCorner_93 (by decide) (fun q93 => ?_) (fun q93 => ?_)
                        · skip
                          refine gz_iconst (v := nI 0) E dX1_isCorner_100 (by decide) ?_
                          refine gz_istore_n (lv' := [(0, _), (1, _), (2, _), (3, _), (4, _), (5, _)]) E dX1_isCorner_101 rfl (by decide) rfl ?_
                          refine gz_iinc (lv' := [(0, _), (1, _), (2, _), (3, _), (4, _), (5, _)]) E dX1_isCorner_102 rfl (gz_nI1 _) (by decide) rfl ?_
                          refine gz_goto (tgt := 53) E dX1_isCorner_105 (by decide) ?_
                          first
                            | exact ihC (c + 1) _ (by omega) (by omega) (by omega) (gz_B_t ((pg_IG_s j2).mpr ⟨q63, fun _ _ k => absurd q80.symm k⟩))
                            | exact ihC (c + 1) _ (by omega) (by omega) (by omega) (gz_B_t ((pg_IG_s j2).mpr ⟨q63, fun _ _ _ => q93⟩))
                            | exact ihC (c + 1) _ (by omega) (by omega) (by omega) (gz_B_f (fun q => ((pg_IG_s j2).mp q).2 (fun e => q68 e.symm) (fun e => q74 e.symm) (fun e => q80 e.symm) q93))
                        · skip
                          refine gz_iconst (v := nI 1) E dX1_isCorner_96 (by decide) ?_
                          refine gz_goto (tgt := 101) E dX1_isCorner_97 (by decide) ?_
                          refine gz_istore_n (lv' := [(0, _), (1, _), (2, _), (3, _), (4, _), (5, _)]) E dX1_isCorner_101 rfl (by decide) rfl ?_
                          refine gz_iinc (lv' := [(0, _), (1, _), (2, _), (3, _), (4, _), (5, _)]) E dX1_isCorner_102 rfl (gz_nI1 _) (by decide) rfl ?_
                          refine gz_goto (tgt := 53) E dX1_isCorner_105 (by decide) ?_
                          first
                            | exact ihC (c + 1) _ (by omega) (by omega) (by omega) (gz_B_t ((pg_IG_s j2).mpr ⟨q63, fun _ _ k => absurd q80.symm k⟩))
                            | exact ihC (c + 1) _ (by omega) (by omega) (by omega) (gz_B_t ((pg_IG_s j2).mpr ⟨q63, fun _ _ _ => q93⟩))
                            | exact ihC (c + 1) _ (by omega) (by omega) (by omega) (gz_B_f (fun q => ((pg_IG_s j2).mp q).2 (fun e => q68 e.symm) (fun e => q74 e.symm) (fun e => q80 e.symm) q93))
          refine gz_iload E dX1_isCorner_17 rfl ?_
          refine gz_aload_n E dX1_isCorner_19 rfl rfl ?_
          refine gz_get E inwX1_isCorner 0 0 dX1_isCorner_20 flX1_isCorner_56 rfl rfl (by decide) rfl rfl ?_
          refine gz_icN_ge (tgt := 114) E dX1_isCorner_23 (by decide) (by omega) (by omega) (fun q23 => ?_) (fun q23 => ?_)
          · skip
            refine gz_iinc (lv' := [(0, _), (1, _), (2, _), (3, _), (4, _)]) E dX1_isCorner_114 rfl (gz_nI1 _) (by decide) rfl ?_
            refine gz_goto (tgt := 4) E dX1_isCorner_117 (by decide) ?_
            refine gz_sub (lv' := [(0, _), (1, _), (2, _), (3, _)]) [0, 1, 2, 3] rfl ?_
            have e : b = n := by omega
            subst e
            exact ihA (a + 1) _ (by omega) (by omega) (gz_B_c hB pg_IA_s)
          · skip
            have ha : a < n := by omega
            have hb : b < n := by omega
            refine gz_iload_n E dX1_isCorner_26 rfl rfl ?_
            refine gz_ifB_eq (tgt := 45) E hB dX1_isCorner_27 (by decide) (fun q27 => ?_) (fun q27 => ?_)
            · skip
              refine gz_iconst (v := nI 0) E dX1_isCorner_45 (by decide) ?_
              refine gz_istore_n (lv' := [(0, _), (1, _), (2, _), (3, _), (4, _)]) E dX1_isCorner_46 rfl (by decide) rfl ?_
              refine gz_iload E dX1_isCorner_47 rfl ?_
              refine gz_iconst (v := nI 1) E dX1_isCorner_49 (by decide) ?_
              refine gz_iaddN E dX1_isCorner_50 ?_
              refine gz_istore (lv' := [(0, _), (1, _), (2, _), (3, _), (4, _), (5, _)]) E dX1_isCorner_51 (by decide) rfl ?_
              first
                | exact loopC (by omega) (n + 1) (b + 1) _ (by omega) (by omega) (by omega) (gz_B_t (pg_IG_0.mpr ⟨q27, q38⟩))
                | exact loopC (by omega) (n + 1) (b + 1) _ (by omega) (by omega) (by omega) (gz_B_f (fun q => q27 (pg_IG_0.mp q).1))
                | exact loopC (by omega) (n + 1) (b + 1) _ (by omega) (by omega) (by omega) (gz_B_f (fun q => (pg_IG_0.mp q).2 q38))
            · skip
              refine gz_aload_n E dX1_isCorner_30 rfl rfl ?_
              refine gz_iload_n E dX1_isCorner_31 rfl rfl ?_
              refine gz_iload_n E dX1_isCorner_32 rfl rfl ?_
              refine gz_iload E dX1_isCorner_33 rfl ?_
              refine gz_cali (n := 3) E 0 dX1_isCorner_35 gX1_isCorner_X1_between (mtX1_between SB (by assumption) (by assumption) (by assumption)) rfl rfl ⟨rfl, rfl⟩ (by decide +kernel) ⟨Nat.le_of_ble_eq_true rfl, Nat.le_of_ble_eq_true rfl⟩ rfl rfl rfl rfl (Nat.le_of_ble_eq_true rfl) (fun r35 w35 hr35 => ?_)
              obtain ⟨hr35, rfl⟩ := hr35
              refine gz_ifB_ne (tgt := 45) E hr35 dX1_isCorner_38 (by decide) (fun q38 => ?_) (fun q38 => ?_)
              · skip
                refine gz_iconst (v := nI 0) E dX1_isCorner_45 (by decide) ?_
                refine gz_istore_n (lv' := [(0, _), (1, _), (2, _), (3, _), (4, _)]) E dX1_isCorner_46 rfl (by decide) rfl ?_
                refine gz_iload E dX1_isCorner_47 rfl ?_
                refine gz_iconst (v := nI 1) E dX1_isCorner_49 (by decide) ?_
                refine gz_iaddN E dX1_isCorner_50 ?_
                refine gz_istore (lv' := [(0, _), (1, _), (2, _), (3, _), (4, _), (5, _)]) E dX1_isCorner_51 (by decide) rfl ?_
                first
                  | exact loopC (by omega) (n + 1) (b + 1) _ (by omega) (by omega) (by omega) (gz_B_t (pg_IG_0.mpr ⟨q27, q38⟩))
                  | exact loopC (by omega) (n + 1) (b + 1) _ (by omega) (by omega) (by omega) (gz_B_f (fun q => q27 (pg_IG_0.mp q).1))
                  | exact loopC (by omega) (n + 1) (b + 1) _ (by omega) (by omega) (by omega) (gz_B_f (fun q => (pg_IG_0.mp q).2 q38))
              · skip
                refine gz_iconst (v := nI 1) E dX1_isCorner_41 (by decide) ?_
                refine gz_goto (tgt := 46) E dX1_isCorner_42 (by decide) ?_
                refine gz_istore_n (lv' := [(0, _), (1, _), (2, _), (3, _), (4, _)]) E dX1_isCorner_46 rfl (by decide) rfl ?_
                refine gz_iload E dX1_isCorner_47 rfl ?_
                refine gz_iconst (v := nI 1) E dX1_isCorner_49 (by decide) ?_
                refine gz_iaddN E dX1_isCorner_50 ?_
                refine gz_istore (lv' := [(0, _), (1, _), (2, _), (3, _), (4, _), (5, _)]) E dX1_isCorner_51 (by decide) rfl ?_
                first
                  | exact loopC (by omega) (n + 1) (b + 1) _ (by omega) (by omega) (by omega) (gz_B_t (pg_IG_0.mpr ⟨q27, q38⟩))
                  | exact loopC (by omega) (n + 1) (b + 1) _ (by omega) (by omega) (by omega) (gz_B_f (fun q => q27 (pg_IG_0.mp q).1))
                  | exact loopC (by omega) (n + 1) (b + 1) _ (by omega) (by omega) (by omega) (gz_B_f (fun q => (pg_IG_0.mp q).2 q38))
      refine gz_iload_n E dX1_isCorner_4 rfl rfl ?_
      refine gz_aload_n E dX1_isCorner_5 rfl rfl ?_
      refine gz_get E inwX1_isCorner 0 0 dX1_isCorner_6 flX1_isCorner_56 rfl rfl (by decide) rfl rfl ?_
      refine gz_icN_ge (tgt := 120) E dX1_isCorner_9 (by decide) (by omega) (by omega) (fun q9 => ?_) (fun q9 => ?_)
      · skip
        refine gz_iload_n E dX1_isCorner_120 rfl rfl ?_
        have e : a = n := by omega
        subst e
        exact ret _ _ _ _ dX1_isCorner_121 (gz_bnar hB) ⟨gz_B_c hB pg_IA_n, rfl⟩
      · skip
        refine gz_iload_n E dX1_isCorner_12 rfl rfl ?_
        refine gz_iconst (v := nI 1) E dX1_isCorner_13 (by decide) ?_
        refine gz_iaddN E dX1_isCorner_14 ?_
        refine gz_istore (lv' := [(0, _), (1, _), (2, _), (3, _), (4, _)]) E dX1_isCorner_15 (by decide) rfl ?_
        exact loopB (by omega) (n + 1) (a + 1) _ (by omega) (by omega) (by omega) (gz_B_c hB pg_IB_0.symm)
  refine gz_iconst (v := nI 1) E dX1_isCorner_0 (by decide) ?_
  refine gz_istore_n (lv' := [(0, _), (1, _), (2, _)]) E dX1_isCorner_1 rfl (by decide) rfl ?_
  refine gz_iconst (v := nI 0) E dX1_isCorner_2 (by decide) ?_
  refine gz_istore_n (lv' := [(0, _), (1, _), (2, _), (3, _)]) E dX1_isCorner_3 rfl (by decide) rfl ?_
  exact loopA (n + 1) 0 _ (by omega) (by omega) (gz_B_t pg_IA_0)
/-- b may follow a, as the reference asks -/
def pg_FO (n : Nat) (X Y : Nat → Int) (a b : Nat) : Prop := b ≠ a ∧ pg_IC n X Y b ∧ ∀ c, c < n → c ≠ a → c ≠ b → 0 ≤ pg_tn X Y a b c
def pg_FS (n : Nat) (X Y : Nat → Int) (a k : Nat) (u : Int32) : Prop := (u = -1 ∧ ∀ b, b < k → ¬ pg_FO n X Y a b) ∨ ∃ y, y < k ∧ u = nI y ∧ pg_FO n X Y a y ∧ ∀ b, b < y → ¬ pg_FO n X Y a b
theorem pg_FS_no {n a k : Nat} {X Y : Nat → Int} {u : Int32} (h : pg_FS n X Y a k u) (hk : ¬ pg_FO n X Y a k) : pg_FS n X Y a (k + 1) u := by
  rcases h with ⟨h1, h2⟩ | ⟨y, h1, h2, h3, h4⟩
  · exact Or.inl ⟨h1, pg_lt_s h2 hk⟩
  · exact Or.inr ⟨y, by omega, h2, h3, h4⟩
theorem pg_FS_old {n a k : Nat} {X Y : Nat → Int} {u : Int32} (h : pg_FS n X Y a k u) (hu : 0 ≤ u) : pg_FS n X Y a (k + 1) u := by
  rcases h with ⟨h1, h2⟩ | ⟨y, h1, h2, h3, h4⟩
  · exact absurd (h1 ▸ hu) (by decide)
  · exact Or.inr ⟨y, by omega, h2, h3, h4⟩
theorem pg_FS_new {n a k : Nat} {X Y : Nat → Int} {u : Int32} (hk14 : k ≤ 14) (h : pg_FS n X Y a k u) (hk : pg_FO n X Y a k) (hu : ¬ 0 ≤ u) : pg_FS n X Y a (k + 1) (nI k) := by
  rcases h with ⟨h1, h2⟩ | ⟨y, h1, h2, h3, h4⟩
  · exact Or.inr ⟨k, by omega, rfl, hk, h2⟩
  · exact absurd (h2 ▸ nI_pos' (by omega)) hu
abbrev rmX1_following : Room := { frames := 4, cells := 0, slots := 0, locals := 95 }
theorem inwX1_following : ∀ w ∈ wsX10, w ∈ wsX1_following := fun _ h => List.mem_cons_of_mem _ (List.mem_append_right _ h)
set_option maxRecDepth 20000 in
theorem flX1_following_56 : Cond.fieldLink RX1 56 RX1 (TX1 0).2.1 (TX1 0).2.2.1 ∈ wsX1_following := by decide +kernel
set_option maxRecDepth 20000 in
set_option maxHeartbeats 4000000 in
theorem mtX1_following (SB : pg_ok n X Y) {a : Nat} (ha : a < n) : gz_Ki l yX1_following wsX1_following rmX1_following D [(cI, .int), (cJ, .long)] [.ref (bd 0), .int (nI a)] (wM bd cI cJ n X Y mc LE MI GE ec CO kc LS GT tl GP) (fun r w1 => pg_FS n X Y a n r ∧ w1 = (wM bd cI cJ n X Y mc LE MI GE ec CO kc LS GT tl GP)) := by
  refine gz_ofi (cc := cX1_following) (maxL := 6) (own := RX1) (by decide +kernel) rfl rfl rfl (Nat.le_of_ble_eq_true rfl) ?_
  intro z E ret
  have hn := SB.1
  show gz_G z _ 0 [(0, .ref (bd 0)), (1, .int (nI a))] []
  have loopA : ∀ (f b : Nat) (u : Int32), n < f + b → b ≤ n → pg_FS n X Y a b u → gz_G z (wM bd cI cJ n X Y mc LE MI GE ec CO kc LS GT tl GP) 4 [(0, .ref (bd 0)), (1, .int (nI a)), (2, .int u), (3, .int (nI b))] [] := by
    intro f
    induction f with
    | zero => intro b u h1 h2; exact absurd h1 (by omega)
    | succ f ihA =>
      intro b u h1 h2 hF
      have loopB : b < n → ∀ (g c : Nat) (r : Int32), n < g + c → c ≤ n → gz_B r (b ≠ a ∧ pg_IC n X Y b ∧ ∀ c', c' < c → c' ≠ a → c' ≠ b → 0 ≤ pg_tn X Y a b c') → gz_G z (wM bd cI cJ n X Y mc LE MI GE ec CO kc LS GT tl GP) 35 [(0, .ref (bd 0)), (1, .int (nI a)), (2, .int u), (3, .int (nI b)), (4, .int r), (5, .int (nI c))] [] := by
        intro hbn g
        induction g with
        | zero => intro c r g1 g2; exact absurd g1 (by omega)
        | succ g ihB =>
          intro c r g1 g2 hB
          refine gz_iload E dX1_following_35 rfl ?_
          refine gz_aload_n E dX1_following_37 rfl rfl ?_
          refine gz_get E inwX1_following 0 0 dX1_following_38 flX1_following_56 rfl rfl (by decide) rfl rfl ?_
          refine gz_icN_ge (tgt := 85) E dX1_following_41 (by decide) (by omega) (by omega) (fun q41 => ?_) (fun q41 => ?_)
          · skip
            refine gz_iload E dX1_following_85 rfl ?_
            refine gz_ifB_eq (tgt := 98) E hB dX1_following_87 (by decide) (fun q87 => ?_) (fun q87 => ?_)
            · skip
              refine gz_iload_n E dX1_following_98 rfl rfl ?_
              refine gz_istore_n (lv' := [(0, _), (1, _), (2, _), (3, _), (4, _), (5, _)]) E dX1_following_99 rfl (by decide) rfl ?_
              refine gz_iinc (lv' := [(0, _), (1, _), (2, _), (3, _), (4, _), (5, _)]) E dX1_following_100 rfl (gz_nI1 _) (by decide) rfl ?_
              refine gz_goto (tgt := 4) E dX1_following_103 (by decide) ?_
              refine gz_sub (lv' := [(0, _), (1, _), (2, _), (3, _)]) [0, 1, 2, 3] rfl ?_
              first
                | exact ihA (b + 1) _ (by omega) (by omega) (pg_FS_old hF q91)
                | exact absurd q87 q46
                | exact ihA (b + 1) _ (by omega) (by omega) (pg_FS_new (by omega) hF ⟨q87.1, q87.2.1, fun c' k1 => q87.2.2 c' (by omega)⟩ q91)
                | exact ihA (b + 1) _ (by omega) (by omega) (pg_FS_no hF (fun q => q87 ⟨q.1, q.2.1, fun c' k1 => q.2.2 c' (by omega)⟩))
            · skip
              refine gz_iload_n E dX1_following_90 rfl rfl ?_
              refine gz_if_ge (tgt := 98) E dX1_following_91 (by decide) (fun q91 => ?_) (fun q91 => ?_)
              · skip
                refine gz_iload_n E dX1_following_98 rfl rfl ?_
                refine gz_istore_n (lv' := [(0, _), (1, _), (2, _), (3, _), (4, _), (5, _)]) E dX1_following_99 rfl (by decide) rfl ?_
                refine gz_iinc (lv' := [(0, _), (1, _), (2, _), (3, _), (4, _), (5, _)]) E dX1_following_100 rfl (gz_nI1 _) (by decide) rfl ?_
                refine gz_goto (tgt := 4) E dX1_following_103 (by decide) ?_
                refine gz_sub (lv' := [(0, _), (1, _), (2, _), (3, _)]) [0, 1, 2, 3] rfl ?_
                first
                  | exact ihA (b + 1) _ (by omega) (by omega) (pg_FS_old hF q91)
                  | exact absurd q87 q46
                  | exact ihA (b + 1) _ (by omega) (by omega) (pg_FS_new (by omega) hF ⟨q87.1, q87.2.1, fun c' k1 => q87.2.2 c' (by omega)⟩ q91)
                  | exact ihA (b + 1) _ (by omega) (by omega) (pg_FS_no hF (fun q => q87 ⟨q.1, q.2.1, fun c' k1 => q.2.2 c' (by omega)⟩))
              · skip
                refine gz_iload_n E dX1_following_94 rfl rfl ?_
                refine gz_goto (tgt := 99) E dX1_following_95 (by decide) ?_
                refine gz_istore_n (lv' := [(0, _), (1, _), (2, _), (3, _), (4, _), (5, _)]) E dX1_following_99 rfl (by decide) rfl ?_
                refine gz_iinc (lv' := [(0, _), (1, _), (2, _), (3, _), (4, _), (5, _)]) E dX1_following_100 rfl (gz_nI1 _) (by decide) rfl ?_
                refine gz_goto (tgt := 4) E dX1_following_103 (by decide) ?_
                refine gz_sub (lv' := [(0, _), (1, _), (2, _), (3, _)]) [0, 1, 2, 3] rfl ?_
                first
                  | exact ihA (b + 1) _ (by omega) (by omega) (pg_FS_old hF q91)
                  | exact absurd q87 q46
                  | exact ihA (b + 1) _ (by omega) (by omega) (pg_FS_new (by omega) hF ⟨q87.1, q87.2.1, fun c' k1 => q87.2.2 c' (by omega)⟩ q91)
                  | exact ihA (b + 1) _ (by omega) (by omega) (pg_FS_no hF (fun q => q87 ⟨q.1, q.2.1, fun c' k1 => q.2.2 c' (by omega)⟩))
          · skip
            have hc : c < n := by omega
            have sb := pg_sg_b (pg_tn X Y a b c)
            have s2 := pg_sg_neg (x := pg_tn X Y a b c)
            refine gz_iload E dX1_following_44 rfl ?_
            refine gz_ifB_eq (tgt := 85) E hB dX1_following_46 (by decide) (fun q46 => ?_) (fun q46 => ?_)
            · skip
              refine gz_iload E dX1_following_85 rfl ?_
              refine gz_ifB_eq (tgt := 98) E hB dX1_following_87 (by decide) (fun q87 => ?_) (fun q87 => ?_)
              · skip
                refine gz_iload_n E dX1_following_98 rfl rfl ?_
                refine gz_istore_n (lv' := [(0, _), (1, _), (2, _), (3, _), (4, _), (5, _)]) E dX1_following_99 rfl (by decide) rfl ?_
                refine gz_iinc (lv' := [(0, _), (1, _), (2, _), (3, _), (4, _), (5, _)]) E dX1_following_100 rfl (gz_nI1 _) (by decide) rfl ?_
                refine gz_goto (tgt := 4) E dX1_following_103 (by decide) ?_
                refine gz_sub (lv' := [(0, _), (1, _), (2, _), (3, _)]) [0, 1, 2, 3] rfl ?_
                first
                  | exact ihA (b + 1) _ (by omega) (by omega) (pg_FS_old hF q91)
                  | exact absurd q87 q46
                  | exact ihA (b + 1) _ (by omega) (by omega) (pg_FS_new (by omega) hF ⟨q87.1, q87.2.1, fun c' k1 => q87.2.2 c' (by omega)⟩ q91)
                  | exact ihA (b + 1) _ (by omega) (by omega) (pg_FS_no hF (fun q => q87 ⟨q.1, q.2.1, fun c' k1 => q.2.2 c' (by omega)⟩))
              · skip
                refine gz_iload_n E dX1_following_90 rfl rfl ?_
                refine gz_if_ge (tgt := 98) E dX1_following_91 (by decide) (fun q91 => ?_) (fun q91 => ?_)
                · skip
                  refine gz_iload_n E dX1_following_98 rfl rfl ?_
                  refine gz_istore_n (lv' := [(0, _), (1, _), (2, _), (3, _), (4, _), (5, _)]) E dX1_following_99 rfl (by decide) rfl ?_
                  refine gz_iinc (lv' := [(0, _), (1, _), (2, _), (3, _), (4, _), (5, _)]) E dX1_following_100 rfl (gz_nI1 _) (by decide) rfl ?_
                  refine gz_goto (tgt := 4) E dX1_following_103 (by decide) ?_
                  refine gz_sub (lv' := [(0, _), (1, _), (2, _), (3, _)]) [0, 1, 2, 3] rfl ?_
                  first
                    | exact ihA (b + 1) _ (by omega) (by omega) (pg_FS_old hF q91)
                    | exact absurd q87 q46
                    | exact ihA (b + 1) _ (by omega) (by omega) (pg_FS_new (by omega) hF ⟨q87.1, q87.2.1, fun c' k1 => q87.2.2 c' (by omega)⟩ q91)
                    | exact ihA (b + 1) _ (by omega) (by omega) (pg_FS_no hF (fun q => q87 ⟨q.1, q.2.1, fun c' k1 => q.2.2 c' (by omega)⟩))
                · skip
                  refine gz_iload_n E dX1_following_94 rfl rfl ?_
                  refine gz_goto (tgt := 99) E dX1_following_95 (by decide) ?_
                  refine gz_istore_n (lv' := [(0, _), (1, _), (2, _), (3, _), (4, _), (5, _)]) E dX1_following_99 rfl (by decide) rfl ?_
                  refine gz_iinc (lv' := [(0, _), (1, _), (2, _), (3, _), (4, _), (5, _)]) E dX1_following_100 rfl (gz_nI1 _) (by decide) rfl ?_
                  refine gz_goto (tgt := 4) E dX1_following_103 (by decide) ?_
                  refine gz_sub (lv' := [(0, _), (1, _), (2, _), (3, _)]) [0, 1, 2, 3] rfl ?_
                  first
                    | exact ihA (b + 1) _ (by omega) (by omega) (pg_FS_old hF q91)
                    | exact absurd q87 q46
                    | exact ihA (b + 1) _ (by omega) (by omega) (pg_FS_new (by omega) hF ⟨q87.1, q87.2.1, fun c' k1 => q87.2.2 c' (by omega)⟩ q91)
                    | exact ihA (b + 1) _ (by omega) (by omega) (pg_FS_no hF (fun q => q87 ⟨q.1, q.2.1, fun c' k1 => q.2.2 c' (by omega)⟩))
            · skip
              refine gz_iload E dX1_following_49 rfl ?_
              refine gz_iload_n E dX1_following_51 rfl rfl ?_
              refine gz_icN_eq (tgt := 72) E dX1_following_52 (by decide) (by omega) (by omega) (fun q52 => ?_) (fun q52 => ?_)
              · skip
                refine gz_iconst (v := nI 1) E dX1_following_72 (by decide) ?_
                refine gz_goto (tgt := 77) E dX1_following_73 (by decide) ?_
                refine gz_istore (lv' := [(0, _), (1, _), (2, _), (3, _), (4, _), (5, _)]) E dX1_following_77 (by decide) rfl ?_
                refine gz_iinc (lv' := [(0, _), (1, _), (2, _), (3, _), (4, _), (5, _)]) E dX1_following_79 rfl (gz_nI1 _) (by decide) rfl ?_
                refine gz_goto (tgt := 35) E dX1_following_82 (by decide) ?_
                first
                  | exact ihB (c + 1) _ (by omega) (by omega) (gz_B_t ⟨q46.1, q46.2.1, pg_lt_s q46.2.2 (fun k _ => absurd q52 k)⟩)
                  | exact ihB (c + 1) _ (by omega) (by omega) (gz_B_t ⟨q46.1, q46.2.1, pg_lt_s q46.2.2 (fun _ k => absurd q58 k)⟩)
                  | exact ihB (c + 1) _ (by omega) (by omega) (gz_B_t ⟨q46.1, q46.2.1, pg_lt_s q46.2.2 (fun _ _ => by omega)⟩)
                  | exact ihB (c + 1) _ (by omega) (by omega) (gz_B_f (fun q => absurd (q.2.2 c (by omega) q52 q58) (by omega)))
              · skip
                refine gz_iload E dX1_following_55 rfl ?_
                refine gz_iload_n E dX1_following_57 rfl rfl ?_
                refine gz_icN_eq (tgt := 72) E dX1_following_58 (by decide) (by omega) (by omega) (fun q58 => ?_) (fun q58 => ?_)
                · skip
                  refine gz_iconst (v := nI 1) E dX1_following_72 (by decide) ?_
                  refine gz_goto (tgt := 77) E dX1_following_73 (by decide) ?_
                  refine gz_istore (lv' := [(0, _), (1, _), (2, _), (3, _), (4, _), (5, _)]) E dX1_following_77 (by decide) rfl ?_
                  refine gz_iinc (lv' := [(0, _), (1, _), (2, _), (3, _), (4, _), (5, _)]) E dX1_following_79 rfl (gz_nI1 _) (by decide) rfl ?_
                  refine gz_goto (tgt := 35) E dX1_following_82 (by decide) ?_
                  first
                    | exact ihB (c + 1) _ (by omega) (by omega) (gz_B_t ⟨q46.1, q46.2.1, pg_lt_s q46.2.2 (fun k _ => absurd q52 k)⟩)
                    | exact ihB (c + 1) _ (by omega) (by omega) (gz_B_t ⟨q46.1, q46.2.1, pg_lt_s q46.2.2 (fun _ k => absurd q58 k)⟩)
                    | exact ihB (c + 1) _ (by omega) (by omega) (gz_B_t ⟨q46.1, q46.2.1, pg_lt_s q46.2.2 (fun _ _ => by omega)⟩)
                    | exact ihB (c + 1) _ (by omega) (by omega) (gz_B_f (fun q => absurd (q.2.2 c (by omega) q52 q58) (by omega)))
                · skip
                  refine gz_aload_n E dX1_following_61 rfl rfl ?_
                  refine gz_iload_n E dX1_following_62 rfl rfl ?_
                  refine gz_iload_n E dX1_following_63 rfl rfl ?_
                  refine gz_iload E dX1_following_64 rfl ?_
                  refine gz_cali (n := 3) E 0 dX1_following_66 gX1_following_X1_turn (mtX1_turn SB (by assumption) (by assumption) (by assumption)) rfl rfl ⟨rfl, rfl⟩ (by decide +kernel) ⟨Nat.le_of_ble_eq_true rfl, Nat.le_of_ble_eq_true rfl⟩ rfl rfl rfl rfl (Nat.le_of_ble_eq_true rfl) (fun r66 w66 hr66 => ?_)
                  obtain ⟨rfl, rfl⟩ := hr66
                  refine gz_ifI_lt (tgt := 76) E dX1_following_69 (by decide) (by omega) (by omega) (fun q69 => ?_) (fun q69 => ?_)
                  · skip
                    refine gz_iconst (v := nI 0) E dX1_following_76 (by decide) ?_
                    refine gz_istore (lv' := [(0, _), (1, _), (2, _), (3, _), (4, _), (5, _)]) E dX1_following_77 (by decide) rfl ?_
                    refine gz_iinc (lv' := [(0, _), (1, _), (2, _), (3, _), (4, _), (5, _)]) E dX1_following_79 rfl (gz_nI1 _) (by decide) rfl ?_
                    refine gz_goto (tgt := 35) E dX1_following_82 (by decide) ?_
                    first
                      | exact ihB (c + 1) _ (by omega) (by omega) (gz_B_t ⟨q46.1, q46.2.1, pg_lt_s q46.2.2 (fun k _ => absurd q52 k)⟩)
                      | exact ihB (c + 1) _ (by omega) (by omega) (gz_B_t ⟨q46.1, q46.2.1, pg_lt_s q46.2.2 (fun _ k => absurd q58 k)⟩)
                      | exact ihB (c + 1) _ (by omega) (by omega) (gz_B_t ⟨q46.1, q46.2.1, pg_lt_s q46.2.2 (fun _ _ => by omega)⟩)
                      | exact ihB (c + 1) _ (by omega) (by omega) (gz_B_f (fun q => absurd (q.2.2 c (by omega) q52 q58) (by omega)))
                  · skip
                    refine gz_iconst (v := nI 1) E dX1_following_72 (by decide) ?_
                    refine gz_goto (tgt := 77) E dX1_following_73 (by decide) ?_
                    refine gz_istore (lv' := [(0, _), (1, _), (2, _), (3, _), (4, _), (5, _)]) E dX1_following_77 (by decide) rfl ?_
                    refine gz_iinc (lv' := [(0, _), (1, _), (2, _), (3, _), (4, _), (5, _)]) E dX1_following_79 rfl (gz_nI1 _) (by decide) rfl ?_
                    refine gz_goto (tgt := 35) E dX1_following_82 (by decide) ?_
                    first
                      | exact ihB (c + 1) _ (by omega) (by omega) (gz_B_t ⟨q46.1, q46.2.1, pg_lt_s q46.2.2 (fun k _ => absurd q52 k)⟩)
                      | exact ihB (c + 1) _ (by omega) (by omega) (gz_B_t ⟨q46.1, q46.2.1, pg_lt_s q46.2.2 (fun _ k => absurd q58 k)⟩)
                      | exact ihB (c + 1) _ (by omega) (by omega) (gz_B_t ⟨q46.1, q46.2.1, pg_lt_s q46.2.2 (fun _ _ => by omega)⟩)
                      | exact ihB (c + 1) _ (by omega) (by omega) (gz_B_f (fun q => absurd (q.2.2 c (by omega) q52 q58) (by omega)))
      refine gz_iload_n E dX1_following_4 rfl rfl ?_
      refine gz_aload_n E dX1_following_5 rfl rfl ?_
      refine gz_get E inwX1_following 0 0 dX1_following_6 flX1_following_56 rfl rfl (by decide) rfl rfl ?_
      refine gz_icN_ge (tgt := 106) E dX1_following_9 (by decide) (by omega) (by omega) (fun q9 => ?_) (fun q9 => ?_)
      · skip
        refine gz_iload_n E dX1_following_106 rfl rfl ?_
        have e : b = n := by omega
        subst e
        exact ret _ _ _ _ dX1_following_107 rfl ⟨hF, rfl⟩
      · skip
        have hb : b < n := by omega
        refine gz_iload_n E dX1_following_12 rfl rfl ?_
        refine gz_iload_n E dX1_following_13 rfl rfl ?_
        refine gz_icN_eq (tgt := 29) E dX1_following_14 (by decide) (by omega) (by omega) (fun q14 => ?_) (fun q14 => ?_)
        · skip
          refine gz_iconst (v := nI 0) E dX1_following_29 (by decide) ?_
          refine gz_istore (lv' := [(0, _), (1, _), (2, _), (3, _), (4, _)]) E dX1_following_30 (by decide) rfl ?_
          refine gz_iconst (v := nI 0) E dX1_following_32 (by decide) ?_
          refine gz_istore (lv' := [(0, _), (1, _), (2, _), (3, _), (4, _), (5, _)]) E dX1_following_33 (by decide) rfl ?_
          first
            | exact loopB (by omega) (n + 1) 0 _ (by omega) (by omega) (gz_B_t ⟨q14, q22, fun c' k => absurd k (by omega)⟩)
            | exact loopB (by omega) (n + 1) 0 _ (by omega) (by omega) (gz_B_f (fun q => q.1 q14))
            | exact loopB (by omega) (n + 1) 0 _ (by omega) (by omega) (gz_B_f (fun q => q22 q.2.1))
        · skip
          refine gz_aload_n E dX1_following_17 rfl rfl ?_
          refine gz_iload_n E dX1_following_18 rfl rfl ?_
          refine gz_cali (n := 1) E 0 dX1_following_19 gX1_following_X1_isCorner (mtX1_isCorner SB (by assumption)) rfl rfl ⟨rfl, rfl⟩ (by decide +kernel) ⟨Nat.le_of_ble_eq_true rfl, Nat.le_of_ble_eq_true rfl⟩ rfl rfl rfl rfl (Nat.le_of_ble_eq_true rfl) (fun r19 w19 hr19 => ?_)
          obtain ⟨hr19, rfl⟩ := hr19
          refine gz_ifB_eq (tgt := 29) E hr19 dX1_following_22 (by decide) (fun q22 => ?_) (fun q22 => ?_)
          · skip
            refine gz_iconst (v := nI 0) E dX1_following_29 (by decide) ?_
            refine gz_istore (lv' := [(0, _), (1, _), (2, _), (3, _), (4, _)]) E dX1_following_30 (by decide) rfl ?_
            refine gz_iconst (v := nI 0) E dX1_following_32 (by decide) ?_
            refine gz_istore (lv' := [(0, _), (1, _), (2, _), (3, _), (4, _), (5, _)]) E dX1_following_33 (by decide) rfl ?_
            first
              | exact loopB (by omega) (n + 1) 0 _ (by omega) (by omega) (gz_B_t ⟨q14, q22, fun c' k => absurd k (by omega)⟩)
              | exact loopB (by omega) (n + 1) 0 _ (by omega) (by omega) (gz_B_f (fun q => q.1 q14))
              | exact loopB (by omega) (n + 1) 0 _ (by omega) (by omega) (gz_B_f (fun q => q22 q.2.1))
          · skip
            refine gz_iconst (v := nI 1) E dX1_following_25 (by decide) ?_
            refine gz_goto (tgt := 30) E dX1_following_26 (by decide) ?_
            refine gz_istore (lv' := [(0, _), (1, _), (2, _), (3, _), (4, _)]) E dX1_following_30 (by decide) rfl ?_
            refine gz_iconst (v := nI 0) E dX1_following_32 (by decide) ?_
            refine gz_istore (lv' := [(0, _), (1, _), (2, _), (3, _), (4, _), (5, _)]) E dX1_following_33 (by decide) rfl ?_
            first
              | exact loopB (by omega) (n + 1) 0 _ (by omega) (by omega) (gz_B_t ⟨q14, q22, fun c' k => absurd k (by omega)⟩)
              | exact loopB (by omega) (n + 1) 0 _ (by omega) (by omega) (gz_B_f (fun q => q.1 q14))
              | exact loopB (by omega) (n + 1) 0 _ (by omega) (by omega) (gz_B_f (fun q => q22 q.2.1))
  refine gz_iconst (v := -1) E dX1_following_0 (by decide) ?_
  refine gz_istore_n (lv' := [(0, _), (1, _), (2, _)]) E dX1_following_1 rfl (by decide) rfl ?_
  refine gz_iconst (v := nI 0) E dX1_following_2 (by decide) ?_
  refine gz_istore_n (lv' := [(0, _), (1, _), (2, _), (3, _)]) E dX1_following_3 rfl (by decide) rfl ?_
  exact loopA (n + 1) 0 _ (by omega) (by omega) (Or.inl ⟨rfl, fun b hb => absurd hb (by omega)⟩)
end RB
